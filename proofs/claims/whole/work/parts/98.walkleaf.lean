/-! ===== Foresight.walkCall, walkAsk ===== -/
def sf_po (p : Nat) (C : sk_SI) (rm : Int) (rT : sk_Tb) (Go : sk_Or) (wk dp : Int) (I : sk_SI) (L : sk_SL) (TT : Int → sk_Tb) (W : Int → Prop) (V : Int → sk_Tb → Prop) (v : Int) (I' : sk_SI) (L' : sk_SL) (TT' : Int → sk_Tb) : Prop := sf_iv p C rm rT Go wk I' L' TT' ∧ sf_gr dp I L TT I' L' TT' ∧ (0 ≤ v ∧ v ≤ 7) ∧ (I' 48 14 = 0 → (∀ x, sf_b v x ↔ W x) ∧ ∀ t T', V t T' → sf_vs p C wk I' L' TT' t T')
def sf_sV (p : Nat) (C : sk_SI) (Go : sk_Or) (n : Nat) (T : sk_Tb) (s : Int) : Int → sk_Tb → Prop := fun t T' => (t = s ∧ T' = T) ∨ sk_VS p C (sk_WB p C Go n) (sk_VB p C Go n) T s t T'
theorem sf_fr_p {p : Nat} (hp : sk_pg p) {C I : sk_SI} (h : sf_fr C I) (k : Nat) (hk : k ≤ 9) : I (p + k) = C (p + k) := by
  rcases hp with rfl | rfl
  · exact h _ (by omega) (by omega) (by omega) (by omega) (by omega) (by omega) (by omega) (by omega)
  · exact h _ (by omega) (by omega) (by omega) (by omega) (by omega) (by omega) (by omega) (by omega)
theorem sf_fr_8 {C I : sk_SI} (h : sf_fr C I) : I 8 = C 8 := h 8 (by decide) (by decide) (by decide) (by decide) (by decide) (by decide) (by decide) (by decide)
theorem sf_cT_e {p : Nat} (hp : sk_pg p) {C I : sk_SI} (h : sf_fr C I) (m : Int) (T : sk_Tb) : sk_cT p I m T = sk_cT p C m T := by
  unfold sk_cT
  rw [sf_fr_p hp h 1 (by omega), sf_fr_8 h]
theorem sf_bT_e {p : Nat} (hp : sk_pg p) {C I : sk_SI} (h : sf_fr C I) (s : Int) (T : sk_Tb) : sk_bT p I s T = sk_bT p C s T := by
  unfold sk_bT
  rw [sf_fr_p hp h 1 (by omega), sf_fr_p hp h 3 (by omega), sf_fr_p hp h 4 (by omega), sf_fr_p hp h 5 (by omega), sf_fr_p hp h 6 (by omega), sf_fr_8 h]
theorem sf_rT_e {p : Nat} (hp : sk_pg p) {C I : sk_SI} (h : sf_fr C I) (s : Int) (T : sk_Tb) : sk_rT p I s T = sk_rT p C s T := by
  unfold sk_rT
  rw [sf_fr_p hp h 5 (by omega), sf_fr_p hp h 6 (by omega)]
theorem sf_wf {p : Nat} {D : Int → Int} {C : sk_SI} (hv : sk_pv p D C) {s : Int} (hs : 0 ≤ s ∧ s < C p 10) : (0 ≤ C (p + 3) s ∧ C (p + 3) s ≤ 12) ∧ ((C (p + 3) s = 0 ∨ C (p + 3) s = 10) → (0 ≤ C (p + 5) s ∧ C (p + 5) s ≤ 7) ∧ 0 ≤ C (p + 6) s ∧ C (p + 6) s ≤ 9) ∧ (C (p + 3) s = 1 → 0 ≤ C (p + 5) s ∧ C (p + 5) s < C p 9) ∧ (C (p + 3) s = 8 → 0 ≤ C (p + 5) s ∧ C (p + 5) s ≤ 99) ∧ (C (p + 8) s = -1 ∨ (s < C (p + 8) s ∧ C (p + 8) s < C p 10 ∧ D (C (p + 8) s) = D s + 1)) ∧ (C (p + 9) s = -1 ∨ (s < C (p + 9) s ∧ C (p + 9) s < C p 10 ∧ D (C (p + 9) s) = D s + 1)) ∧ (C (p + 7) s = -1 ∨ (s < C (p + 7) s ∧ C (p + 7) s < C p 10 ∧ D (C (p + 7) s) = D s)) ∧ (1 ≤ D s ∧ D s ≤ 12) ∧ ((C (p + 3) s = 2 ∨ C (p + 3) s = 3 ∨ C (p + 3) s = 7 ∨ C (p + 3) s = 8 ∨ C (p + 3) s = 10 ∨ C (p + 3) s = 11) → D s ≤ 11) := by
  obtain ⟨w1, w2, w3, w4, w5, w6, w7, w8, w9, w10, w11⟩ := hv.2.2.1 s hs.1 hs.2
  refine ⟨w1, fun h => ?_, fun h => ?_, fun h => ?_, w6, w7, w5, w10, fun h => ?_⟩
  · unfold sk_no at w3 w4
    rcases h with z | z <;> rw [z] at w3 w4
    · have a : sk_mf 0 = 7 := rfl
      have b : sk_ms 0 = 9 := rfl
      omega
    · have a : sk_mf 10 = 7 := rfl
      have b : sk_ms 10 = 9 := rfl
      omega
  · have := hv.2.2.2.2 s hs.1 hs.2 (Or.inl h)
    unfold sk_no at w3
    rw [h] at w3
    have a : sk_mf 1 = 99 := rfl
    omega
  · unfold sk_no at w3
    rw [h] at w3
    have a : sk_mf 8 = 99 := rfl
    omega
  · apply w11
    rcases h with z | z | z | z | z | z <;> rw [z] <;> decide
def sf_cv (c : Int) : Int := sk_or (sk_and c 2) (if sk_and c 5 = 0 then 0 else 1)
theorem sf_cv_b {c : Int} (hc : 0 ≤ c ∧ c ≤ 7) : (0 ≤ sf_cv c ∧ sf_cv c ≤ 7) ∧ ∀ x, sf_b (sf_cv c) x ↔ ((x = 2 ∧ sf_b c 2) ∨ (x = 1 ∧ (sf_b c 1 ∨ sf_b c 4))) := by
  obtain ⟨t2, -, t2b⟩ := sf_t2 hc
  obtain ⟨-, t5⟩ := sf_t5 hc
  unfold sf_cv
  by_cases e : sk_and c 5 = 0
  · rw [if_pos e]
    obtain ⟨o1, o2⟩ := sf_or_b (a := sk_and c 2) (b := 0) (by omega) (by omega)
    refine ⟨o1, fun x => ?_⟩
    rw [o2 x, t2b x, sf_b_0]
    have := t5.mp e
    constructor
    · rintro (h | h)
      · exact Or.inl h
      · exact h.elim
    · rintro (h | h)
      · exact Or.inl h
      · exact absurd h.2 this
  · rw [if_neg e]
    obtain ⟨o1, o2⟩ := sf_or_b (a := sk_and c 2) (b := 1) (by omega) (by omega)
    refine ⟨o1, fun x => ?_⟩
    rw [o2 x, t2b x, sf_b_1]
    have : sf_b c 1 ∨ sf_b c 4 := Classical.byContradiction (fun z => e (t5.mpr z))
    constructor
    · rintro (h | h)
      · exact Or.inl h
      · exact Or.inr ⟨h, this⟩
    · rintro (h | h)
      · exact Or.inl h
      · exact Or.inr h.1
section SKFa
variable {l : Launch} {E : sk_En} {d : Nat} {I : sk_SI} {L : sk_SL} {cu sp io rp tp p : Nat} {Q : Option sk_V → List sk_Sh → sk_St → Prop} {TT : Int → sk_Tb} {C : sk_SI} {D : Int → Int} {rm wk : Int} {rT : sk_Tb} {Go : sk_Or}
theorem c_F_wcN (hq : Q (some (vi 0)) sk_G (I, L, sk_J cu sp io rp tp p)) : AW l E (d + 1) 0 0 mX0_walkCall 0 [some (vr 48), some (vi (-1))] [] sk_G (I, L, sk_J cu sp io rp tp p) Q := by
  refine AW_run 80 rfl ?_
  refine AW_within rfl kkX0_103 rfl (by omega) (fun w1 w2 => by omega) (fun w3 => ?_)
  refine AW_run 80 rfl ?_
  first | refine AW_e1 rfl ?_ | refine AW_e0 rfl ?_ | refine AW_n1 rfl ?_ | refine AW_n0 rfl ?_
  refine AW_run 80 rfl ?_
  exact AW_iret rfl rfl hq
theorem c_F_wc (q : Int) (h0 : 0 ≤ q ∧ q < 300) (h13 : I 48 13 = wk) (hw : 0 ≤ wk ∧ wk < 300) (hc : 0 ≤ I 51 q ∧ I 51 q ≤ 7) (hq : Q (some (vi (sf_cv (I 51 q)))) sk_G (I, sk_uL L 53 (q * 5 + wk / 64) (L 53 (q * 5 + wk / 64) ||| sk_lshl 1 (wk % 64)), sk_J cu sp io rp tp p)) : AW l E (d + 1) 0 0 mX0_walkCall 0 [some (vr 48), some (vi q)] [] sk_G (I, L, sk_J cu sp io rp tp p) Q := by
  have sh := sf_sh hw
  have t5 := (sf_t5 hc).1
  unfold sf_cv at hq
  refine AW_run 80 rfl ?_
  refine AW_within rfl kkX0_103 rfl (by omega) (fun w1 w2 => ?_) (fun w3 => by omega)
  refine AW_run 80 rfl ?_
  first | refine AW_e1 rfl ?_ | refine AW_e0 rfl ?_ | refine AW_n1 rfl ?_ | refine AW_n0 rfl ?_
  refine AW_run 80 rfl ?_
  rw [h13]
  refine AW_within rfl kkX0_103 rfl (by omega) (fun w1 w2 => ?_) (fun w3 => by omega)
  refine AW_run 80 rfl ?_
  first | refine AW_e1 rfl ?_ | refine AW_e0 rfl ?_ | refine AW_n1 rfl ?_ | refine AW_n0 rfl ?_
  refine AW_run 80 rfl ?_
  rw [h13, sh.1]
  refine AW_lald rfl rfl ⟨by omega, by omega⟩ (by decide) ?_
  refine AW_run 80 rfl ?_
  rw [h13, sh.2]
  refine AW_last rfl rfl ⟨by omega, by omega⟩ (by decide) ?_
  refine AW_run 80 rfl ?_
  refine AW_iald rfl rfl ⟨by omega, by omega⟩ (by decide) ?_
  refine AW_run 80 rfl ?_
  refine AW_iald rfl rfl ⟨by omega, by omega⟩ (by decide) ?_
  refine AW_run 80 rfl ?_
  refine AW_ifne rfl (fun g => ?_) (fun g => ?_) (by unfold sk_in; omega)
  · rw [if_neg g] at hq
    refine AW_run 80 rfl ?_
    exact AW_iret rfl rfl hq
  · rw [if_pos g] at hq
    refine AW_run 80 rfl ?_
    exact AW_iret rfl rfl hq
/-- a step that asks -/
theorem c_F_s0 (hp : sk_pg p) (hv : sk_pv p D C) (n : Nat) (T : sk_Tb) (hT : sk_t8 T) (s dp : Int) (hs : 0 ≤ s ∧ s < C p 10) (hd : 0 ≤ dp ∧ dp ≤ 11) (hw : C (p + 3) s = 0) (hL : sk_ht (L 56) (dp * 8) T) (hI : sf_iv p C rm rT Go wk I L TT) (h57 : I 57 s = 1) (hx : I 48 14 = 0 → sf_hx p C rm rT (sf_sV p C Go n T s)) (hq : ∀ v I' L' TT', sf_po p C rm rT Go wk dp I L TT (sk_WS p C Go (sk_WB p C Go n) T s) (sf_sV p C Go n T s) v I' L' TT' → Q (some (vi v)) sk_G (I', L', sk_J cu sp io rp tp p)) : AW l E (d + 3) 0 0 mX0_walkStep 84 [some (vr 48), some (vi s), some (vi dp)] [] sk_G (I, L, sk_J cu sp io rp tp p) Q := by
  obtain ⟨w1, w2, -⟩ := sf_wf hv hs
  have w2 := w2 (Or.inl hw)
  have v10 := hv.2.1
  have e5 := sf_fr_p hp hI.1 5 (by omega)
  have e6 := sf_fr_p hp hI.1 6 (by omega)
  have hW : ∀ x, sk_WS p C Go (sk_WB p C Go n) T s x ↔ (if sk_rT p C s T = -1 then x = 1 else x = 2) := by
    intro x
    unfold sk_WS
    rw [if_pos hw]
  have hV : ∀ t T', sf_sV p C Go n T s t T' → t = s ∧ T' = T := by
    intro t T' z
    rcases z with z | z
    · exact z
    · unfold sk_VS at z
      simp only [hw, Int.reduceEq, if_false, or_self, reduceIte] at z
  have hrT : -1 ≤ sk_rT p C s T ∧ sk_rT p C s T ≤ 7 := hT _ (by omega) (by omega)
  have g1 : sk_rT p C s T = -1 → Q (some (vi 1)) sk_G (I, L, sk_J cu sp io rp tp p) := fun e => hq 1 I L TT ⟨hI, sf_gr_rf _ _ _ _, by omega, fun _ => ⟨fun x => by rw [hW x, if_pos e, sf_b_1], fun t T' z => by
    obtain ⟨rfl, rfl⟩ := hV t T' z
    exact ⟨hs, h57, fun _ y => absurd e y, fun y => by omega⟩⟩⟩
  have g2 : sk_rT p C s T ≠ -1 → Q (some (vi 2)) sk_G (sk_uI I 58 s 1, L, sk_J cu sp io rp tp p) := fun e => by
    obtain ⟨k1, k2⟩ := sf_iv_58 (dp := dp) (s := s) hp hI (fun z A G P O hc => (hx z A G P O hc s T (Or.inl ⟨rfl, rfl⟩)).2.1 hw e)
    refine hq 2 _ L TT ⟨k1, k2, by omega, fun _ => ⟨fun x => by rw [hW x, if_neg e, sf_b_2], fun t T' z => ?_⟩⟩
    obtain ⟨rfl, rfl⟩ := hV t T' z
    refine ⟨hs, (k2.2.2.2.1 _).1 h57, fun _ _ => ?_, fun y => by omega⟩
    rw [sk_uI_s, sk_up_s]
  have ro := fun Q' (h : Q' (some (vi (sk_rT p C s T))) sk_G (I, L, sk_J cu sp io rp tp p)) => c_F_rOf (l := l) (E := E) (d := d) (I := I) (L := L) (cu := cu) (sp := sp) (io := io) (rp := rp) (tp := tp) (Q := Q') hp s dp (by omega) (by omega) T hT hL (by rw [e5]; exact w2.1) (by rw [e6]; exact w2.2) (by rw [sf_rT_e hp hI.1]; exact h)
  generalize sk_rT p C s T = R at *
  refine AW_run 80 rfl ?_
  refine AW_cV (M' := mX0_walkAsk) rfl kkX0_120 lcX0_walkAsk rfl rfl rfl rfl rfl rfl (Nat.le_refl _) ?_
  refine AW_run 80 rfl ?_
  refine AW_cV (M' := mX0_refuserOf) rfl kkX0_145 lcX0_refuserOf rfl rfl rfl rfl rfl rfl (Nat.le_refl _) ?_
  refine ro _ ?_
  refine AW_run 80 rfl ?_
  refine AW_icne rfl (fun g => ?_) (fun g => ?_) (by unfold sk_in; omega)
  · have g2 := g2 g
    refine AW_run 80 rfl ?_
    refine AW_iast rfl rfl ⟨by omega, by omega⟩ (by decide) ?_
    refine AW_run 80 rfl ?_
    refine AW_iret rfl rfl ?_
    refine AW_run 80 rfl ?_
    exact AW_iret rfl rfl g2
  · have g1 := g1 g
    refine AW_run 80 rfl ?_
    refine AW_iret rfl rfl ?_
    refine AW_run 80 rfl ?_
    exact AW_iret rfl rfl g1
/-- a step that calls -/
theorem c_F_s1 (hp : sk_pg p) (hv : sk_pv p D C) (hr : sk_ru C) (n : Nat) (T : sk_Tb) (hT : sk_t8 T) (s dp : Int) (hs : 0 ≤ s ∧ s < C p 10) (hd : 0 ≤ dp ∧ dp ≤ 11) (hw : C (p + 3) s = 1) (hL : sk_ht (L 56) (dp * 8) T) (hI : sf_iv p C rm rT Go wk I L TT) (h57 : I 57 s = 1) (hx : I 48 14 = 0 → sf_hx p C rm rT (sf_sV p C Go n T s)) (hq : ∀ v I' L' TT', sf_po p C rm rT Go wk dp I L TT (sk_WS p C Go (sk_WB p C Go n) T s) (sf_sV p C Go n T s) v I' L' TT' → Q (some (vi v)) sk_G (I', L', sk_J cu sp io rp tp p)) : AW l E (d + 4) 0 0 mX0_walkStep 91 [some (vr 48), some (vi s), some (vi dp)] [] sk_G (I, L, sk_J cu sp io rp tp p) Q := by
  obtain ⟨w1, -, w2, -⟩ := sf_wf hv hs
  have w2 := w2 hw
  have v10 := hv.2.1
  have v9 := hv.1
  have e0 : I p = C p := sf_fr_p hp hI.1 0 (by omega)
  have e1 := sf_fr_p hp hI.1 1 (by omega)
  have e5 := sf_fr_p hp hI.1 5 (by omega)
  have e8 := sf_fr_8 hI.1
  have ow := (hv.2.2.2.1 _ w2.1 w2.2).1
  have hW : ∀ x, sk_WS p C Go (sk_WB p C Go n) T s x ↔ ((x = 2 ∧ Go (C (p + 5) s) (sk_cT p C (C (p + 5) s) T) 2) ∨ (x = 1 ∧ (Go (C (p + 5) s) (sk_cT p C (C (p + 5) s) T) 1 ∨ Go (C (p + 5) s) (sk_cT p C (C (p + 5) s) T) 4))) := by
    intro x
    unfold sk_WS
    rw [if_neg (by omega), if_pos hw]
  have hV : ∀ t T', sf_sV p C Go n T s t T' → t = s ∧ T' = T := by
    intro t T' z
    rcases z with z | z
    · exact z
    · unfold sk_VS at z
      simp only [hw, Int.reduceEq, if_false, or_self, reduceIte] at z
  have hA : I 48 14 = 0 → ∀ A G P O, sk_clo p C rm rT A G P O → A (C (p + 5) s) (sk_cT p C (C (p + 5) s) T) := fun z A G P O hc => (hx z A G P O hc s T (Or.inl ⟨rfl, rfl⟩)).2.2 hw
  have hB8 := sk_cT_8 (p := p) (I := C) (m := C (p + 5) s) hT ow
  have hBc := sf_cn_cT p C (C (p + 5) s) T
  have f5 : I (p + 5) s = C (p + 5) s := by rw [e5]
  generalize hm : C (p + 5) s = m at *
  have eB : sk_cT p I m T = sk_cT p C m T := sf_cT_e hp hI.1 m T
  generalize hBB : sk_cT p C m T = B at *
  -- the callee q is there: its caller's bit is set
  have call : ∀ q I1 L1 T1, sf_iv p C rm rT Go wk I1 L1 T1 → sf_gr dp I L TT I1 L1 T1 → 0 ≤ q → q < I1 48 12 → I1 49 q = m → T1 q = B → AW l E (d + 4) 0 0 mX0_walkStep 106 [some (vr 48), some (vi s), some (vi dp)] [vi q, vr 48] sk_G (I1, L1, sk_J cu sp io rp tp p) Q := by
    intro q I1 L1 T1 i1 g1 q0 q1 q2 q3
    have n1 := i1.2.1.1.1
    have wk1 := i1.2.2.1
    have qc := (i1.2.1.1.2 q q0 q1).2.2.2.2.1
    obtain ⟨c1, c2⟩ := sf_cb_set (L := L1) (q := q) (a := wk) (by omega) (by omega)
    obtain ⟨b1, b2⟩ := sf_cv_b qc
    have hq := hq (sf_cv (I1 51 q)) I1 _ T1 ⟨sf_iv_L (L1 := sk_uL L1 53 (q * 5 + wk / 64) (L1 53 (q * 5 + wk / 64) ||| sk_lshl 1 (wk % 64))) i1 (sk_uL_o (by decide)), sf_gr_tr hI.2.1.1.1.1 g1 ⟨Int.le_refl _, fun q' _ _ => ⟨rfl, rfl, rfl, rfl, fun a ha z => c2 q' a ha z⟩, fun q' a b => by omega, fun _ => ⟨id, id⟩, id, fun i _ => by rw [sk_uL_o (by decide)]⟩, b1, fun z => ⟨fun x => ?_, fun t T' y => ?_⟩⟩
    · refine AW_cV (M' := mX0_walkCall) rfl kkX0_126 lcX0_walkCall rfl rfl rfl rfl rfl rfl (Nat.le_refl _) ?_
      refine c_F_wc (wk := wk) q (by omega) wk1.1 (by omega) qc ?_
      refine AW_run 80 rfl ?_
      exact AW_iret rfl rfl hq
    · have go := sf_go_q (i1.2.2.2.2.1 z).1 i1.2.1.2.1 ⟨q0, q1⟩ q2 q3
      rw [hW x, b2 x, go 1, go 2, go 4]
    · obtain ⟨rfl, rfl⟩ := hV t T' y
      refine ⟨hs, (g1.2.2.2.1 _).1 h57, fun u => by omega, fun _ => ⟨q, q0, q1, by rw [hm]; exact q2, by rw [hm, hBB]; exact q3, c1⟩⟩
  have none : ∀ I1 L1 T1, sf_iv p C rm rT Go wk I1 L1 T1 → sf_gr dp I L TT I1 L1 T1 → I1 48 14 = 1 → AW l E (d + 4) 0 0 mX0_walkStep 106 [some (vr 48), some (vi s), some (vi dp)] [vi (-1), vr 48] sk_G (I1, L1, sk_J cu sp io rp tp p) Q := by
    intro I1 L1 T1 i1 g1 t1
    have hq := hq 0 I1 L1 T1 ⟨i1, g1, by omega, fun z => by omega⟩
    refine AW_cV (M' := mX0_walkCall) rfl kkX0_126 lcX0_walkCall rfl rfl rfl rfl rfl rfl (Nat.le_refl _) ?_
    refine c_F_wcN ?_
    refine AW_run 80 rfl ?_
    exact AW_iret rfl rfl hq
  have cm := fun Q' h => c_F_come (l := l) (E := E) (d := d) (I := I) (TT := TT) (cu := cu) (sp := sp) (io := io) (rp := rp) (tp := tp) (Q := Q') hp (by intro i a b; rw [e8]; exact hr i a b) L m dp hd (by rw [e0]; omega) (by rw [e0]; exact w2) T hT hL (by rw [e1]; exact ow) hI.2.1.1 hI.2.1.2.1 h
  rw [eB] at cm
  have go : AW l E (d + 3) 0 0 mX0_come 0 [some (vr 48), some (vi m), some (vi dp), Option.none, Option.none] [] sk_G (I, L, sk_J cu sp io rp tp p) (fun v G' σ' => AW l E (d + 4) 0 0 mX0_walkStep 106 [some (vr 48), some (vi s), some (vi dp)] (v.toList ++ [vr 48]) G' σ' Q) := by
    refine cm _ (fun L' g1 g2 => ?_)
    have iL := sf_iv_L hI (g2.1 50 (by decide))
    have gL : sf_gr dp I L TT I L' TT := sf_gr_L (g2.1 53 (by decide)) (fun i hi => g2.2 i (by omega))
    refine ⟨fun q q0 q1 q2 q3 => call q I L' TT iL gL q0 q1 q2 q3, fun hno => ⟨fun hn => ?_, fun hn pl p1 p2 p3 => ?_⟩⟩
    · obtain ⟨k1, k2, k3⟩ := sf_iv_14 (dp := dp) hp iL hn hno hA
      exact none _ _ _ k1 (sf_gr_tr hI.2.1.1.1.1 gL k2) k3
    · obtain ⟨k1, k2, k3, k4, k5⟩ := sf_iv_ins (dp := dp) hp iL hn hno hA p1 p2 p3 (by rw [e0]; exact w2) hB8 hBc g1
      have n0 := hI.2.1.1.1
      exact call _ _ _ _ k1 (sf_gr_tr hI.2.1.1.1.1 gL k2) n0.1 (by omega) k3 k4
  clear call none cm hq hx hI hV hW hA hL eB hBB
  rw [← f5] at go
  rcases hp with rfl | rfl <;>
  · refine AW_run 80 rfl ?_
    refine AW_iald rfl rfl ⟨by omega, by omega⟩ (by decide) ?_
    refine AW_run 80 rfl ?_
    refine AW_cV (M' := mX0_come) rfl kkX0_69 lcX0_come rfl rfl rfl rfl rfl rfl (Nat.le_refl _) ?_
    exact go
end SKFa
