/-! ===== Foresight.walkStep: try, loop, if, either ===== -/
theorem sf_14 {dp : Int} {I I' : sk_SI} {L L' : sk_SL} {TT TT' : Int → sk_Tb} (h : I 48 14 = 0 ∨ I 48 14 = 1) (g : sf_gr dp I L TT I' L' TT') (z : I' 48 14 = 0) : I 48 14 = 0 := by
  rcases h with h | h
  · exact h
  · have := g.2.2.2.2.1 h
    omega
section SKFc
variable {l : Launch} {E : sk_En} {d : Nat} {I : sk_SI} {L : sk_SL} {cu sp io rp tp p : Nat} {Q : Option sk_V → List sk_Sh → sk_St → Prop} {TT : Int → sk_Tb} {C : sk_SI} {D : Int → Int} {rm wk : Int} {rT : sk_Tb} {Go : sk_Or} {n : Nat}
theorem c_F_try (hp : sk_pg p) (hv : sk_pv p D C) (hB : sf_BC l E cu sp io rp tp p C D rm rT Go wk n) (T : sk_Tb) (hT : sk_t8 T) (s dp : Int) (hs : 0 ≤ s ∧ s < C p 10) (hD : D s = dp + 1) (hf : sk_fue (n + 1) s) (hd : 0 ≤ dp ∧ dp ≤ 11) (hdd : 55 ≤ (d : Int) + 5 * dp) (hw : C (p + 3) s = 7) (hL : sk_ht (L 56) (dp * 8) T) (hI : sf_iv p C rm rT Go wk I L TT) (h57 : I 57 s = 1) (hx : I 48 14 = 0 → sf_hx p C rm rT (sf_sV p C Go n T s)) (hq : ∀ v I' L' TT', sf_po p C rm rT Go wk dp I L TT (sk_WS p C Go (sk_WB p C Go n) T s) (sf_sV p C Go n T s) v I' L' TT' → Q (some (vi v)) sk_G (I', L', sk_J cu sp io rp tp p)) : AW l E (d + 2) 0 0 mX0_walkTry 0 [some (vr 48), some (vi s), some (vi dp), none] [] sk_G (I, L, sk_J cu sp io rp tp p) Q := by
  obtain ⟨w1, -, -, -, w6, w7, -, w8, w9⟩ := sf_wf hv hs
  have w9 := w9 (by omega)
  have v10 := hv.2.1
  have n0 := hI.2.1.1.1.1
  have hwk : 0 ≤ wk ∧ wk < 300 := by
    have a := hI.2.2.1
    have b := hI.2.1.1.1
    omega
  have h14 := hI.2.2.2.1
  have f8 : I (p + 8) s = C (p + 8) s := by rw [sf_fr_p hp hI.1 8 (by omega)]
  have hW : ∀ x, sk_WS p C Go (sk_WB p C Go n) T s x ↔ ((x ≠ 2 ∧ sk_WB p C Go n T (C (p + 8) s) x) ∨ (sk_WB p C Go n T (C (p + 8) s) 2 ∧ sk_WB p C Go n T (C (p + 9) s) x)) := by
    intro x
    unfold sk_WS
    rw [if_neg (by omega), if_neg (by omega), if_neg (by omega), if_pos hw]
  have hV : ∀ t T', sf_sV p C Go n T s t T' ↔ ((t = s ∧ T' = T) ∨ sk_VB p C Go n T (C (p + 8) s) t T' ∨ (sk_WB p C Go n T (C (p + 8) s) 2 ∧ sk_VB p C Go n T (C (p + 9) s) t T')) := by
    intro t T'
    unfold sf_sV sk_VS
    rw [if_neg (by omega), if_pos hw]
  have in1 := fun Q' h => c_F_inner (Q := Q') hB T hT (C (p + 8) s) dp (by omega) (sk_fue_n hf hs v10.2 (by omega)) (by omega) hdd hL hI (fun z => sf_hx_mono (hx z) (fun t T' y => (hV t T').mpr (Or.inr (Or.inl y)))) h
  rw [← f8] at in1
  have two : ∀ v I1 L1 T1, sf_po p C rm rT Go wk dp I L TT (sk_WB p C Go n T (I (p + 8) s)) (sk_VB p C Go n T (I (p + 8) s)) v I1 L1 T1 → AW l E (d + 2) 0 0 mX0_walkTry 14 [some (vr 48), some (vi s), some (vi dp), none] [vi v] sk_G (I1, L1, sk_J cu sp io rp tp p) Q := by
    intro v I1 L1 T1 h1
    rw [f8] at h1
    obtain ⟨i1, g1, r1, x1⟩ := h1
    have g9 : I1 (p + 9) s = C (p + 9) s := by rw [sf_fr_p hp i1.1 9 (by omega)]
    have hL1 : sk_ht (L1 56) (dp * 8) T := sk_ht_cg hL (fun i a b => g1.2.2.2.2.2 i (by omega))
    obtain ⟨t1, t2, -⟩ := sf_t2 r1
    have noF : sk_and v 2 = 0 → Q (some (vi v)) sk_G (I1, L1, sk_J cu sp io rp tp p) := fun e => hq v I1 L1 T1 ⟨i1, g1, r1, fun z => by
      have nb : ¬ sk_WB p C Go n T (C (p + 8) s) 2 := fun y => (t2.mp e) (((x1 z).1 2).mpr y)
      refine ⟨fun x => ?_, fun t T' y => ?_⟩
      · rw [hW x, (x1 z).1 x]
        constructor
        · intro y
          exact Or.inl ⟨fun e => nb (e ▸ y), y⟩
        · rintro (y | y)
          · exact y.2
          · exact absurd y.1 nb
      · rcases (hV t T').mp y with ⟨rfl, rfl⟩ | y | y
        · exact sf_vs_self hs (by omega) (by omega) ((g1.2.2.2.1 _).1 h57)
        · exact (x1 z).2 t T' y
        · exact absurd y.1 nb⟩
    have isF : sk_and v 2 ≠ 0 → AW l E (d + 1) 0 0 mX0_walkInner 0 [some (vr 48), some (vi (I1 (p + 9) s)), some (vi dp)] [] sk_G (I1, L1, sk_J cu sp io rp tp p) (fun v2 G' σ' => AW l E (d + 2) 0 0 mX0_walkTry 43 [some (vr 48), some (vi s), some (vi dp), some (vi v)] (v2.toList ++ [vi (sk_and v (-3))]) G' σ' Q) := by
      intro e
      have bF : I1 48 14 = 0 → sk_WB p C Go n T (C (p + 8) s) 2 := fun z => ((x1 z).1 2).mp (Classical.byContradiction (fun y => e (t2.mpr y)))
      rw [g9]
      refine c_F_inner hB T hT (C (p + 9) s) dp (by omega) (sk_fue_n hf hs v10.2 (by omega)) (by omega) hdd hL1 i1 (fun z => sf_hx_mono (hx (sf_14 h14 g1 z)) (fun t T' y => (hV t T').mpr (Or.inr (Or.inr ⟨bF z, y⟩)))) (fun v2 I2 L2 T2 h2 => ?_)
      obtain ⟨i2, g2, r2, x2⟩ := h2
      have gt := sf_gr_tr n0 g1 g2
      obtain ⟨c1, c2⟩ := sf_cl2 r1
      obtain ⟨o1, o2⟩ := sf_or_b c1 r2
      have hq := hq (sk_or (sk_and v (-3)) v2) I2 L2 T2 ⟨i2, gt, o1, fun z => by
        have z1 := sf_14 i1.2.2.2.1 g2 z
        have bF := bF z1
        refine ⟨fun x => ?_, fun t T' y => ?_⟩
        · rw [hW x, o2 x, c2 x, (x1 z1).1 x, (x2 z).1 x]
          constructor
          · rintro (y | y)
            · exact Or.inl y
            · exact Or.inr ⟨bF, y⟩
          · rintro (y | y)
            · exact Or.inl y
            · exact Or.inr y.2
        · rcases (hV t T').mp y with ⟨rfl, rfl⟩ | y | y
          · exact sf_vs_self hs (by omega) (by omega) ((gt.2.2.2.1 _).1 h57)
          · exact sf_vs_gr hwk ((x1 z1).2 t T' y) g2
          · exact (x2 z).2 t T' y.2⟩
      refine AW_run 80 rfl ?_
      exact AW_iret rfl rfl hq
    have hs2 : 0 ≤ s ∧ s < 200 := by omega
    clear hq hx hW hV x1 i1 g1 in1 hL1 hI hL hB hf hv
    rcases hp with rfl | rfl <;>
    · refine AW_run 80 rfl ?_
      refine AW_ifne rfl (fun g => ?_) (fun g => ?_) (by unfold sk_in; omega)
      · have isF := isF g
        refine AW_run 80 rfl ?_
        refine AW_iald rfl rfl ⟨by omega, by omega⟩ (by decide) ?_
        refine AW_run 80 rfl ?_
        refine AW_cV (M' := mX0_walkInner) rfl kkX0_142 lcX0_walkInner rfl rfl rfl rfl rfl rfl (Nat.le_refl _) ?_
        exact isF
      · have noF := noF g
        refine AW_run 80 rfl ?_
        exact AW_iret rfl rfl noF
  have hs2 : 0 ≤ s ∧ s < 200 := by omega
  clear hq hx hW hV hI hL hB hf hv
  rcases hp with rfl | rfl <;>
  · refine AW_run 80 rfl ?_
    refine AW_iald rfl rfl ⟨by omega, by omega⟩ (by decide) ?_
    refine AW_run 80 rfl ?_
    refine AW_cV (M' := mX0_walkInner) rfl kkX0_142 lcX0_walkInner rfl rfl rfl rfl rfl rfl (Nat.le_refl _) ?_
    exact in1 _ two
theorem c_F_s8 (hp : sk_pg p) (hv : sk_pv p D C) (hB : sf_BC l E cu sp io rp tp p C D rm rT Go wk n) (T : sk_Tb) (hT : sk_t8 T) (s dp : Int) (hs : 0 ≤ s ∧ s < C p 10) (hD : D s = dp + 1) (hf : sk_fue (n + 1) s) (hd : 0 ≤ dp ∧ dp ≤ 11) (hdd : 55 ≤ (d : Int) + 5 * dp) (hw : C (p + 3) s = 8) (hL : sk_ht (L 56) (dp * 8) T) (hI : sf_iv p C rm rT Go wk I L TT) (h57 : I 57 s = 1) (hx : I 48 14 = 0 → sf_hx p C rm rT (sf_sV p C Go n T s)) (hq : ∀ v I' L' TT', sf_po p C rm rT Go wk dp I L TT (sk_WS p C Go (sk_WB p C Go n) T s) (sf_sV p C Go n T s) v I' L' TT' → Q (some (vi v)) sk_G (I', L', sk_J cu sp io rp tp p)) : AW l E (d + 2) 0 0 mX0_walkStep 147 [some (vr 48), some (vi s), some (vi dp)] [] sk_G (I, L, sk_J cu sp io rp tp p) Q := by
  obtain ⟨w1, -, -, w4, w6, w7, -, w8, w9⟩ := sf_wf hv hs
  have w9 := w9 (by omega)
  have w4 := w4 hw
  have v10 := hv.2.1
  have f8 : I (p + 8) s = C (p + 8) s := by rw [sf_fr_p hp hI.1 8 (by omega)]
  have f5 : I (p + 5) s = C (p + 5) s := by rw [sf_fr_p hp hI.1 5 (by omega)]
  have hW : ∀ x, sk_WS p C Go (sk_WB p C Go n) T s x ↔ (if C (p + 5) s = 0 then x = 1 else sk_WB p C Go n T (C (p + 8) s) x) := by
    intro x
    unfold sk_WS
    rw [if_neg (by omega), if_neg (by omega), if_neg (by omega), if_neg (by omega), if_pos hw]
  have hV : ∀ t T', sf_sV p C Go n T s t T' ↔ ((t = s ∧ T' = T) ∨ (if C (p + 5) s = 0 then False else sk_VB p C Go n T (C (p + 8) s) t T')) := by
    intro t T'
    unfold sf_sV sk_VS
    rw [if_neg (by omega), if_neg (by omega), if_pos hw]
  have zero : I (p + 5) s = 0 → Q (some (vi 1)) sk_G (I, L, sk_J cu sp io rp tp p) := fun e => hq 1 I L TT ⟨hI, sf_gr_rf _ _ _ _, by omega, fun _ => ⟨fun x => by rw [hW x, if_pos (f5 ▸ e), sf_b_1], fun t T' y => by
    rcases (hV t T').mp y with ⟨rfl, rfl⟩ | y
    · exact sf_vs_self hs (by omega) (by omega) h57
    · rw [if_pos (f5 ▸ e)] at y
      exact y.elim⟩⟩
  have more : I (p + 5) s ≠ 0 → AW l E (d + 1) 0 0 mX0_walkInner 0 [some (vr 48), some (vi (I (p + 8) s)), some (vi dp)] [] sk_G (I, L, sk_J cu sp io rp tp p) (fun v G' σ' => AW l E (d + 2) 0 0 mX0_walkStep 177 [some (vr 48), some (vi s), some (vi dp)] (v.toList ++ []) G' σ' Q) := by
    intro e
    rw [f5] at e
    rw [f8]
    refine c_F_inner hB T hT (C (p + 8) s) dp (by omega) (sk_fue_n hf hs v10.2 (by omega)) (by omega) hdd hL hI (fun z => sf_hx_mono (hx z) (fun t T' y => (hV t T').mpr (Or.inr (by rw [if_neg e]; exact y)))) (fun v I' L' TT' h => ?_)
    have hq := hq v I' L' TT' ⟨h.1, h.2.1, h.2.2.1, fun z => ⟨fun x => by rw [hW x, if_neg e]; exact (h.2.2.2 z).1 x, fun t T' y => by
      rcases (hV t T').mp y with ⟨rfl, rfl⟩ | y
      · exact sf_vs_self hs (by omega) (by omega) ((h.2.1.2.2.2.1 _).1 h57)
      · rw [if_neg e] at y
        exact (h.2.2.2 z).2 t T' y⟩⟩
    exact AW_iret rfl rfl hq
  have hs2 : 0 ≤ s ∧ s < 200 := by omega
  have i5 : sk_in (I (p + 5) s) := by unfold sk_in; omega
  clear hq hx hW hV hI hL hB hf hv
  rcases hp with rfl | rfl <;>
  · refine AW_run 80 rfl ?_
    refine AW_iald rfl rfl ⟨by omega, by omega⟩ (by decide) ?_
    refine AW_ifne rfl (fun g => ?_) (fun g => ?_) i5
    · have more := more g
      refine AW_run 80 rfl ?_
      refine AW_iald rfl rfl ⟨by omega, by omega⟩ (by decide) ?_
      refine AW_run 80 rfl ?_
      refine AW_cV (M' := mX0_walkInner) rfl kkX0_142 lcX0_walkInner rfl rfl rfl rfl rfl rfl (Nat.le_refl _) ?_
      exact more
    · have zero := zero g
      refine AW_run 80 rfl ?_
      exact AW_iret rfl rfl zero
theorem c_F_s10 (hp : sk_pg p) (hv : sk_pv p D C) (hB : sf_BC l E cu sp io rp tp p C D rm rT Go wk n) (T : sk_Tb) (hT : sk_t8 T) (s dp : Int) (hs : 0 ≤ s ∧ s < C p 10) (hD : D s = dp + 1) (hf : sk_fue (n + 1) s) (hd : 0 ≤ dp ∧ dp ≤ 11) (hdd : 55 ≤ (d : Int) + 5 * dp) (hw : C (p + 3) s = 10) (hL : sk_ht (L 56) (dp * 8) T) (hI : sf_iv p C rm rT Go wk I L TT) (h57 : I 57 s = 1) (hx : I 48 14 = 0 → sf_hx p C rm rT (sf_sV p C Go n T s)) (hq : ∀ v I' L' TT', sf_po p C rm rT Go wk dp I L TT (sk_WS p C Go (sk_WB p C Go n) T s) (sf_sV p C Go n T s) v I' L' TT' → Q (some (vi v)) sk_G (I', L', sk_J cu sp io rp tp p)) : AW l E (d + 2) 0 0 mX0_walkStep 178 [some (vr 48), some (vi s), some (vi dp)] [] sk_G (I, L, sk_J cu sp io rp tp p) Q := by
  obtain ⟨w1, w2, -, -, w6, w7, -, w8, w9⟩ := sf_wf hv hs
  have w9 := w9 (by omega)
  have w2 := w2 (Or.inr hw)
  have v10 := hv.2.1
  have e5 := sf_fr_p hp hI.1 5 (by omega)
  have e6 := sf_fr_p hp hI.1 6 (by omega)
  have f8 : I (p + 8) s = C (p + 8) s := by rw [sf_fr_p hp hI.1 8 (by omega)]
  have f9 : I (p + 9) s = C (p + 9) s := by rw [sf_fr_p hp hI.1 9 (by omega)]
  have hrT : -1 ≤ sk_rT p C s T ∧ sk_rT p C s T ≤ 7 := hT _ (by omega) (by omega)
  have ro := fun Q' (h : Q' (some (vi (sk_rT p C s T))) sk_G (I, L, sk_J cu sp io rp tp p)) => c_F_rOf (l := l) (E := E) (d := d) (I := I) (L := L) (cu := cu) (sp := sp) (io := io) (rp := rp) (tp := tp) (Q := Q') hp s dp (by omega) (by omega) T hT hL (by rw [e5]; exact w2.1) (by rw [e6]; exact w2.2) (by rw [sf_rT_e hp hI.1]; exact h)
  have hW : ∀ x, sk_WS p C Go (sk_WB p C Go n) T s x ↔ (if sk_rT p C s T = -1 then sk_WB p C Go n T (C (p + 8) s) x else sk_WB p C Go n T (C (p + 9) s) x) := by
    intro x
    unfold sk_WS
    rw [if_neg (by omega), if_neg (by omega), if_neg (by omega), if_neg (by omega), if_neg (by omega), if_pos hw]
  have hV : ∀ t T', sf_sV p C Go n T s t T' ↔ ((t = s ∧ T' = T) ∨ (if sk_rT p C s T = -1 then sk_VB p C Go n T (C (p + 8) s) t T' else sk_VB p C Go n T (C (p + 9) s) t T')) := by
    intro t T'
    unfold sf_sV sk_VS
    rw [if_neg (by omega), if_neg (by omega), if_neg (by omega), if_pos hw]
  generalize sk_rT p C s T = R at *
  have go : ∀ u, ((R = -1 ∧ u = C (p + 8) s) ∨ (R ≠ -1 ∧ u = C (p + 9) s)) → AW l E (d + 1) 0 0 mX0_walkInner 0 [some (vr 48), some (vi u), some (vi dp)] [] sk_G (I, L, sk_J cu sp io rp tp p) (fun v G' σ' => AW l E (d + 2) 0 0 mX0_walkStep 214 [some (vr 48), some (vi s), some (vi dp)] (v.toList ++ []) G' σ' Q) := by
    intro u hu
    have hW : ∀ x, sk_WS p C Go (sk_WB p C Go n) T s x ↔ sk_WB p C Go n T u x := by
      intro x
      rw [hW x]
      rcases hu with ⟨a, rfl⟩ | ⟨a, rfl⟩
      · rw [if_pos a]
      · rw [if_neg a]
    have hV : ∀ t T', sf_sV p C Go n T s t T' ↔ ((t = s ∧ T' = T) ∨ sk_VB p C Go n T u t T') := by
      intro t T'
      rw [hV t T']
      rcases hu with ⟨a, rfl⟩ | ⟨a, rfl⟩
      · rw [if_pos a]
      · rw [if_neg a]
    have wu : u = -1 ∨ (s < u ∧ u < C p 10 ∧ D u = D s + 1) := by
      rcases hu with ⟨_, rfl⟩ | ⟨_, rfl⟩
      · exact w6
      · exact w7
    refine c_F_inner hB T hT u dp (by omega) (sk_fue_n hf hs v10.2 (by omega)) (by omega) hdd hL hI (fun z => sf_hx_mono (hx z) (fun t T' y => (hV t T').mpr (Or.inr y))) (fun v I' L' TT' h => ?_)
    have hq := hq v I' L' TT' ⟨h.1, h.2.1, h.2.2.1, fun z => ⟨fun x => by rw [hW x]; exact (h.2.2.2 z).1 x, fun t T' y => by
      rcases (hV t T').mp y with ⟨rfl, rfl⟩ | y
      · exact sf_vs_self hs (by omega) (by omega) ((h.2.1.2.2.2.1 _).1 h57)
      · exact (h.2.2.2 z).2 t T' y⟩⟩
    exact AW_iret rfl rfl hq
  have go1 : R = -1 → _ := fun e => go (I (p + 8) s) (Or.inl ⟨e, f8⟩)
  have go2 : R ≠ -1 → _ := fun e => go (I (p + 9) s) (Or.inr ⟨e, f9⟩)
  have hs2 : 0 ≤ s ∧ s < 200 := by omega
  clear hq hx hW hV hI hL hB hf hv go
  rcases hp with rfl | rfl <;>
  · refine AW_run 80 rfl ?_
    refine AW_cV (M' := mX0_refuserOf) rfl kkX0_145 lcX0_refuserOf rfl rfl rfl rfl rfl rfl (Nat.le_refl _) ?_
    refine ro _ ?_
    refine AW_run 80 rfl ?_
    refine AW_icne rfl (fun g => ?_) (fun g => ?_) (by unfold sk_in; omega)
    · have go2 := go2 g
      refine AW_run 80 rfl ?_
      refine AW_iald rfl rfl ⟨by omega, by omega⟩ (by decide) ?_
      refine AW_run 80 rfl ?_
      refine AW_cV (M' := mX0_walkInner) rfl kkX0_142 lcX0_walkInner rfl rfl rfl rfl rfl rfl (Nat.le_refl _) ?_
      exact go2
    · have go1 := go1 g
      refine AW_run 80 rfl ?_
      refine AW_iald rfl rfl ⟨by omega, by omega⟩ (by decide) ?_
      refine AW_run 80 rfl ?_
      refine AW_cV (M' := mX0_walkInner) rfl kkX0_142 lcX0_walkInner rfl rfl rfl rfl rfl rfl (Nat.le_refl _) ?_
      exact go1
theorem c_F_s11 (hp : sk_pg p) (hv : sk_pv p D C) (hB : sf_BC l E cu sp io rp tp p C D rm rT Go wk n) (T : sk_Tb) (hT : sk_t8 T) (s dp : Int) (hs : 0 ≤ s ∧ s < C p 10) (hD : D s = dp + 1) (hf : sk_fue (n + 1) s) (hd : 0 ≤ dp ∧ dp ≤ 11) (hdd : 55 ≤ (d : Int) + 5 * dp) (hw : C (p + 3) s = 11) (hL : sk_ht (L 56) (dp * 8) T) (hI : sf_iv p C rm rT Go wk I L TT) (h57 : I 57 s = 1) (hx : I 48 14 = 0 → sf_hx p C rm rT (sf_sV p C Go n T s)) (hq : ∀ v I' L' TT', sf_po p C rm rT Go wk dp I L TT (sk_WS p C Go (sk_WB p C Go n) T s) (sf_sV p C Go n T s) v I' L' TT' → Q (some (vi v)) sk_G (I', L', sk_J cu sp io rp tp p)) : AW l E (d + 2) 0 0 mX0_walkStep 215 [some (vr 48), some (vi s), some (vi dp)] [] sk_G (I, L, sk_J cu sp io rp tp p) Q := by
  obtain ⟨w1, -, -, -, w6, w7, -, w8, w9⟩ := sf_wf hv hs
  have w9 := w9 (by omega)
  have v10 := hv.2.1
  have n0 := hI.2.1.1.1.1
  have hwk : 0 ≤ wk ∧ wk < 300 := by
    have a := hI.2.2.1
    have b := hI.2.1.1.1
    omega
  have h14 := hI.2.2.2.1
  have f8 : I (p + 8) s = C (p + 8) s := by rw [sf_fr_p hp hI.1 8 (by omega)]
  have hW : ∀ x, sk_WS p C Go (sk_WB p C Go n) T s x ↔ (sk_WB p C Go n T (C (p + 8) s) x ∨ sk_WB p C Go n T (C (p + 9) s) x) := by
    intro x
    unfold sk_WS
    rw [if_neg (by omega), if_neg (by omega), if_neg (by omega), if_neg (by omega), if_neg (by omega), if_neg (by omega), if_pos hw]
  have hV : ∀ t T', sf_sV p C Go n T s t T' ↔ ((t = s ∧ T' = T) ∨ sk_VB p C Go n T (C (p + 8) s) t T' ∨ sk_VB p C Go n T (C (p + 9) s) t T') := by
    intro t T'
    unfold sf_sV sk_VS
    rw [if_neg (by omega), if_neg (by omega), if_neg (by omega), if_neg (by omega), if_pos hw]
  have in1 := fun Q' h => c_F_inner (Q := Q') hB T hT (C (p + 8) s) dp (by omega) (sk_fue_n hf hs v10.2 (by omega)) (by omega) hdd hL hI (fun z => sf_hx_mono (hx z) (fun t T' y => (hV t T').mpr (Or.inr (Or.inl y)))) h
  rw [← f8] at in1
  have two : ∀ v I1 L1 T1, sf_po p C rm rT Go wk dp I L TT (sk_WB p C Go n T (I (p + 8) s)) (sk_VB p C Go n T (I (p + 8) s)) v I1 L1 T1 → AW l E (d + 2) 0 0 mX0_walkStep 229 [some (vr 48), some (vi s), some (vi dp)] [vi v] sk_G (I1, L1, sk_J cu sp io rp tp p) Q := by
    intro v I1 L1 T1 h1
    rw [f8] at h1
    obtain ⟨i1, g1, r1, x1⟩ := h1
    have g9 : I1 (p + 9) s = C (p + 9) s := by rw [sf_fr_p hp i1.1 9 (by omega)]
    have hL1 : sk_ht (L1 56) (dp * 8) T := sk_ht_cg hL (fun i a b => g1.2.2.2.2.2 i (by omega))
    have isF : AW l E (d + 1) 0 0 mX0_walkInner 0 [some (vr 48), some (vi (I1 (p + 9) s)), some (vi dp)] [] sk_G (I1, L1, sk_J cu sp io rp tp p) (fun v2 G' σ' => AW l E (d + 2) 0 0 mX0_walkStep 243 [some (vr 48), some (vi s), some (vi dp)] (v2.toList ++ [vi v]) G' σ' Q) := by
      rw [g9]
      refine c_F_inner hB T hT (C (p + 9) s) dp (by omega) (sk_fue_n hf hs v10.2 (by omega)) (by omega) hdd hL1 i1 (fun z => sf_hx_mono (hx (sf_14 h14 g1 z)) (fun t T' y => (hV t T').mpr (Or.inr (Or.inr y)))) (fun v2 I2 L2 T2 h2 => ?_)
      obtain ⟨i2, g2, r2, x2⟩ := h2
      have gt := sf_gr_tr n0 g1 g2
      obtain ⟨o1, o2⟩ := sf_or_b r1 r2
      have hq := hq (sk_or v v2) I2 L2 T2 ⟨i2, gt, o1, fun z => by
        have z1 := sf_14 i1.2.2.2.1 g2 z
        refine ⟨fun x => ?_, fun t T' y => ?_⟩
        · rw [hW x, o2 x, (x1 z1).1 x, (x2 z).1 x]
        · rcases (hV t T').mp y with ⟨rfl, rfl⟩ | y | y
          · exact sf_vs_self hs (by omega) (by omega) ((gt.2.2.2.1 _).1 h57)
          · exact sf_vs_gr hwk ((x1 z1).2 t T' y) g2
          · exact (x2 z).2 t T' y⟩
      refine AW_run 80 rfl ?_
      exact AW_iret rfl rfl hq
    have hs2 : 0 ≤ s ∧ s < 200 := by omega
    clear hq hx hW hV x1 i1 g1 in1 hL1 hI hL hB hf hv
    rcases hp with rfl | rfl <;>
    · refine AW_run 80 rfl ?_
      refine AW_iald rfl rfl ⟨by omega, by omega⟩ (by decide) ?_
      refine AW_run 80 rfl ?_
      refine AW_cV (M' := mX0_walkInner) rfl kkX0_142 lcX0_walkInner rfl rfl rfl rfl rfl rfl (Nat.le_refl _) ?_
      exact isF
  have hs2 : 0 ≤ s ∧ s < 200 := by omega
  clear hq hx hW hV hI hL hB hf hv
  rcases hp with rfl | rfl <;>
  · refine AW_run 80 rfl ?_
    refine AW_iald rfl rfl ⟨by omega, by omega⟩ (by decide) ?_
    refine AW_run 80 rfl ?_
    refine AW_cV (M' := mX0_walkInner) rfl kkX0_142 lcX0_walkInner rfl rfl rfl rfl rfl rfl (Nat.le_refl _) ?_
    exact in1 _ two
end SKFc
