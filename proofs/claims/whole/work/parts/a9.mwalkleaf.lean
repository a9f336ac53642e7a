/-! ===== SealKeeperModel.walkStep: ask, call ===== -/
theorem sg_ht_cg {f g : Int → Int} {b : Int} {T : sk_Tb} (h : sg_ht f b T) (hg : ∀ i, b ≤ i → i < b + 80 → g i = f i) : sg_ht g b T := fun r r0 r1 => by rw [hg _ (by omega) (by omega)]; exact h r r0 r1
def sg_nv (a b : Int) : Int := if a = 0 ∧ b = 1 then 0 else 1
theorem sg_nv_c {a b : Int} (ha : a = 0 ∨ a = 1) (hb : b = 0 ∨ b = 1) : (sg_nv a b = 1 ∧ (a = 1 ∨ b = 0)) ∨ (sg_nv a b = 0 ∧ a = 0 ∧ b = 1) := by
  unfold sg_nv
  by_cases h : a = 0 ∧ b = 1
  · rw [if_pos h]; exact Or.inr ⟨rfl, h⟩
  · rw [if_neg h]; exact Or.inl ⟨rfl, by omega⟩
theorem sg_b_1 (I : sk_SI) (q : Int) : sg_b I q 1 ↔ I 93 q = 1 := by
  unfold sg_b
  constructor
  · rintro (h | h | h)
    · exact h.2
    · exact absurd h.1 (by decide)
    · exact absurd h.1 (by decide)
  · exact fun h => Or.inl ⟨rfl, h⟩
theorem sg_b_4 (I : sk_SI) (q : Int) : sg_b I q 4 ↔ I 94 q = 1 := by
  unfold sg_b
  constructor
  · rintro (h | h | h)
    · exact absurd h.1 (by decide)
    · exact h.2
    · exact absurd h.1 (by decide)
  · exact fun h => Or.inr (Or.inl ⟨rfl, h⟩)
theorem sg_b_2 (I : sk_SI) (q : Int) : sg_b I q 2 ↔ I 95 q = 1 := by
  unfold sg_b
  constructor
  · rintro (h | h | h)
    · exact absurd h.1 (by decide)
    · exact absurd h.1 (by decide)
    · exact h.2
  · exact fun h => Or.inr (Or.inr ⟨rfl, h⟩)
theorem sg_v01 {a : Int} (h : a = 0 ∨ a = 1) (x : Int) : sg_v a x ↔ (x = 1 ∧ a = 1) := by
  unfold sg_v
  omega
theorem sg_v04 {a : Int} (h : a = 0 ∨ a = 4) (x : Int) : sg_v a x ↔ (x = 2 ∧ a = 4) := by
  unfold sg_v
  omega
section SKG4
variable {l : Launch} {E : sk_En} {d : Nat} {I I0 : sk_SI} {L : sk_SL} {cu sp io rp tp fp p : Nat} {Q : Option sk_V → List sk_Sh → sk_St → Prop} {TT : Int → sk_Tb} {C : sk_SI} {D : Int → Int} {rm : Int} {rT : sk_Tb} {Go : sk_Or}
theorem c_M_s0 (hv : sk_pv p D C) (h1 : sk_q1 p C I0) (n : Nat) (T : sk_Tb) (hT : sk_t8 T) (s dp ri : Int) (hs : 0 ≤ s ∧ s < C p 10) (hd : 0 ≤ dp ∧ dp ≤ 11) (hw : C (p + 3) s = 0) (hri : ri = 10 * C (p + 5) s + C (p + 6) s) (hL : sg_ht (I 96) (80 * dp) T) (hI : sg_iv p C rm rT Go I0 I TT) (h98 : I 98 s = 1) (hx : I 59 70 = 0 → sf_hx p C rm rT (sf_sV p C Go n T s)) (hq : ∀ v I' TT', sg_po p C rm rT Go I0 dp I TT (sk_WS p C Go (sk_WB p C Go n) T s) (sf_sV p C Go n T s) v I' TT' → Q (some (vi v)) sk_G (I', L, sk_J cu sp io rp tp fp)) : AW l E d 0 0 mX10_walkStep 116 [some (vr 59), some (vi s), some (vi dp), some (vi ri), none, none, none] [] sk_G (I, L, sk_J cu sp io rp tp fp) Q := by
  obtain ⟨w1, w2, -⟩ := sf_wf hv hs
  have w2 := w2 (Or.inl hw)
  have v10 := hv.2.1
  have hW : ∀ x, sk_WS p C Go (sk_WB p C Go n) T s x ↔ (if sk_rT p C s T = -1 then x = 1 else x = 2) := by
    intro x
    unfold sk_WS
    rw [if_pos hw]
  have hV : ∀ t T', sf_sV p C Go n T s t T' → t = s ∧ T' = T := by
    intro t T' z
    rcases z with z | z
    · exact z
    · unfold sk_VS at z
      simp only [hw, Int.reduceEq, if_false, or_self, reduceIte] at z
  have e96 : I 96 (80 * dp + ri) = sk_rT p C s T := by rw [hL ri (by omega) (by omega), hri]; rfl
  have hrT : -1 ≤ sk_rT p C s T ∧ sk_rT p C s T ≤ 7 := hT _ (by omega) (by omega)
  have n71 := hI.2.2.2.1
  have zs := (hI.2.1.2.2 s hs.1 (by omega)).2
  have g1 : sk_rT p C s T = -1 → Q (some (vi 1)) sk_G (I, L, sk_J cu sp io rp tp fp) := fun e => hq 1 I TT ⟨hI, sg_gr_rf _ _ _, by omega, fun _ => ⟨fun x => by rw [hW x, if_pos e, sg_v_1], fun t T' z => by
    obtain ⟨rfl, rfl⟩ := hV t T' z
    exact ⟨hs, h98, fun _ y => absurd e y, fun y => by omega⟩⟩⟩
  have g2 : sk_rT p C s T ≠ -1 → ∀ nv, (nv = 1 ∧ (I 59 71 = 1 ∨ I 99 s = 0)) ∨ (nv = 0 ∧ I 59 71 = 0 ∧ I 99 s = 1) → Q (some (vi 4)) sk_G (sk_uI (sk_uI I 59 71 nv) 99 s 1, L, sk_J cu sp io rp tp fp) := fun e nv hnv => by
    obtain ⟨k1, k2⟩ := sg_iv_99 (dp := dp) hI (s := s) (nv := nv) (by omega) hnv (fun z A G P O hc => (hx z A G P O hc s T (Or.inl ⟨rfl, rfl⟩)).2.1 hw e)
    refine hq 4 _ TT ⟨k1, k2, by omega, fun _ => ⟨fun x => by rw [hW x, if_neg e, sg_v_4], fun t T' z => ?_⟩⟩
    obtain ⟨rfl, rfl⟩ := hV t T' z
    refine ⟨hs, (k2.2.2.2.1 _).1 h98, fun _ _ => ?_, fun y => by omega⟩
    rw [sk_uI_s, sk_up_s]
  generalize sk_rT p C s T = R at *
  have o1 : (1 : Int) = 0 ∨ (1 : Int) = 1 := Or.inr rfl
  have b96 : 0 ≤ 80 * dp + ri ∧ 80 * dp + ri < 1280 := by omega
  clear hq hx hI hL hW hV hT
  refine AW_run 80 rfl ?_
  refine AW_iald rfl rfl b96 (by decide) ?_
  rw [e96]
  refine AW_run 80 rfl ?_
  refine AW_icne rfl (fun g => ?_) (fun g => ?_) (by unfold sk_in; omega)
  · have g2 := g2 g
    refine AW_run 80 rfl ?_
    refine AW_ifne rfl (fun g3 => ?_) (fun g3 => ?_) (by unfold sk_in; omega)
    · have g2 := g2 1 (by omega)
      refine AW_run 80 rfl ?_
      refine AW_putZ rfl rfl (Or.inr rfl) ?_
      refine AW_run 80 rfl ?_
      refine AW_zast rfl rfl ⟨by omega, by omega⟩ (by decide) (o1) ?_
      refine AW_run 80 rfl ?_
      exact AW_iret rfl rfl g2
    · refine AW_run 80 rfl ?_
      refine AW_zald rfl rfl ⟨by omega, by omega⟩ (by decide) ?_
      refine AW_ifne rfl (fun g4 => ?_) (fun g4 => ?_) (by unfold sk_in; omega)
      · have g2 := g2 0 (by omega)
        refine AW_run 80 rfl ?_
        refine AW_putZ rfl rfl (Or.inl rfl) ?_
        refine AW_run 80 rfl ?_
        refine AW_zast rfl rfl ⟨by omega, by omega⟩ (by decide) (o1) ?_
        refine AW_run 80 rfl ?_
        exact AW_iret rfl rfl g2
      · have g2 := g2 1 (by omega)
        refine AW_run 80 rfl ?_
        refine AW_putZ rfl rfl (Or.inr rfl) ?_
        refine AW_run 80 rfl ?_
        refine AW_zast rfl rfl ⟨by omega, by omega⟩ (by decide) (o1) ?_
        refine AW_run 80 rfl ?_
        exact AW_iret rfl rfl g2
  · have g1 := g1 g
    refine AW_run 80 rfl ?_
    exact AW_iret rfl rfl g1
theorem c_M_s1 (hv : sk_pv p D C) (hr : sk_ru C) (h1 : sk_q1 p C I0) (n : Nat) (T : sk_Tb) (hT : sk_t8 T) (s dp ri : Int) (hs : 0 ≤ s ∧ s < C p 10) (hd : 0 ≤ dp ∧ dp ≤ 11) (hw : C (p + 3) s = 1) (hL : sg_ht (I 96) (80 * dp) T) (hI : sg_iv p C rm rT Go I0 I TT) (h98 : I 98 s = 1) (hx : I 59 70 = 0 → sf_hx p C rm rT (sf_sV p C Go n T s)) (hq : ∀ v I' TT', sg_po p C rm rT Go I0 dp I TT (sk_WS p C Go (sk_WB p C Go n) T s) (sf_sV p C Go n T s) v I' TT' → Q (some (vi v)) sk_G (I', L, sk_J cu sp io rp tp fp)) : AW l E (d + 1) 0 0 mX10_walkStep 167 [some (vr 59), some (vi s), some (vi dp), some (vi ri), none, none, none] [] sk_G (I, L, sk_J cu sp io rp tp fp) Q := by
  obtain ⟨w1, -, w2, -⟩ := sf_wf hv hs
  have w2 := w2 hw
  have v10 := hv.2.1
  have v9 := hv.1
  have ow := (hv.2.2.2.1 _ w2.1 w2.2).1
  have q1 := sg_q1 h1 hI.1
  have f69 : I 69 s = C (p + 5) s := (q1.2.1 s hs.1 hs.2).2.2.1
  have f64 : I 64 (C (p + 5) s) = C (p + 1) (C (p + 5) s) := (q1.1 _ w2.1 w2.2).1
  have f61 : I 61 = C 8 := q1.2.2.1
  have hW : ∀ x, sk_WS p C Go (sk_WB p C Go n) T s x ↔ ((x = 2 ∧ Go (C (p + 5) s) (sk_cT p C (C (p + 5) s) T) 2) ∨ (x = 1 ∧ (Go (C (p + 5) s) (sk_cT p C (C (p + 5) s) T) 1 ∨ Go (C (p + 5) s) (sk_cT p C (C (p + 5) s) T) 4))) := by
    intro x
    unfold sk_WS
    rw [if_neg (by omega), if_pos hw]
  have hV : ∀ t T', sf_sV p C Go n T s t T' → t = s ∧ T' = T := by
    intro t T' z
    rcases z with z | z
    · exact z
    · unfold sk_VS at z
      simp only [hw, Int.reduceEq, if_false, or_self, reduceIte] at z
  have hA : I 59 70 = 0 → ∀ A G P O, sk_clo p C rm rT A G P O → A (C (p + 5) s) (sk_cT p C (C (p + 5) s) T) := fun z A G P O hc => (hx z A G P O hc s T (Or.inl ⟨rfl, rfl⟩)).2.2 hw
  have hB8 := sk_cT_8 (p := p) (I := C) (m := C (p + 5) s) hT ow
  have hBc := sf_cn_cT p C (C (p + 5) s) T
  have cin : ∀ r, 0 ≤ r → r < 80 → sk_cT p C (C (p + 5) s) T r = if r % 10 ≤ C 8 (C (p + 1) (C (p + 5) s) * 8 + r / 10) then T r else C (p + 1) (C (p + 5) s) := fun r r0 r1 => sk_cT_in r0 r1
  generalize hm : C (p + 5) s = m at *
  generalize hBB : sk_cT p C m T = B at *
  generalize hO : C (p + 1) m = O at *
  -- behind pairOf
  have call : ∀ q I1 T1, sg_iv p C rm rT Go I0 I1 T1 → sg_gr dp I TT I1 T1 → 0 ≤ q → q < I1 59 60 → (I1 59 70 = 0 → I1 91 q = m ∧ T1 q = B) → AW l E (d + 1) 0 0 mX10_walkStep 249 [some (vr 59), some (vi s), some (vi dp), some (vi ri), none, none, none] [vi q] sk_G (I1, L, sk_J cu sp io rp tp fp) Q := by
    intro q I1 T1 i1 g1 q0 q1 q2
    have n1 := i1.2.1.1.1
    obtain ⟨-, -, -, -, z3, z4, z5⟩ := i1.2.1.1.2 q q0 q1
    have fin : ∀ a b : Int, (a = 0 ∨ a = 1) → (b = 0 ∨ b = 4) → (a = 1 ↔ (I1 93 q = 1 ∨ I1 94 q = 1)) → (b = 4 ↔ I1 95 q = 1) → Q (some (vi (sk_or a b))) sk_G (I1, L, sk_J cu sp io rp tp fp) := by
      intro a b ha hb ha1 hb1
      obtain ⟨o1, o2⟩ := sg_or_b (a := a) (b := b) (by omega) (by omega)
      refine hq _ I1 T1 ⟨i1, g1, o1, fun z => ?_⟩
      obtain ⟨y1, y2⟩ := q2 z
      have go := sg_go_q (i1.2.2.2.2.1 z).1 i1.2.1.2.1 ⟨q0, q1⟩ y1 y2
      refine ⟨fun x => ?_, fun t T' y => ?_⟩
      · rw [hW x, o2 x, go 1, go 2, go 4, sg_b_1, sg_b_2, sg_b_4, sg_v01 ha, sg_v04 hb, ha1, hb1]
        exact Or.comm
      · obtain ⟨rfl, rfl⟩ := hV t T' y
        exact ⟨hs, (g1.2.2.2.1 _).1 h98, fun u => by omega, fun _ => ⟨q, q0, q1, by rw [hm]; exact y1, by rw [hm, hBB]; exact y2⟩⟩
    have snd : ∀ a : Int, (a = 0 ∨ a = 1) → (a = 1 ↔ (I1 93 q = 1 ∨ I1 94 q = 1)) → AW l E (d + 1) 0 0 mX10_walkStep 276 [some (vr 59), some (vi s), some (vi dp), some (vi ri), none, some (vi q), none] [vi a] sk_G (I1, L, sk_J cu sp io rp tp fp) Q := by
      intro a ha ha1
      have fin := fun b hb hb1 => fin a b ha hb ha1 hb1
      refine AW_run 80 rfl ?_
      refine AW_zald rfl rfl ⟨by omega, by omega⟩ (by decide) ?_
      refine AW_ifeq rfl (fun g => ?_) (fun g => ?_) (by unfold sk_in; omega)
      · have fin := fin 0 (Or.inl rfl) ⟨fun y => absurd y (by decide), fun y => absurd (g.symm.trans y) (by decide)⟩
        refine AW_run 80 rfl ?_
        exact AW_iret rfl rfl fin
      · have fin := fin 4 (Or.inr rfl) ⟨fun _ => z5.resolve_left g, fun _ => rfl⟩
        refine AW_run 80 rfl ?_
        exact AW_iret rfl rfl fin
    have s0 : ¬ (I1 93 q = 1 ∨ I1 94 q = 1) → _ := fun z => snd 0 (Or.inl rfl) ⟨fun y => absurd y (by decide), fun y => absurd y z⟩
    have s1 : (I1 93 q = 1 ∨ I1 94 q = 1) → _ := fun z => snd 1 (Or.inr rfl) ⟨fun _ => z, fun _ => rfl⟩
    clear fin snd
    refine AW_run 80 rfl ?_
    refine AW_zald rfl rfl ⟨by omega, by omega⟩ (by decide) ?_
    refine AW_ifne rfl (fun g => ?_) (fun g => ?_) (by unfold sk_in; omega)
    · have s1 := s1 (Or.inl (z3.resolve_left g))
      refine AW_run 2 rfl ?_
      exact s1
    · refine AW_run 80 rfl ?_
      refine AW_zald rfl rfl ⟨by omega, by omega⟩ (by decide) ?_
      refine AW_ifeq rfl (fun g2 => ?_) (fun g2 => ?_) (by unfold sk_in; omega)
      · have s0 := s0 (fun y => y.elim (fun y => absurd (g.symm.trans y) (by decide)) (fun y => absurd (g2.symm.trans y) (by decide)))
        refine AW_run 1 rfl ?_
        exact s0
      · have s1 := s1 (Or.inr (z4.resolve_left g2))
        refine AW_run 2 rfl ?_
        exact s1
  have fill : ∀ I1, sg_wr 97 0 B 80 I I1 → AW l E (d + 1) 0 0 mX10_walkStep 246 [some (vr 59), some (vi s), some (vi dp), some (vi ri), none, none, none] [vi (I1 69 s), vr 59] sk_G (I1, L, sk_J cu sp io rp tp fp) Q := by
    intro I1 hf
    have iw := sg_iv_w hI (I1 := I1) (fun c a b => hf.1 c b)
    have gw : sg_gr dp I TT I1 TT := sg_gr_w (fun c a b => hf.1 c b) (fun i hi => by rw [hf.1 96 (by decide)])
    have e69 : I1 69 s = m := by rw [hf.1 69 (by decide), f69]
    rw [e69]
    have nn := iw.2.1.1.1
    have eqT : ∀ q, 0 ≤ q → q < I1 59 60 → ((∀ r, 0 ≤ r → r < 80 → I1 92 (80 * q + r) = B r) ↔ TT q = B) := fun q q0 q1 => by
      obtain ⟨-, a2, a3, a4, -⟩ := iw.2.1.1.2 q q0 q1
      constructor
      · intro z
        refine sf_cn_eq a3 hBc (fun r hr => ?_)
        rw [← a4 r (by omega) hr]
        exact z r (by omega) hr
      · intro z r r0 r1
        rw [a4 r r0 r1, z]
    refine AW_cV (M' := mX10_pairOf) rfl kkX10_351 lcX10_pairOf rfl rfl rfl rfl rfl rfl (Nat.le_refl _) ?_
    refine c_M_pairOf I1 m (I1 59 60) B rfl nn (by unfold sk_in; omega) (fun q q0 q1 => by have := (iw.2.1.1.2 q q0 q1).1; unfold sk_in; omega) (fun q r q0 q1 r0 r1 => by
      obtain ⟨-, a2, -, a4, -⟩ := iw.2.1.1.2 q q0 q1
      rw [a4 r r0 r1]
      have := a2 r r0 r1
      unfold sk_in
      omega) (fun r r0 r1 => by have := hf.2.1 r r0 r1; rw [Int.zero_add] at this; exact this) (fun r r0 r1 => by have := hB8 r r0 r1; unfold sk_in; omega) (fun q q0 q1 q2 q3 => ?_) (fun hno => ⟨fun hn => ?_, fun hn I2 hI2 => ?_⟩)
    · exact call q I1 TT iw gw q0 q1 (fun _ => ⟨q2, (eqT q q0 q1).mp q3⟩)
    · have hno' : ∀ q, 0 ≤ q → q < I1 59 60 → ¬ (I1 91 q = m ∧ TT q = B) := fun q q0 q1 z => hno q q0 q1 ⟨z.1, (eqT q q0 q1).mpr z.2⟩
      obtain ⟨k1, k2, k3⟩ := sg_iv_70 (dp := dp) iw hn hno' (fun z => hA (by rw [hf.1 59 (by decide)] at z; exact z))
      refine call 0 _ TT k1 (sg_gr_tr hI.2.1.1.1.1 iw.2.2.2.1 gw k2) (by omega) ?_ (fun z => by omega)
      rw [sk_uI_s, sk_up_o (by decide)]
      omega
    · have hno' : ∀ q, 0 ≤ q → q < I1 59 60 → ¬ (I1 91 q = m ∧ TT q = B) := fun q q0 q1 z => hno q q0 q1 ⟨z.1, (eqT q q0 q1).mpr z.2⟩
      obtain ⟨k1, k2, k3, k4, k5⟩ := sg_iv_ins (dp := dp) iw rfl hn hno' (fun z => hA (by rw [hf.1 59 (by decide)] at z; exact z)) w2 hB8 hBc hI2
      exact call _ I2 _ k1 (sg_gr_tr hI.2.1.1.1.1 iw.2.2.2.1 gw k2) nn.1 (by omega) (fun _ => ⟨k3, k4⟩)
  have lp : ∀ (k : Nat) (r : Int) (I1 : sk_SI), 0 ≤ r → r + k = 80 → sg_wr 97 0 B r I I1 → AW l E (d + 1) 0 0 mX10_walkStep 174 [some (vr 59), some (vi s), some (vi dp), some (vi ri), none, some (vi r), none] [vi 80, vi r] sk_G (I1, L, sk_J cu sp io rp tp fp) Q := by
    intro k
    induction k with
    | zero =>
      intro r I1 r0 hr h
      have : r = 80 := by omega
      subst this
      have fill := fill I1 h
      refine AW_icge rfl (fun g => ?_) (fun g => by omega)
      refine AW_run 80 rfl ?_
      refine AW_iald rfl rfl ⟨by omega, by omega⟩ (by decide) ?_
      exact AW_lk fill ⟨rfl, rfl, rfl, rfl, trivial⟩
    | succ k ih =>
      intro r I1 r0 hrk h
      have e69 : I1 69 s = m := by rw [h.1 69 (by decide), f69]
      have e64 : I1 64 m = O := by rw [h.1 64 (by decide), f64]
      have e61 : I1 61 = C 8 := by rw [h.1 61 (by decide), f61]
      have e96 : I1 96 (80 * dp + r) = T r := by rw [h.1 96 (by decide)]; exact hL r r0 (by omega)
      have put : ∀ v, v = B r → AW l E (d + 1) 0 0 mX10_walkStep 174 [some (vr 59), some (vi s), some (vi dp), some (vi ri), none, some (vi (r + 1)), none] [vi 80, vi (r + 1)] sk_G (sk_uI I1 97 r v, L, sk_J cu sp io rp tp fp) Q := fun v hv => by
        have := ih (r + 1) _ (by omega) (by omega) (sg_wr_s h r0 hv)
        rw [Int.zero_add] at this
        exact this
      have ru := hr (O * 8 + r / 10) (by omega) (by omega)
      have cr := cin r r0 (by omega)
      have b96 : 0 ≤ 80 * dp + r ∧ 80 * dp + r < 1280 := by omega
      have hm20 : 0 ≤ m ∧ m < 40 := by omega
      clear ih fill call hq hI hL hx hW hV hA
      refine AW_icge rfl (fun g => by omega) (fun g => ?_) (by unfold sk_in; omega)
      refine AW_run 80 rfl ?_
      refine AW_iald rfl rfl ⟨by omega, by omega⟩ (by decide) ?_
      rw [e69]
      refine AW_iald rfl rfl hm20 (by decide) ?_
      rw [e64]
      refine AW_run 80 rfl ?_
      refine AW_idiv rfl (by omega) (by omega) ?_
      refine AW_run 80 rfl ?_
      refine AW_irem rfl (by omega) (by omega) ?_
      refine AW_cV (M' := mX10_hasRight) (d' := d) rfl kkX10_260 lcX10_hasRight rfl rfl rfl rfl rfl rfl (Nat.le_refl _) ?_
      refine c_M_has O (r / 10) (r % 10) (by omega) (by omega) (by unfold sk_in; omega) (by rw [e61, show 8 * O = O * 8 by omega]; unfold sk_in; omega) (fun z => ?_) (fun z => ?_)
      · rw [e61, show 8 * O = O * 8 by omega] at z
        have put := put (T r) (by rw [cr, if_pos z])
        refine AW_run 80 rfl ?_
        first | refine AW_e1 rfl ?_ | refine AW_e0 rfl ?_ | refine AW_n1 rfl ?_ | refine AW_n0 rfl ?_
        refine AW_run 80 rfl ?_
        refine AW_iald rfl rfl b96 (by decide) ?_
        rw [e96]
        refine AW_run 80 rfl ?_
        refine AW_iast rfl rfl ⟨by omega, by omega⟩ (by decide) ?_
        refine AW_run 80 rfl ?_
        exact AW_lk put ⟨rfl, rfl, rfl, rfl, rfl, trivial⟩
      · rw [e61, show 8 * O = O * 8 by omega] at z
        have put := put O (by rw [cr, if_neg (by omega)])
        refine AW_run 80 rfl ?_
        first | refine AW_e1 rfl ?_ | refine AW_e0 rfl ?_ | refine AW_n1 rfl ?_ | refine AW_n0 rfl ?_
        refine AW_run 80 rfl ?_
        refine AW_iast rfl rfl ⟨by omega, by omega⟩ (by decide) ?_
        refine AW_run 80 rfl ?_
        exact AW_lk put ⟨rfl, rfl, rfl, rfl, rfl, trivial⟩
  have lp := lp 80 0 I (by omega) (by omega) (sg_wr_0 _ _ _ _)
  refine AW_run 80 rfl ?_
  exact lp
end SKG4
