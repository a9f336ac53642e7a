/-! ===== SealKeeperModel.ahead ===== -/
section SKGa
variable {l : Launch} {E : sk_En} {d : Nat} {L : sk_SL} {cu sp io rp tp fp p : Nat} {Q : Option sk_V → List sk_Sh → sk_St → Prop} {C : sk_SI} {D : Int → Int}
theorem c_M_while (hv : sk_pv p D C) (hr : sk_ru C) (hpl : ∀ s, 0 ≤ s → s < C p 10 → C (p + 3) s ≠ 4 ∧ C (p + 3) s ≠ 5 ∧ C (p + 3) s ≠ 6) (I0 : sk_SI) (h1 : sk_q1 p C I0) (rm : Int) (rT : sk_Tb) (m : Int) (hq0 : ∀ I' TT', sg_jv p C rm rT I0 I' TT' → I' 59 70 = 1 → Q (some (vi (-6))) sk_G (I', L, sk_J cu sp io rp tp fp)) (hq1 : ∀ I' TT', sg_jv p C rm rT I0 I' TT' → I' 59 70 = 0 → (∀ q, 0 ≤ q → q < I' 59 60 → sg_cl p C I' TT' q) → Q (some (vi (I' 59 60))) sk_G (sk_uI I' 59 59 1, L, sk_J cu sp io rp tp fp)) : ∀ (k : Nat) (I : sk_SI) (TT : Int → sk_Tb), sg_jv p C rm rT I0 I TT → (I 59 70 = 0 → I 59 71 = 1 → 1600 < sg_M I + k) → (I 59 70 = 0 → I 59 71 = 0 → ∀ q, 0 ≤ q → q < I 59 60 → sg_cl p C I TT q) → AW l E (d + 41) 0 0 mX10_ahead 151 [some (vr 59), some (vi m), none, none, none, none, none, none] [vi (I 59 71)] sk_G (I, L, sk_J cu sp io rp tp fp) Q := by
  have fin : ∀ (I : sk_SI) (TT : Int → sk_Tb), sg_jv p C rm rT I0 I TT → (I 59 70 = 0 → ∀ q, 0 ≤ q → q < I 59 60 → sg_cl p C I TT q) → AW l E (d + 41) 0 0 mX10_ahead 360 [some (vr 59), some (vi m), none, none, none, none, none, none] [] sk_G (I, L, sk_J cu sp io rp tp fp) Q := by
    intro I TT hJ hc
    have h70 := hJ.2.2.2.1
    refine AW_run 80 rfl ?_
    refine AW_ifeq rfl (fun g => ?_) (fun g => ?_) (by unfold sk_in; omega)
    · have hq1 := hq1 I TT hJ g (hc g)
      refine AW_run 80 rfl ?_
      refine AW_putZ rfl rfl (Or.inr rfl) ?_
      refine AW_run 80 rfl ?_
      refine AW_top (b := I 59 60) (by rw [sk_uI_s]; exact sk_up_o (by decide)) ?_
      exact AW_iret rfl rfl hq1
    · have hq0 := hq0 I TT hJ (by omega)
      refine AW_run 80 rfl ?_
      exact AW_iret rfl rfl hq0
  intro k
  induction k with
  | zero =>
    intro I TT hJ hM hc
    have h70 := hJ.2.2.2.1
    have h71 := hJ.2.2.2.2.1
    have mb := sg_M_b hJ.2.1
    have fin := fin I TT hJ (fun z => by
      rcases h71 with y | y
      · exact hc z y
      · have := hM z y; omega)
    refine AW_ifeq rfl (fun g => ?_) (fun g => ?_) (by unfold sk_in; omega)
    · exact fin
    · refine AW_run 80 rfl ?_
      refine AW_ifne rfl (fun g2 => ?_) (fun g2 => ?_) (by unfold sk_in; omega)
      · exact fin
      · have := hM g2 (by omega)
        omega
  | succ k ih =>
    intro I TT hJ hM hc
    have h70 := hJ.2.2.2.1
    have h71 := hJ.2.2.2.2.1
    refine AW_ifeq rfl (fun g => ?_) (fun g => ?_) (by unfold sk_in; omega)
    · exact fin I TT hJ (fun z => hc z g)
    · refine AW_run 80 rfl ?_
      refine AW_ifne rfl (fun g2 => ?_) (fun g2 => ?_) (by unfold sk_in; omega)
      · exact fin I TT hJ (fun z => by omega)
      · have hM := hM g2 (by omega)
        obtain ⟨k1, k2, k3, k4, k5⟩ := sg_jv_71 hJ
        have lp : ∀ (j : Nat) (q : Int) (I' : sk_SI) (T' : Int → sk_Tb), 0 ≤ q → q + j = 300 → sg_jv p C rm rT I0 I' T' → (I' 59 70 = 0 → sg_M I ≤ sg_M I' ∧ (I' 59 71 = 1 → sg_M I + 1 ≤ sg_M I') ∧ (I' 59 71 = 0 → ∀ q', 0 ≤ q' → q' < q → q' < I' 59 60 → sg_cl p C I' T' q')) → AW l E (d + 41) 0 0 mX10_ahead 173 [some (vr 59), some (vi m), none, some (vi q), none, none, none, none] [vi (I' 59 60), vi q] sk_G (I', L, sk_J cu sp io rp tp fp) Q := by
          intro j
          induction j with
          | zero =>
            intro q I' T' q0 hj hJ' h
            have n0 := hJ'.2.1.1.1
            have nx := ih I' T' hJ' (fun a b => by have := (h a).2.1 b; omega) (fun a b q' c e => (h a).2.2 b q' c (by omega) e)
            refine AW_icge rfl (fun g => ?_) (fun g => by omega) (by unfold sk_in; omega) (by unfold sk_in; omega)
            refine AW_run 80 rfl ?_
            exact AW_lk nx ⟨rfl, rfl, trivial⟩
          | succ j ihj =>
            intro q I' T' q0 hj hJ' h
            have n0 := hJ'.2.1.1.1
            have h70' := hJ'.2.2.2.1
            have h71' := hJ'.2.2.2.2.1
            refine AW_icge rfl (fun g => ?_) (fun g => ?_) (by unfold sk_in; omega) (by unfold sk_in; omega)
            · have nx := ih I' T' hJ' (fun a b => by have := (h a).2.1 b; omega) (fun a b q' c e => (h a).2.2 b q' c (by omega) e)
              refine AW_run 80 rfl ?_
              exact AW_lk nx ⟨rfl, rfl, trivial⟩
            · refine AW_run 80 rfl ?_
              refine AW_ifne rfl (fun g3 => ?_) (fun g3 => ?_) (by unfold sk_in; omega)
              · have nx := ih I' T' hJ' (fun a b => by omega) (fun a b => by omega)
                refine AW_run 80 rfl ?_
                exact AW_lk nx ⟨rfl, rfl, trivial⟩
              · have h := h g3
                refine c_M_round1 hv hr hpl I0 h1 rm rT q I' T' hJ' g3 ⟨q0, by omega⟩ _ m rfl (fun I3 T3 nv j1 j2 j3 j4 => ?_)
                refine ihj (q + 1) I3 T3 (by omega) (by omega) j1 (fun a => ?_)
                obtain ⟨c1, c2, c3⟩ := j4 a
                refine ⟨by omega, fun b => ?_, fun b q' e1 e2 e3 => ?_⟩
                · rcases h71' with z | z
                  · have := c2 z (by omega)
                    omega
                  · have := h.2.1 z
                    omega
                · obtain ⟨c4, c5, c6⟩ := c3 (by omega)
                  by_cases e : q' = q
                  · subst e; exact c5
                  · exact c6 q' e1 (by omega) (h.2.2 c4 q' e1 (by omega) (by omega))
        have lp := lp 300 0 _ TT (by omega) (by omega) k1 (fun _ => ⟨by rw [k2]; exact Int.le_refl _, fun z => by omega, fun _ q' a b => by omega⟩)
        refine AW_run 80 rfl ?_
        refine AW_putZ rfl rfl (Or.inl rfl) ?_
        refine AW_run 80 rfl ?_
        exact AW_lk lp ⟨rfl, rfl, rfl, trivial⟩
def sg_zz (k : Int) (I I' : sk_SI) : Prop := (∀ c, c ≠ 98 → c ≠ 99 → I' c = I c) ∧ ∀ s, 0 ≤ s → s < k → I' 98 s = 0 ∧ I' 99 s = 0
theorem sg_jv_0 {I I0 I4 : sk_SI} {m : Int} (h1 : sg_fr I0 I) (hz : ∀ s, 0 ≤ s → s < 200 → I 98 s = 0 ∧ I 99 s = 0) (h60 : I 59 60 = 0) (h70 : I 59 70 = 0) (hm : 0 ≤ m ∧ m < C p 9) (ow : 0 ≤ C (p + 1) m ∧ C (p + 1) m ≤ 7) (h : sg_ins m 0 (sk_cT p C m sf_no) I I4) : sg_jv p C m (sk_cT p C m sf_no) I0 I4 (fun _ => sk_cT p C m sf_no) ∧ I4 59 71 = 1 ∧ I4 59 60 = 1 ∧ I4 59 70 = 0 ∧ 0 ≤ sg_M I4 := by
  obtain ⟨⟨k60, k71, kj⟩, k91, k92, k92', ⟨k93, k94, k95⟩, ko⟩ := h
  have k70 : I4 59 70 = 0 := by rw [kj 70 (by decide) (by decide)]; exact h70
  have k98 := ko 98 (by decide) (by decide)
  have k99 := ko 99 (by decide) (by decide)
  have q91 : I4 91 0 = m := by rw [k91, sk_up_s]
  have q93 : I4 93 0 = 0 := by rw [k93, sk_up_s]
  have q94 : I4 94 0 = 0 := by rw [k94, sk_up_s]
  have q95 : I4 95 0 = 0 := by rw [k95, sk_up_s]
  have nb : ∀ x, ¬ sg_b I4 0 x := fun x z => by unfold sg_b at z; rw [q93, q94, q95] at z; omega
  refine ⟨⟨⟨fun c a b => by rw [ko c a (by omega)]; exact h1.1 c a b, fun j a b c => by rw [kj j a c]; exact h1.2 j a b c⟩, ⟨⟨by omega, fun q a b => ?_⟩, fun q q' a b c e _ _ => by omega, fun s a b => ?_⟩, ⟨by omega, q91, rfl⟩, Or.inl k70, Or.inr k71, fun _ => ⟨fun A G P O hc => ⟨fun q a b => ?_, fun s a b => ?_⟩, fun q x a b z => ?_⟩, fun z => by omega⟩, k71, by omega, k70, ?_⟩
  · have : q = 0 := by omega
    subst this
    rw [q91, q93, q94, q95]
    exact ⟨hm, sk_cT_8 sf_no_8 ow, sf_cn_cT p C m sf_no, k92, Or.inl rfl, Or.inl rfl, Or.inl rfl⟩
  · rw [k98, k99]
    exact ⟨Or.inl (hz s a b).1, Or.inl (hz s a b).2⟩
  · have : q = 0 := by omega
    subst this
    rw [q91]
    exact ⟨hc.1, fun x z => absurd z (nb x)⟩
  · rw [k98, k99, (hz s a b).1, (hz s a b).2]
    exact ⟨fun y => by omega, fun y => by omega⟩
  · have : q = 0 := by omega
    subst this
    exact absurd z (nb x)
  · have a := sk_sum_bd (f := I4 98) (a := 0) (b := 1) 200 (fun i a b => by rw [k98, (hz i a (by omega)).1]; omega)
    have b := sk_sum_bd (f := I4 99) (a := 0) (b := 1) 200 (fun i a b => by rw [k99, (hz i a (by omega)).2]; omega)
    unfold sg_M sg_N sg_B
    rw [k60]
    have c : sk_sum (fun q => I4 93 q + I4 94 q + I4 95 q) (0 + 1 : Int).toNat = 0 + (I4 93 0 + I4 94 0 + I4 95 0) := rfl
    rw [c, q93, q94, q95]
    omega
theorem c_M_ahead (hv : sk_pv p D C) (hr : sk_ru C) (I : sk_SI) (ht : I 59 0 = 0) (h1 : sk_q1 p C I) (h63 : I 63 0 = C p 9) (h66 : I 66 0 = C p 10) (h7 : I 59 7 = 1) (m : Int) (hmi : sk_in m) (hnp : ¬ (∀ s, 0 ≤ s → s < C p 10 → C (p + 3) s ≠ 4 ∧ C (p + 3) s ≠ 5 ∧ C (p + 3) s ≠ 6) → Q (some (vi (-4))) sk_G (I, L, sk_J cu sp io rp tp fp)) (hou : (∀ s, 0 ≤ s → s < C p 10 → C (p + 3) s ≠ 4 ∧ C (p + 3) s ≠ 5 ∧ C (p + 3) s ≠ 6) → ¬ (0 ≤ m ∧ m < C p 9) → Q (some (vi (-3))) sk_G (I, L, sk_J cu sp io rp tp fp)) (hq0 : (∀ s, 0 ≤ s → s < C p 10 → C (p + 3) s ≠ 4 ∧ C (p + 3) s ≠ 5 ∧ C (p + 3) s ≠ 6) → 0 ≤ m ∧ m < C p 9 → ∀ I' TT', sg_jv p C m (sk_cT p C m sf_no) (sk_uI I 59 59 0) I' TT' → I' 59 70 = 1 → Q (some (vi (-6))) sk_G (I', L, sk_J cu sp io rp tp fp)) (hq1 : (∀ s, 0 ≤ s → s < C p 10 → C (p + 3) s ≠ 4 ∧ C (p + 3) s ≠ 5 ∧ C (p + 3) s ≠ 6) → 0 ≤ m ∧ m < C p 9 → ∀ I' TT', sg_jv p C m (sk_cT p C m sf_no) (sk_uI I 59 59 0) I' TT' → I' 59 70 = 0 → (∀ q, 0 ≤ q → q < I' 59 60 → sg_cl p C I' TT' q) → Q (some (vi (I' 59 60))) sk_G (sk_uI I' 59 59 1, L, sk_J cu sp io rp tp fp)) : AW l E (d + 41) 0 0 mX10_ahead 0 [some (vr 59), some (vi m), none, none, none, none, none, none] [] sk_G (I, L, sk_J cu sp io rp tp fp) Q := by
  have v9 := hv.1
  have v10 := hv.2.1
  have pe : (∀ s, 0 ≤ s → s < C p 10 → I 67 s ≠ 4 ∧ I 67 s ≠ 5 ∧ I 67 s ≠ 6) ↔ (∀ s, 0 ≤ s → s < C p 10 → C (p + 3) s ≠ 4 ∧ C (p + 3) s ≠ 5 ∧ C (p + 3) s ≠ 6) := by
    constructor
    · intro h s a b
      have := h s a b
      rw [(h1.2.1 s a b).1] at this
      exact this
    · intro h s a b
      rw [(h1.2.1 s a b).1]
      exact h s a b
  have w67 : ∀ s, 0 ≤ s → s < C p 10 → sk_in (I 67 s) := fun s a b => by
    have := (sf_wf hv ⟨a, b⟩).1
    rw [(h1.2.1 s a b).1]
    unfold sk_in
    omega
  have o0 : (0 : Int) = 0 ∨ (0 : Int) = 1 := Or.inl rfl
  have good : (∀ s, 0 ≤ s → s < C p 10 → C (p + 3) s ≠ 4 ∧ C (p + 3) s ≠ 5 ∧ C (p + 3) s ≠ 6) → 0 ≤ m ∧ m < C p 9 → AW l E (d + 41) 0 0 mX10_ahead 41 [some (vr 59), some (vi m), none, none, none, none, none, none] [] sk_G (I, L, sk_J cu sp io rp tp fp) Q := by
    intro hpl hm
    have hq0 := hq0 hpl hm
    have hq1 := hq1 hpl hm
    have ow := (hv.2.2.2.1 m hm.1 hm.2).1
    have q1' : sk_q1 p C (sk_uI I 59 59 0) := by
      unfold sk_q1
      simp only [sk_uI_s, sk_uI_o, sk_up_o, ne_eq, Nat.reduceEqDiff, Int.reduceEq, not_false_eq_true]
      exact h1
    have wh := c_M_while (l := l) (E := E) (d := d) (L := L) (cu := cu) (sp := sp) (io := io) (rp := rp) (tp := tp) (fp := fp) (Q := Q) hv hr hpl (sk_uI I 59 59 0) q1' m (sk_cT p C m sf_no) m hq0 hq1
    clear hq0 hq1 hnp hou
    have e61 : I 61 = C 8 := h1.2.2.1
    have e64 : I 64 m = C (p + 1) m := (h1.1 m hm.1 hm.2).1
    have two : ∀ I2, sg_zz 200 (sk_uI (sk_uI (sk_uI I 59 59 0) 59 70 0) 59 60 0) I2 → AW l E (d + 41) 0 0 mX10_ahead 85 [some (vr 59), some (vi m), none, none, none, none, none, none] [] sk_G (I2, L, sk_J cu sp io rp tp fp) Q := by
      intro I2 h2
      have k61 : I2 61 = C 8 := by rw [h2.1 61 (by decide) (by decide), sk_uI_o (by decide), sk_uI_o (by decide), sk_uI_o (by decide), e61]
      have k64 : I2 64 m = C (p + 1) m := by rw [h2.1 64 (by decide) (by decide), sk_uI_o (by decide), sk_uI_o (by decide), sk_uI_o (by decide), e64]
      have k60 : I2 59 60 = 0 := by rw [h2.1 59 (by decide) (by decide), sk_uI_s, sk_up_s]
      have k70 : I2 59 70 = 0 := by rw [h2.1 59 (by decide) (by decide), sk_uI_s, sk_up_o (by decide), sk_uI_s, sk_up_s]
      have fr2 : sg_fr (sk_uI I 59 59 0) I2 := ⟨fun c a b => by rw [h2.1 c (by omega) (by omega), sk_uI_o a, sk_uI_o a], fun j a b c => by rw [h2.1 59 (by decide) (by decide), sk_uI_s, sk_up_o a, sk_uI_s, sk_up_o b]⟩
      have three : ∀ I3, sg_wr 97 0 (sk_cT p C m sf_no) 80 I2 I3 → AW l E (d + 41) 0 0 mX10_ahead 138 [some (vr 59), some (vi m), none, none, none, none, none, none] [vi m, vr 59] sk_G (I3, L, sk_J cu sp io rp tp fp) Q := by
        intro I3 h3
        have r60 : I3 59 60 = 0 := by rw [h3.1 59 (by decide)]; exact k60
        have r70 : I3 59 70 = 0 := by rw [h3.1 59 (by decide)]; exact k70
        have fr3 : sg_fr (sk_uI I 59 59 0) I3 := ⟨fun c a b => by rw [h3.1 c (by omega)]; exact fr2.1 c a b, by rw [h3.1 59 (by decide)]; exact fr2.2⟩
        have hz : ∀ s, 0 ≤ s → s < 200 → I3 98 s = 0 ∧ I3 99 s = 0 := by rw [h3.1 98 (by decide), h3.1 99 (by decide)]; exact h2.2
        have cb := sk_cT_8 (p := p) (I := C) (m := m) sf_no_8 ow
        refine AW_cV (M' := mX10_pairOf) (d' := d + 40) rfl kkX10_351 lcX10_pairOf rfl rfl rfl rfl rfl rfl (Nat.le_refl _) ?_
        refine c_M_pairOf I3 m 0 (sk_cT p C m sf_no) r60 (by omega) hmi (fun q a b => by omega) (fun q r a b => by omega) (fun r a b => by have := h3.2.1 r a b; rw [Int.zero_add] at this; exact this) (fun r a b => by have := cb r a b; unfold sk_in; omega) (fun q a b => by omega) (fun _ => ⟨fun z => by omega, fun _ I4 h4 => ?_⟩)
        obtain ⟨j1, j2, j3, j4, j5⟩ := sg_jv_0 fr3 hz r60 r70 hm ow h4
        have wh := wh 1601 I4 _ j1 (fun _ _ => by omega) (fun _ z => by omega)
        have e71 : sk_uI I4 59 71 1 = I4 := sk_uI_id j2
        refine AW_run 80 rfl ?_
        refine AW_putZ rfl rfl (Or.inr rfl) ?_
        rw [show sk_uI I4 59 ((71 : Nat) : Int) 1 = I4 from e71]
        refine AW_run 80 rfl ?_
        exact AW_lk wh ⟨rfl, rfl, trivial⟩
      have lp : ∀ (k : Nat) (r : Int) (I3 : sk_SI), 0 ≤ r → r + k = 80 → sg_wr 97 0 (sk_cT p C m sf_no) r I2 I3 → AW l E (d + 41) 0 0 mX10_ahead 90 [some (vr 59), some (vi m), some (vi r), none, none, none, none, none] [vi 80, vi r] sk_G (I3, L, sk_J cu sp io rp tp fp) Q := by
        intro k
        induction k with
        | zero =>
          intro r I3 r0 hrk h3
          have : r = 80 := by omega
          subst this
          have three := three I3 h3
          refine AW_icge rfl (fun g => ?_) (fun g => by omega)
          refine AW_run 80 rfl ?_
          exact AW_lk three ⟨rfl, rfl, trivial⟩
        | succ k ih =>
          intro r I3 r0 hrk h3
          have g61 : I3 61 = C 8 := by rw [h3.1 61 (by decide)]; exact k61
          have g64 : I3 64 m = C (p + 1) m := by rw [h3.1 64 (by decide)]; exact k64
          have put : ∀ v, v = sk_cT p C m sf_no r → AW l E (d + 41) 0 0 mX10_ahead 90 [some (vr 59), some (vi m), some (vi (r + 1)), none, none, none, none, none] [vi 80, vi (r + 1)] sk_G (sk_uI I3 97 r v, L, sk_J cu sp io rp tp fp) Q := fun v hv => by
            have := ih (r + 1) _ (by omega) (by omega) (sg_wr_s h3 r0 hv)
            rw [Int.zero_add] at this
            exact this
          have ru := hr (C (p + 1) m * 8 + r / 10) (by omega) (by omega)
          have cr := sk_cT_in (p := p) (I := C) (m := m) (T := sf_no) r0 (show r < 80 by omega)
          have hm40 : 0 ≤ m ∧ m < 40 := by omega
          clear ih three wh
          refine AW_icge rfl (fun g => by omega) (fun g => ?_) (by unfold sk_in; omega)
          refine AW_run 80 rfl ?_
          refine AW_iald rfl rfl hm40 (by decide) ?_
          rw [g64]
          refine AW_run 80 rfl ?_
          refine AW_idiv rfl (by omega) (by omega) ?_
          refine AW_run 80 rfl ?_
          refine AW_irem rfl (by omega) (by omega) ?_
          refine AW_cV (M' := mX10_hasRight) (d' := d + 40) rfl kkX10_260 lcX10_hasRight rfl rfl rfl rfl rfl rfl (Nat.le_refl _) ?_
          refine c_M_has (C (p + 1) m) (r / 10) (r % 10) (by omega) (by omega) (by unfold sk_in; omega) (by rw [g61, show 8 * C (p + 1) m = C (p + 1) m * 8 by omega]; unfold sk_in; omega) (fun z => ?_) (fun z => ?_)
          · rw [g61, show 8 * C (p + 1) m = C (p + 1) m * 8 by omega] at z
            have put := put (-1) (by rw [cr, if_pos z]; rfl)
            refine AW_run 80 rfl ?_
            first | refine AW_e1 rfl ?_ | refine AW_e0 rfl ?_ | refine AW_n1 rfl ?_ | refine AW_n0 rfl ?_
            refine AW_run 80 rfl ?_
            refine AW_iast rfl rfl ⟨by omega, by omega⟩ (by decide) ?_
            refine AW_run 80 rfl ?_
            exact AW_lk put ⟨rfl, rfl, rfl, trivial⟩
          · rw [g61, show 8 * C (p + 1) m = C (p + 1) m * 8 by omega] at z
            have put := put (C (p + 1) m) (by rw [cr, if_neg (by omega)])
            refine AW_run 80 rfl ?_
            first | refine AW_e1 rfl ?_ | refine AW_e0 rfl ?_ | refine AW_n1 rfl ?_ | refine AW_n0 rfl ?_
            refine AW_run 80 rfl ?_
            refine AW_iald rfl rfl hm40 (by decide) ?_
            rw [g64]
            refine AW_iast rfl rfl ⟨by omega, by omega⟩ (by decide) ?_
            refine AW_run 80 rfl ?_
            exact AW_lk put ⟨rfl, rfl, rfl, trivial⟩
      have lp := lp 80 0 I2 (by omega) (by omega) (sg_wr_0 _ _ _ _)
      refine AW_run 80 rfl ?_
      exact AW_lk lp ⟨rfl, rfl, rfl, trivial⟩
    clear wh
    have lp : ∀ (k : Nat) (s : Int) (I2 : sk_SI), 0 ≤ s → s + k = 200 → sg_zz s (sk_uI (sk_uI (sk_uI I 59 59 0) 59 70 0) 59 60 0) I2 → AW l E (d + 41) 0 0 mX10_ahead 62 [some (vr 59), some (vi m), some (vi s), none, none, none, none, none] [vi 200, vi s] sk_G (I2, L, sk_J cu sp io rp tp fp) Q := by
      intro k
      induction k with
      | zero =>
        intro s I2 s0 hk h2
        have : s = 200 := by omega
        subst this
        have two := two I2 h2
        refine AW_icge rfl (fun g => ?_) (fun g => by omega)
        exact AW_lk two ⟨rfl, rfl, trivial⟩
      | succ k ih =>
        intro s I2 s0 hk h2
        have ih2 := ih (s + 1) (sk_uI (sk_uI I2 98 s 0) 99 s 0) (by omega) (by omega) ⟨fun c a b => by rw [sk_uI_o b, sk_uI_o a]; exact h2.1 c a b, fun t t0 t1 => by
          rw [sk_uI_o (by decide), sk_uI_s, sk_uI_s, sk_uI_o (by decide)]
          by_cases e : t = s
          · subst e; rw [sk_up_s, sk_up_s]; exact ⟨rfl, rfl⟩
          · rw [sk_up_o e, sk_up_o e]; exact h2.2 t t0 (by omega)⟩
        clear ih two
        refine AW_icge rfl (fun g => by omega) (fun g => ?_) (by unfold sk_in; omega)
        refine AW_run 80 rfl ?_
        refine AW_zast rfl rfl ⟨by omega, by omega⟩ (by decide) (o0) ?_
        refine AW_run 80 rfl ?_
        refine AW_zast rfl rfl ⟨by omega, by omega⟩ (by decide) (o0) ?_
        refine AW_run 80 rfl ?_
        exact ih2
    have lp := lp 200 0 _ (by omega) (by omega) ⟨fun _ _ _ => rfl, fun s a b => by omega⟩
    refine AW_run 80 rfl ?_
    refine AW_putZ rfl rfl (Or.inl rfl) ?_
    refine AW_run 80 rfl ?_
    refine AW_putZ rfl rfl (Or.inl rfl) ?_
    refine AW_run 80 rfl ?_
    exact AW_lk lp ⟨rfl, rfl, rfl, trivial⟩
  have w67' : ∀ s, 0 ≤ s → s < C p 10 → sk_in (I 67 s) := w67
  refine AW_run 80 rfl ?_
  rw [sk_uI_id ht]
  refine AW_ifeq rfl (fun g => by omega) (fun g => ?_) (by unfold sk_in; omega)
  refine AW_run 80 rfl ?_
  refine AW_cV (M' := mX10_isPlain) (d' := d + 40) rfl kkX10_363 lcX10_isPlain rfl rfl rfl rfl rfl rfl (Nat.le_refl _) ?_
  refine c_M_plain I (C p 10) h66 v10 w67 (fun z => ?_) (fun z => ?_)
  · have z := pe.mp z
    have good := good z
    have hou := hou z
    refine AW_run 80 rfl ?_
    first | refine AW_e1 rfl ?_ | refine AW_e0 rfl ?_ | refine AW_n1 rfl ?_ | refine AW_n0 rfl ?_
    refine AW_run 80 rfl ?_
    refine AW_iald rfl rfl ⟨by omega, by omega⟩ (by decide) ?_
    rw [h63]
    refine AW_run 80 rfl ?_
    refine AW_in rfl kkX10_177 rfl (by omega) (fun w1 w2 => ?_) (fun w3 => ?_)
    · have good := good ⟨w1, by omega⟩
      refine AW_run 80 rfl ?_
      first | refine AW_e1 rfl ?_ | refine AW_e0 rfl ?_ | refine AW_n1 rfl ?_ | refine AW_n0 rfl ?_
      exact good
    · have hou := hou (fun y => w3 ⟨y.1, by omega⟩)
      refine AW_run 80 rfl ?_
      first | refine AW_e1 rfl ?_ | refine AW_e0 rfl ?_ | refine AW_n1 rfl ?_ | refine AW_n0 rfl ?_
      refine AW_run 80 rfl ?_
      exact AW_iret rfl rfl hou
  · have hnp := hnp (fun y => z (pe.mpr y))
    refine AW_run 80 rfl ?_
    first | refine AW_e1 rfl ?_ | refine AW_e0 rfl ?_ | refine AW_n1 rfl ?_ | refine AW_n0 rfl ?_
    refine AW_run 80 rfl ?_
    exact AW_iret rfl rfl hnp
/-- without a program -/
theorem c_M_aheadN (I : sk_SI) (ht : I 59 0 = 0) (h7 : I 59 7 = 0) (m : Int) (hq : Q (some (vi (-4))) sk_G (I, L, sk_J cu sp io rp tp fp)) : AW l E d 0 0 mX10_ahead 0 [some (vr 59), some (vi m), none, none, none, none, none, none] [] sk_G (I, L, sk_J cu sp io rp tp fp) Q := by
  refine AW_run 80 rfl ?_
  rw [sk_uI_id ht]
  refine AW_ifeq rfl (fun g => ?_) (fun g => by omega) (by unfold sk_in; omega)
  refine AW_run 80 rfl ?_
  exact AW_iret rfl rfl hq
end SKGa
