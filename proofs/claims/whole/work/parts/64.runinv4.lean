/-! ===== one turn of a run, the next one ===== -/
def sk_xsI (p : Nat) (I : sk_SI) : sk_SI := if I 35 5 = 0 then sk_bjI p I else if 0 ≤ I 38 (I 35 5 - 1) ∧ I 38 (I 35 5 - 1) < I p 10 then sk_btI p (I 38 (I 35 5 - 1)) I else sk_ebI p I
def sk_it (p : Nat) : Nat → sk_SI → sk_SI
  | 0, I => I
  | n + 1, I => if I 34 13 = -1 then sk_it p n (sk_xsI p I) else I
/-- how much is still to come at most -/
def sk_ph (p : Nat) (I : sk_SI) : Int := 4 * (I 34 11 - I 44 0) + 4 * (21 - I 44 1) + 2 * I 35 5 + (if 0 < I 35 5 ∧ ¬ (0 ≤ I 38 (I 35 5 - 1) ∧ I 38 (I 35 5 - 1) < I p 10) then 1 else 0)
def sk_XE (p : Nat) (D : Int → Int) (I : sk_SI) : Prop := ∃ lv mc, sk_XV p D lv mc 0 0 I
section SKI4
variable {p : Nat} {D lv mc : Int → Int} {a b : Int} {I : sk_SI}
theorem sk_XV_ds (hp : sk_pg p) (h : sk_XV p D lv mc 1 1 I) (hd : 0 < I 35 5) (s num st : Int) (hs : 0 ≤ s ∧ s < I p 10) (hD : D s = lv (I 35 5 - 1)) (hnum : num = I (p + 5) s) (hst : st = I 39 (I 35 5 - 1)) : sk_XE p D (sk_dsI p s num st I) ∧ sk_ps p I (sk_dsI p s num st I) ∧ sk_dsI p s num st I 35 5 ≤ I 35 5 + 1 := by
  have wk : ∀ {lv' mc' : Int → Int} {a' b' : Int} {I' : sk_SI}, sk_XV p D lv' mc' a' b' I' → 0 ≤ a' → 0 ≤ b' → sk_XE p D I' := fun h ha hb => ⟨_, _, sk_XV_wk h ha hb⟩
  obtain ⟨s3, s5, s7, s8, s9, s16, s45, s88⟩ := sk_stp h.1.1 hs.1 hs.2
  obtain ⟨w1, w2, w3, w4, w5, w6, w7, w8, w9, w10, w11⟩ := h.1.1.2.2.1 s hs.1 hs.2
  obtain ⟨f1, f2, f3, f4, f5, f6, f7, f8, f9, f10⟩ := h.2.1.2 (I 35 5 - 1) (by omega) (by omega)
  have z45 := h.2.2.2.2.2.2.2.2.2.2.2.1
  obtain ⟨b0, b2, b1⟩ := sk_bs_iff s3
  have hst2 : 0 ≤ st ∧ st < I 45 4 := by rw [hst]; exact f5
  have n8 : I (p + 8) s = -1 ∨ (0 ≤ I (p + 8) s ∧ I (p + 8) s < I p 10 ∧ D (I (p + 8) s) = lv (I 35 5 - 1) + 1) := by
    rcases w6 with z | z
    · exact Or.inl z
    · exact Or.inr ⟨by omega, z.2.1, by omega⟩
  have n9 : I (p + 9) s = -1 ∨ (0 ≤ I (p + 9) s ∧ I (p + 9) s < I p 10 ∧ D (I (p + 9) s) = lv (I 35 5 - 1) + 1) := by
    rcases w7 with z | z
    · exact Or.inl z
    · exact Or.inr ⟨by omega, z.2.1, by omega⟩
  have l11 : sk_bs (I (p + 3) s) ≠ 0 → lv (I 35 5 - 1) ≤ 11 := fun z => by have := w11 z; omega
  -- a block over an entry
  have blk : ∀ v, (I (p + 3) s = 2 ∨ I (p + 3) s = 3 ∨ I (p + 3) s = 5) → -1 ≤ v ∧ v < I 45 4 → sk_XE p D (sk_fpu 3 s (I (p + 8) s) (I 45 4) (sk_ent s v I)) ∧ sk_ps p I (sk_fpu 3 s (I (p + 8) s) (I 45 4) (sk_ent s v I)) ∧ sk_fpu 3 s (I (p + 8) s) (I 45 4) (sk_ent s v I) 35 5 ≤ I 35 5 + 1 := by
    intro v hw hv
    have he := sk_XV_ent hp h s v (Or.inl ⟨hs.1, hs.2, hw⟩) hv
    have e35 : sk_ent s v I 35 = I 35 := sk_ent_o s v I 35 (by omega)
    have ep : sk_ent s v I p = I p := sk_ent_o s v I p (by rcases hp with rfl | rfl <;> omega)
    have e45 : sk_ent s v I 45 4 = I 45 4 + 1 := by unfold sk_ent; (try simp only [sk_uI_s, sk_uI_o, sk_up_s, sk_up_o, sk_uL_s, sk_uL_o, ne_eq, Nat.reduceEqDiff, Nat.reduceAdd, Int.reduceEq, not_false_eq_true])
    obtain ⟨lv', mc', q1, q2⟩ := sk_XV_push hp he (by rw [e35]; exact hd) 3 s (I (p + 8) s) (I 45 4) (by omega) (by rw [e35]; exact l11 (fun z => by have := b0.mp z; omega)) (by rw [e35, ep]; exact n8) (by rw [e45]; omega) (fun z => by omega) (fun z => by omega)
    exact ⟨wk q1 (by omega) (by omega), sk_ps_tr (sk_ps_ent hp _ _) (sk_ps_fpu hp _ _ _ _), by rw [(sk_fpu_r _ _ _ _ _).1, e35]; omega⟩
  -- a block over the same stack
  have opn : ∀ (S : sk_SI) (r n : Int), sk_XV p D lv mc 1 1 S → S 35 5 = I 35 5 → S p = I p → S (p + 8) = I (p + 8) → S 45 4 = I 45 4 → sk_ps p I S → sk_bs (I (p + 3) s) ≠ 0 → 1 ≤ r ∧ r ≤ 3 → (r = 2 → I (p + 8) s ≠ -1) → (n = -1 ∨ (0 ≤ n ∧ n < I p 10 ∧ D n = lv (I 35 5 - 1) + 1)) → ∃ lv' mc', sk_XV p D lv' mc' 1 1 (sk_fpu r s n st S) ∧ sk_ps p I (sk_fpu r s n st S) ∧ sk_fpu r s n st S 35 5 ≤ I 35 5 + 1 := by
    intro S r n hS e35 ep e8 e45 hps hb hr h2 hn
    obtain ⟨lv', mc', q1, q2⟩ := sk_XV_push hp hS (by rw [e35]; exact hd) r s n st hr (by rw [e35]; exact l11 hb) (by rw [e35, ep]; exact hn) (by rw [e45]; exact hst2) (fun _ => by rw [e35, ep]; exact ⟨hs.1, hs.2, hD⟩) (fun z => by rw [e8]; exact h2 z)
    exact ⟨lv', mc', q1, sk_ps_tr hps (sk_ps_fpu hp _ _ _ _), by rw [(sk_fpu_r _ _ _ _ _).1, e35]; omega⟩
  suffices hsuf : ∀ X, X = sk_dsI p s num st I → sk_XE p D X ∧ sk_ps p I X ∧ X 35 5 ≤ I 35 5 + 1 from hsuf _ rfl
  intro X hX
  unfold sk_dsI at hX
  generalize sk_rf p (sk_bmp 7 I) (I (p + 5) s) (I (p + 6) s) 3021 st = r at hX
  by_cases e0 : I (p + 3) s = 0
  · rw [if_pos e0] at hX
    have e := e0
    have h7 := sk_XV_bmp hp h 7 (by omega)
    have e35 : sk_bmp 7 I 35 5 = I 35 5 := by unfold sk_bmp; (try simp only [sk_uI_s, sk_uI_o, sk_up_s, sk_up_o, sk_uL_s, sk_uL_o, ne_eq, Nat.reduceEqDiff, Nat.reduceAdd, Int.reduceEq, not_false_eq_true])
    by_cases er : r = -1
    · rw [if_pos er] at hX
      rw [hX]
      exact ⟨wk h7 (by omega) (by omega), sk_ps_bmp hp 7 (by omega), by omega⟩
    · rw [if_neg er] at hX
      obtain ⟨⟨lv', mc', r1⟩, r2, r3⟩ := sk_XV_fl hp h7 s r
      rw [hX]
      exact ⟨wk r1 (by omega) (by omega), sk_ps_tr (sk_ps_bmp hp 7 (by omega)) r2, by omega⟩
  · rw [if_neg e0] at hX
    by_cases e1 : I (p + 3) s = 1
    · rw [if_pos e1] at hX
      have e := e1
      have hm := s16 (Or.inl e)
      rw [← hnum] at hm
      have h34 : 0 ≤ I 34 12 := by have := h.2.2.1 hd; omega
      obtain ⟨lv', mc', r1⟩ := sk_XV_om hp h (Or.inl hd) h34 num st hm (by omega)
      obtain ⟨r2, r3⟩ := sk_ps_om (I := I) hp num st
      rw [hX]
      exact ⟨wk r1 (by omega) (by omega), r2, r3⟩
    · rw [if_neg e1] at hX
      by_cases e2 : I (p + 3) s = 2 ∨ I (p + 3) s = 3
      · rw [if_pos e2] at hX
        have e := e2
        rw [hX]
        exact blk st (by omega) (by omega)
      · rw [if_neg e2] at hX
        by_cases e3 : I (p + 3) s = 4
        · rw [if_pos e3] at hX
          have e := e3
          rw [hX]
          exact ⟨wk (sk_XV_keep hp h num st (by omega)) (by omega) (by omega), sk_ps_u hp (sk_ps_rf p I) 41 _ _ (by omega) (fun z => by omega) (fun z => by omega), by (try simp only [sk_uI_s, sk_uI_o, sk_up_s, sk_up_o, sk_uL_s, sk_uL_o, ne_eq, Nat.reduceEqDiff, Nat.reduceAdd, Int.reduceEq, not_false_eq_true]); omega⟩
        · rw [if_neg e3] at hX
          by_cases e4 : I (p + 3) s = 5
          · rw [if_pos e4] at hX
            have e := e4
            have hn := s45 (Or.inr e)
            rw [← hnum] at hn
            have hsl := h.2.2.2.2.2.1 num hn.1 (by omega)
            by_cases er : I 41 num = -1
            · rw [if_pos er] at hX
              obtain ⟨⟨lv', mc', r1⟩, r2, r3⟩ := sk_XV_fl hp h s (-1)
              rw [hX]
              exact ⟨wk r1 (by omega) (by omega), r2, by omega⟩
            · rw [if_neg er] at hX
              rw [hX]
              exact blk (I 41 num) (by omega) hsl
          · rw [if_neg e4] at hX
            by_cases e5 : I (p + 3) s = 6
            · rw [if_pos e5] at hX
              have e := e5
              have hm := s16 (Or.inr e)
              rw [← hnum] at hm
              obtain ⟨r2, r3⟩ := sk_ps_po (I := I) hp num st
              rw [hX]
              exact ⟨wk (sk_XV_po hp h num st hm (by omega)) (by omega) (by omega), r2, by omega⟩
            · rw [if_neg e5] at hX
              by_cases e6 : I (p + 3) s = 7
              · rw [if_pos e6] at hX
                have e := e6
                obtain ⟨lv', mc', q1, q2, q3⟩ := opn I 1 (I (p + 8) s) h rfl rfl rfl rfl (sk_ps_rf p I) (fun z => by have := b0.mp z; omega) (by omega) (fun z => by omega) n8
                rw [hX]
                exact ⟨wk q1 (by omega) (by omega), q2, q3⟩
              · rw [if_neg e6] at hX
                by_cases e7 : I (p + 3) s = 8
                · rw [if_pos e7] at hX
                  have e := e7
                  have hn := s88 e
                  rw [← hnum] at hn
                  by_cases hc : 0 < num ∧ I (p + 8) s ≠ -1
                  · rw [if_pos hc] at hX
                    obtain ⟨lv', mc', q1, q2, q3⟩ := opn I 2 (I (p + 8) s) h rfl rfl rfl rfl (sk_ps_rf p I) (fun z => by have := b0.mp z; omega) (by omega) (fun _ => hc.2) n8
                    rw [hX]
                    exact ⟨wk (sk_XV_time hp q1 (I 35 5 + 1 - 1) (num - 1) (by omega)) (by omega) (by omega), sk_ps_u hp q2 40 _ _ (by omega) (fun z => by omega) (fun z => by omega), by (try simp only [sk_uI_s, sk_uI_o, sk_up_s, sk_up_o, sk_uL_s, sk_uL_o, ne_eq, Nat.reduceEqDiff, Nat.reduceAdd, Int.reduceEq, not_false_eq_true]); exact q3⟩
                  · rw [if_neg hc] at hX
                    rw [hX]
                    exact ⟨wk h (by omega) (by omega), sk_ps_rf p I, by omega⟩
                · rw [if_neg e7] at hX
                  by_cases e8 : I (p + 3) s = 9
                  · rw [if_pos e8] at hX
                    have e := e8
                    rw [hX]
                    exact ⟨wk (sk_XV_nte hp h num) (by omega) (by omega), sk_ps_nte hp num, by unfold sk_nte; (try simp only [sk_uI_s, sk_uI_o, sk_up_s, sk_up_o, sk_uL_s, sk_uL_o, ne_eq, Nat.reduceEqDiff, Nat.reduceAdd, Int.reduceEq, not_false_eq_true]); omega⟩
                  · rw [if_neg e8] at hX
                    by_cases e9 : I (p + 3) s = 10
                    · rw [if_pos e9] at hX
                      have e := e9
                      have h7 := sk_XV_bmp hp h 7 (by omega)
                      have bo := sk_sv_bmp hp (I := I) 7
                      obtain ⟨lv', mc', q1, q2, q3⟩ := opn (sk_bmp 7 I) 3 (if r = -1 then I (p + 8) s else I (p + 9) s) h7 (by unfold sk_bmp; (try simp only [sk_uI_s, sk_uI_o, sk_up_s, sk_up_o, sk_uL_s, sk_uL_o, ne_eq, Nat.reduceEqDiff, Nat.reduceAdd, Int.reduceEq, not_false_eq_true])) (bo 0 (by omega)) (bo 8 (by omega)) (by unfold sk_bmp; (try simp only [sk_uI_s, sk_uI_o, sk_up_s, sk_up_o, sk_uL_s, sk_uL_o, ne_eq, Nat.reduceEqDiff, Nat.reduceAdd, Int.reduceEq, not_false_eq_true])) (sk_ps_bmp hp 7 (by omega)) (fun z => by have := b0.mp z; omega) (by omega) (fun z => by omega) (by by_cases er : r = -1; rw [if_pos er]; exact n8; rw [if_neg er]; exact n9)
                      rw [hX]
                      exact ⟨wk q1 (by omega) (by omega), q2, q3⟩
                    · rw [if_neg e9] at hX
                      by_cases e10 : I (p + 3) s = 11
                      · rw [if_pos e10] at hX
                        have e := e10
                        have hS : ∀ S, S = (if sk_bit I = -1 then I else sk_bmp 5 I) → sk_XV p D lv mc 1 1 S ∧ S 35 5 = I 35 5 ∧ S p = I p ∧ S (p + 8) = I (p + 8) ∧ S 45 4 = I 45 4 ∧ sk_ps p I S := by
                          intro S hS
                          by_cases hb : sk_bit I = -1
                          · rw [if_pos hb] at hS
                            rw [hS]
                            exact ⟨h, rfl, rfl, rfl, rfl, sk_ps_rf p _⟩
                          · rw [if_neg hb] at hS
                            have hlt : I 44 5 < I 3 1 := by
                              unfold sk_bit at hb
                              apply Classical.byContradiction
                              intro z
                              rw [if_neg (by omega)] at hb
                              exact hb rfl
                            have bo := sk_sv_bmp hp (I := I) 5
                            rw [hS]
                            exact ⟨sk_XV_bit hp h hlt, by unfold sk_bmp; (try simp only [sk_uI_s, sk_uI_o, sk_up_s, sk_up_o, sk_uL_s, sk_uL_o, ne_eq, Nat.reduceEqDiff, Nat.reduceAdd, Int.reduceEq, not_false_eq_true]), bo 0 (by omega), bo 8 (by omega), by unfold sk_bmp; (try simp only [sk_uI_s, sk_uI_o, sk_up_s, sk_up_o, sk_uL_s, sk_uL_o, ne_eq, Nat.reduceEqDiff, Nat.reduceAdd, Int.reduceEq, not_false_eq_true]), sk_ps_bmp hp 5 (by omega)⟩
                        obtain ⟨u1, u2, u3, u4, u5, u6⟩ := hS _ rfl
                        obtain ⟨lv', mc', q1, q2, q3⟩ := opn _ 3 (if sk_bit I = 1 then I (p + 8) s else I (p + 9) s) u1 u2 u3 u4 u5 u6 (fun z => by have := b0.mp z; omega) (by omega) (fun z => by omega) (by by_cases er : sk_bit I = 1; rw [if_pos er]; exact n8; rw [if_neg er]; exact n9)
                        rw [hX]
                        exact ⟨wk q1 (by omega) (by omega), q2, q3⟩
                      · rw [if_neg e10] at hX
                        obtain ⟨q1, q2, q3⟩ := sk_XV_gb hp h hd
                        rw [hX]
                        exact ⟨wk q1 (by omega) (by omega), q2, by omega⟩
end SKI4
