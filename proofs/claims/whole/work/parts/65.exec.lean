/-! ===== a run ends ===== -/
section SKI5
variable {p : Nat} {D lv mc : Int → Int} {I : sk_SI}
theorem sk_TV_45 {a b : Int} (h : sk_XV p D lv mc a b I) : (0 ≤ I 44 0 ∧ I 44 0 ≤ I 34 11) ∧ (0 ≤ I 44 1 ∧ I 44 1 ≤ I 34 10) ∧ (0 ≤ I 34 10 ∧ I 34 10 ≤ 21) ∧ (0 ≤ I 34 11 ∧ I 34 11 ≤ 3000) ∧ (0 ≤ I 45 4 ∧ I 45 4 + a ≤ I 44 0 + I 44 1) ∧ (0 ≤ I 44 4 ∧ I 44 4 ≤ 40) := ⟨h.2.2.2.2.2.2.1, h.2.2.2.2.2.2.2.1, h.2.2.2.2.1.1, h.1.2.2.2.2, h.2.2.2.2.2.2.2.2.2.2.2, h.2.2.2.2.2.2.2.2.1⟩
/-- what a turn begins with -/
theorem sk_XV_pre (hp : sk_pg p) (h : sk_XV p D lv mc 0 0 I) (hd : 0 < I 35 5) (hs : 0 ≤ I 38 (I 35 5 - 1) ∧ I 38 (I 35 5 - 1) < I p 10) (ht : I 44 0 < I 34 11) : D (I 38 (I 35 5 - 1)) = lv (I 35 5 - 1) ∧ sk_XV p D lv mc 1 1 (sk_uI (sk_bmp 0 I) 38 (I 35 5 - 1) (I (p + 7) (I 38 (I 35 5 - 1)))) ∧ sk_sm p I (sk_uI (sk_bmp 0 I) 38 (I 35 5 - 1) (I (p + 7) (I 38 (I 35 5 - 1)))) := by
  obtain ⟨f1, f2, f3, f4, -⟩ := h.2.1.2 (I 35 5 - 1) (by omega) (by omega)
  have hD : D (I 38 (I 35 5 - 1)) = lv (I 35 5 - 1) := by
    rcases f4 with z | z
    · omega
    · exact z.2.2
  obtain ⟨w1, w2, w3, w4, w5, -⟩ := h.1.1.2.2.1 _ hs.1 hs.2
  have h1 := sk_XV_turn hp h ht
  have e35 : sk_bmp 0 I 35 5 = I 35 5 := by unfold sk_bmp; (try simp only [sk_uI_s, sk_uI_o, sk_up_s, sk_up_o, sk_uL_s, sk_uL_o, ne_eq, Nat.reduceEqDiff, Nat.reduceAdd, Int.reduceEq, not_false_eq_true])
  have ep : sk_bmp 0 I p = I p := sk_sv_bmp hp 0 0 (by omega)
  have h2 := sk_XV_goTo hp h1 (I (p + 7) (I 38 (I 35 5 - 1))) (by
    rw [ep, e35]
    rcases w5 with z | z
    · exact Or.inl z
    · exact Or.inr ⟨by omega, z.2.1, by omega⟩)
  rw [e35] at h2
  refine ⟨hD, h2, ?_⟩
  unfold sk_bmp
  exact sk_sm_u hp (sk_sm_u hp (sk_sm_rf p I) 44 0 _ (by omega) (fun z => by omega)) 38 _ _ (by omega) (fun z => by omega)
theorem sk_XE_bt (hp : sk_pg p) (h : sk_XV p D lv mc 0 0 I) (hd : 0 < I 35 5) (hs : 0 ≤ I 38 (I 35 5 - 1) ∧ I 38 (I 35 5 - 1) < I p 10) : sk_XE p D (sk_btI p (I 38 (I 35 5 - 1)) I) ∧ sk_sm p I (sk_btI p (I 38 (I 35 5 - 1)) I) ∧ (sk_btI p (I 38 (I 35 5 - 1)) I 34 13 = -1 → sk_btI p (I 38 (I 35 5 - 1)) I 44 0 = I 44 0 + 1 ∧ sk_btI p (I 38 (I 35 5 - 1)) I 44 1 = I 44 1 ∧ sk_btI p (I 38 (I 35 5 - 1)) I 35 5 ≤ I 35 5 + 1) ∧ (sk_btI p (I 38 (I 35 5 - 1)) I 34 13 = I 34 13 ∨ (0 ≤ sk_btI p (I 38 (I 35 5 - 1)) I 34 13 ∧ sk_btI p (I 38 (I 35 5 - 1)) I 34 13 ≤ 3)) ∧ sk_btI p (I 38 (I 35 5 - 1)) I 44 1 = I 44 1 := by
  unfold sk_btI
  by_cases ht : I 34 11 ≤ I 44 0
  · rw [if_pos ht]
    refine ⟨⟨lv, mc, sk_XV_end hp h 1⟩, sk_sm_u hp (sk_sm_rf p I) 34 13 1 (by omega) (fun z => by omega), fun z => ?_, ?_, by (try simp only [sk_uI_s, sk_uI_o, sk_up_s, sk_up_o, sk_uL_s, sk_uL_o, ne_eq, Nat.reduceEqDiff, Nat.reduceAdd, Int.reduceEq, not_false_eq_true])⟩
    · rw [sk_uI_s, sk_up_s] at z
      omega
    · rw [sk_uI_s, sk_up_s]
      omega
  · rw [if_neg ht]
    obtain ⟨hD, h2, hsm⟩ := sk_XV_pre hp h hd hs (by omega)
    generalize hS : sk_uI (sk_bmp 0 I) 38 (I 35 5 - 1) (I (p + 7) (I 38 (I 35 5 - 1))) = S at *
    have s35 : S 35 5 = I 35 5 := by rw [← hS]; unfold sk_bmp; (try simp only [sk_uI_s, sk_uI_o, sk_up_s, sk_up_o, sk_uL_s, sk_uL_o, ne_eq, Nat.reduceEqDiff, Nat.reduceAdd, Int.reduceEq, not_false_eq_true])
    have s39 : S 39 = I 39 := by rw [← hS]; unfold sk_bmp; (try simp only [sk_uI_s, sk_uI_o, sk_up_s, sk_up_o, sk_uL_s, sk_uL_o, ne_eq, Nat.reduceEqDiff, Nat.reduceAdd, Int.reduceEq, not_false_eq_true])
    have s13 : S 34 13 = I 34 13 := by rw [← hS]; unfold sk_bmp; (try simp only [sk_uI_s, sk_uI_o, sk_up_s, sk_up_o, sk_uL_s, sk_uL_o, ne_eq, Nat.reduceEqDiff, Nat.reduceAdd, Int.reduceEq, not_false_eq_true])
    have s44 : S 44 0 = I 44 0 + 1 ∧ S 44 1 = I 44 1 := by rw [← hS]; unfold sk_bmp; exact ⟨by (try simp only [sk_uI_s, sk_uI_o, sk_up_s, sk_up_o, sk_uL_s, sk_uL_o, ne_eq, Nat.reduceEqDiff, Nat.reduceAdd, Int.reduceEq, not_false_eq_true]), by (try simp only [sk_uI_s, sk_uI_o, sk_up_s, sk_up_o, sk_uL_s, sk_uL_o, ne_eq, Nat.reduceEqDiff, Nat.reduceAdd, Int.reduceEq, not_false_eq_true])⟩
    have sp0 : S p = I p := hsm.1 0 (by omega)
    clear hS
    obtain ⟨q1, q2, q3⟩ := sk_XV_ds hp h2 (by omega) (I 38 (I 35 5 - 1)) (I (p + 5) (I 38 (I 35 5 - 1))) (I 39 (I 35 5 - 1)) (by rw [sp0]; exact hs) (by rw [s35]; exact hD) (by rw [hsm.1 5 (by omega)]) (by rw [s39, s35])
    refine ⟨q1, sk_sm_tr hsm q2.1.1, fun _ => ⟨?_, ?_, by omega⟩, ?_, by rw [q2.2.2]; exact s44.2⟩
    · rw [q2.2.1]; exact s44.1
    · rw [q2.2.2]; exact s44.2
    · have := q2.1.2
      omega
theorem sk_XE_eb (hp : sk_pg p) (h : sk_XV p D lv mc 0 0 I) (hd : 0 < I 35 5) : sk_XE p D (sk_ebI p I) ∧ sk_sm p I (sk_ebI p I) ∧ sk_ebI p I 44 0 = I 44 0 ∧ sk_ebI p I 44 1 = I 44 1 ∧ ((sk_ebI p I 35 5 = I 35 5 ∧ 0 ≤ sk_ebI p I 38 (I 35 5 - 1) ∧ sk_ebI p I 38 (I 35 5 - 1) < I p 10) ∨ sk_ebI p I 35 5 = I 35 5 - 1) ∧ sk_ebI p I 34 13 = I 34 13 := by
  unfold sk_ebI
  by_cases hc : I 36 (I 35 5 - 1) = 2 ∧ 0 < I 40 (I 35 5 - 1)
  · rw [if_pos hc]
    obtain ⟨f1, f2, f3, f4, f5, f6, f7, f8, f9, f10⟩ := h.2.1.2 (I 35 5 - 1) (by omega) (by omega)
    have g9 := f9 (Or.inr hc.1)
    have g10 := f10 hc.1
    obtain ⟨w1, w2, w3, w4, w5, w6, -⟩ := h.1.1.2.2.1 (I 37 (I 35 5 - 1)) g9.1 g9.2.1
    have h1 := sk_XV_time hp h (I 35 5 - 1) (I 40 (I 35 5 - 1) - 1) (by omega)
    have e35 : sk_uI I 40 (I 35 5 - 1) (I 40 (I 35 5 - 1) - 1) 35 = I 35 := by (try simp only [sk_uI_s, sk_uI_o, sk_up_s, sk_up_o, sk_uL_s, sk_uL_o, ne_eq, Nat.reduceEqDiff, Nat.reduceAdd, Int.reduceEq, not_false_eq_true])
    have ep : sk_uI I 40 (I 35 5 - 1) (I 40 (I 35 5 - 1) - 1) p = I p := sk_uI_o (by rcases hp with rfl | rfl <;> omega)
    have h8 : I 37 (I 35 5 - 1) < I (p + 8) (I 37 (I 35 5 - 1)) ∧ I (p + 8) (I 37 (I 35 5 - 1)) < I p 10 ∧ D (I (p + 8) (I 37 (I 35 5 - 1))) = D (I 37 (I 35 5 - 1)) + 1 := by
      rcases w6 with z | z
      · exact absurd z g10.2.2
      · exact z
    have h2 := sk_XV_goTo hp h1 (I (p + 8) (I 37 (I 35 5 - 1))) (by rw [ep, e35]; exact Or.inr ⟨by omega, h8.2.1, by omega⟩)
    rw [e35] at h2
    refine ⟨⟨lv, mc, h2⟩, sk_sm_u hp (sk_sm_u hp (sk_sm_rf p I) 40 _ _ (by omega) (fun z => by omega)) 38 _ _ (by omega) (fun z => by omega), by (try simp only [sk_uI_s, sk_uI_o, sk_up_s, sk_up_o, sk_uL_s, sk_uL_o, ne_eq, Nat.reduceEqDiff, Nat.reduceAdd, Int.reduceEq, not_false_eq_true]), by (try simp only [sk_uI_s, sk_uI_o, sk_up_s, sk_up_o, sk_uL_s, sk_uL_o, ne_eq, Nat.reduceEqDiff, Nat.reduceAdd, Int.reduceEq, not_false_eq_true]), Or.inl ⟨by (try simp only [sk_uI_s, sk_uI_o, sk_up_s, sk_up_o, sk_uL_s, sk_uL_o, ne_eq, Nat.reduceEqDiff, Nat.reduceAdd, Int.reduceEq, not_false_eq_true]), ?_⟩, by (try simp only [sk_uI_s, sk_uI_o, sk_up_s, sk_up_o, sk_uL_s, sk_uL_o, ne_eq, Nat.reduceEqDiff, Nat.reduceAdd, Int.reduceEq, not_false_eq_true])⟩
    rw [sk_uI_s, sk_up_s]
    omega
  · rw [if_neg hc]
    exact ⟨⟨lv, mc, sk_XV_cl hp h hd⟩, sk_sm_cl hp, (sk_ps_cl hp).2.1, (sk_ps_cl hp).2.2, Or.inr (sk_clI_d I), (sk_clI_34 I).1 13 (by decide)⟩
theorem sk_XE_bj (hp : sk_pg p) (h : sk_XV p D lv mc 0 0 I) (hd : I 35 5 = 0) : sk_XE p D (sk_bjI p I) ∧ sk_sm p I (sk_bjI p I) ∧ (sk_bjI p I 34 13 = -1 → sk_bjI p I 44 0 = I 44 0 ∧ sk_bjI p I 44 1 = I 44 1 + 1 ∧ sk_bjI p I 35 5 ≤ 1) ∧ (sk_bjI p I 34 13 = I 34 13 ∨ (0 ≤ sk_bjI p I 34 13 ∧ sk_bjI p I 34 13 ≤ 3)) := by
  unfold sk_bjI
  by_cases ht : I 44 1 < I 34 10
  · rw [if_pos ht]
    have h1 := sk_XV_job hp h ht
    have hsm : sk_sm p I (sk_uI (sk_bmp 1 I) 34 12 0) := by
      unfold sk_bmp
      exact sk_sm_u hp (sk_sm_u hp (sk_sm_rf p I) 44 1 _ (by omega) (fun z => by omega)) 34 12 0 (by omega) (fun z => by omega)
    have hj := h.2.2.2.2.1.2 (I 44 1) h.2.2.2.2.2.2.2.1.1 ht
    have h2 : sk_XV p D lv mc 1 0 (sk_uI (sk_bmp 1 I) 34 12 0) := by
      obtain ⟨x1, x2, x3, x4, x5, x6, x7⟩ := h1
      have hs2 := sk_sm_u hp (sk_sm_rf p (sk_bmp 1 I)) 34 12 0 (by omega) (fun z => by omega)
      refine ⟨sk_XS_cg x1 hs2, sk_FV_cg x2 hs2 (by (try simp only [sk_uI_s, sk_uI_o, sk_up_s, sk_up_o, sk_uL_s, sk_uL_o, ne_eq, Nat.reduceEqDiff, Nat.reduceAdd, Int.reduceEq, not_false_eq_true])) (by (try simp only [sk_uI_s, sk_uI_o, sk_up_s, sk_up_o, sk_uL_s, sk_uL_o, ne_eq, Nat.reduceEqDiff, Nat.reduceAdd, Int.reduceEq, not_false_eq_true])) (by (try simp only [sk_uI_s, sk_uI_o, sk_up_s, sk_up_o, sk_uL_s, sk_uL_o, ne_eq, Nat.reduceEqDiff, Nat.reduceAdd, Int.reduceEq, not_false_eq_true])) (by (try simp only [sk_uI_s, sk_uI_o, sk_up_s, sk_up_o, sk_uL_s, sk_uL_o, ne_eq, Nat.reduceEqDiff, Nat.reduceAdd, Int.reduceEq, not_false_eq_true])) (by (try simp only [sk_uI_s, sk_uI_o, sk_up_s, sk_up_o, sk_uL_s, sk_uL_o, ne_eq, Nat.reduceEqDiff, Nat.reduceAdd, Int.reduceEq, not_false_eq_true])) (by (try simp only [sk_uI_s, sk_uI_o, sk_up_s, sk_up_o, sk_uL_s, sk_uL_o, ne_eq, Nat.reduceEqDiff, Nat.reduceAdd, Int.reduceEq, not_false_eq_true])) (by (try simp only [sk_uI_s, sk_uI_o, sk_up_s, sk_up_o, sk_uL_s, sk_uL_o, ne_eq, Nat.reduceEqDiff, Nat.reduceAdd, Int.reduceEq, not_false_eq_true]); omega), ?_, sk_ev_cg x4 hs2.1 (by (try simp only [sk_uI_s, sk_uI_o, sk_up_s, sk_up_o, sk_uL_s, sk_uL_o, ne_eq, Nat.reduceEqDiff, Nat.reduceAdd, Int.reduceEq, not_false_eq_true])) (by (try simp only [sk_uI_s, sk_uI_o, sk_up_s, sk_up_o, sk_uL_s, sk_uL_o, ne_eq, Nat.reduceEqDiff, Nat.reduceAdd, Int.reduceEq, not_false_eq_true])) (by (try simp only [sk_uI_s, sk_uI_o, sk_up_s, sk_up_o, sk_uL_s, sk_uL_o, ne_eq, Nat.reduceEqDiff, Nat.reduceAdd, Int.reduceEq, not_false_eq_true])), sk_JV_cg x5 hs2 (by (try simp only [sk_uI_s, sk_uI_o, sk_up_s, sk_up_o, sk_uL_s, sk_uL_o, ne_eq, Nat.reduceEqDiff, Nat.reduceAdd, Int.reduceEq, not_false_eq_true])) (by (try simp only [sk_uI_s, sk_uI_o, sk_up_s, sk_up_o, sk_uL_s, sk_uL_o, ne_eq, Nat.reduceEqDiff, Nat.reduceAdd, Int.reduceEq, not_false_eq_true])) (by (try simp only [sk_uI_s, sk_uI_o, sk_up_s, sk_up_o, sk_uL_s, sk_uL_o, ne_eq, Nat.reduceEqDiff, Nat.reduceAdd, Int.reduceEq, not_false_eq_true])) (by (try simp only [sk_uI_s, sk_uI_o, sk_up_s, sk_up_o, sk_uL_s, sk_uL_o, ne_eq, Nat.reduceEqDiff, Nat.reduceAdd, Int.reduceEq, not_false_eq_true]); omega), sk_SV_cg x6 (by (try simp only [sk_uI_s, sk_uI_o, sk_up_s, sk_up_o, sk_uL_s, sk_uL_o, ne_eq, Nat.reduceEqDiff, Nat.reduceAdd, Int.reduceEq, not_false_eq_true])) (by (try simp only [sk_uI_s, sk_uI_o, sk_up_s, sk_up_o, sk_uL_s, sk_uL_o, ne_eq, Nat.reduceEqDiff, Nat.reduceAdd, Int.reduceEq, not_false_eq_true]); omega), ?_⟩
      · intro z
        unfold sk_bmp at z
        simp only [sk_uI_s, sk_uI_o, ne_eq, Nat.reduceEqDiff, not_false_eq_true] at z
        omega
      · unfold sk_TV
        (try simp only [sk_uI_s, sk_uI_o, sk_up_s, sk_up_o, sk_uL_s, sk_uL_o, ne_eq, Nat.reduceEqDiff, Nat.reduceAdd, Int.reduceEq, not_false_eq_true])
        exact x7
    have e44 : sk_uI (sk_bmp 1 I) 34 12 0 44 0 = I 44 0 ∧ sk_uI (sk_bmp 1 I) 34 12 0 44 1 = I 44 1 + 1 := by unfold sk_bmp; exact ⟨by (try simp only [sk_uI_s, sk_uI_o, sk_up_s, sk_up_o, sk_uL_s, sk_uL_o, ne_eq, Nat.reduceEqDiff, Nat.reduceAdd, Int.reduceEq, not_false_eq_true]), by (try simp only [sk_uI_s, sk_uI_o, sk_up_s, sk_up_o, sk_uL_s, sk_uL_o, ne_eq, Nat.reduceEqDiff, Nat.reduceAdd, Int.reduceEq, not_false_eq_true])⟩
    have e35 : sk_uI (sk_bmp 1 I) 34 12 0 35 5 = 0 := by unfold sk_bmp; (try simp only [sk_uI_s, sk_uI_o, sk_up_s, sk_up_o, sk_uL_s, sk_uL_o, ne_eq, Nat.reduceEqDiff, Nat.reduceAdd, Int.reduceEq, not_false_eq_true]); exact hd
    have e12 : sk_uI (sk_bmp 1 I) 34 12 0 34 12 = 0 := by (try simp only [sk_uI_s, sk_uI_o, sk_up_s, sk_up_o, sk_uL_s, sk_uL_o, ne_eq, Nat.reduceEqDiff, Nat.reduceAdd, Int.reduceEq, not_false_eq_true])
    have e13 : sk_uI (sk_bmp 1 I) 34 12 0 34 13 = I 34 13 := by unfold sk_bmp; (try simp only [sk_uI_s, sk_uI_o, sk_up_s, sk_up_o, sk_uL_s, sk_uL_o, ne_eq, Nat.reduceEqDiff, Nat.reduceAdd, Int.reduceEq, not_false_eq_true])
    have e45 : sk_uI (sk_bmp 1 I) 34 12 0 45 4 = I 45 4 := by unfold sk_bmp; (try simp only [sk_uI_s, sk_uI_o, sk_up_s, sk_up_o, sk_uL_s, sk_uL_o, ne_eq, Nat.reduceEqDiff, Nat.reduceAdd, Int.reduceEq, not_false_eq_true])
    generalize sk_uI (sk_bmp 1 I) 34 12 0 = S at *
    have sp0 : S p = I p := hsm.1 0 (by omega)
    obtain ⟨lv', mc', q1⟩ := sk_XV_om hp h2 (Or.inr e12) (by omega) (I 42 (I 44 1)) (I 43 (I 44 1)) (by rw [sp0]; exact hj.1) (by rw [e45]; exact hj.2)
    obtain ⟨q2, q3⟩ := sk_ps_om (I := S) hp (I 42 (I 44 1)) (I 43 (I 44 1))
    refine ⟨⟨lv', mc', q1⟩, sk_sm_tr hsm q2.1.1, fun _ => ⟨?_, ?_, by omega⟩, ?_⟩
    · rw [q2.2.1]; exact e44.1
    · rw [q2.2.2]; exact e44.2
    · have := q2.1.2
      omega
  · rw [if_neg ht]
    refine ⟨⟨lv, mc, sk_XV_end hp h 0⟩, sk_sm_u hp (sk_sm_rf p I) 34 13 0 (by omega) (fun z => by omega), fun z => ?_, ?_⟩
    · rw [sk_uI_s, sk_up_s] at z
      omega
    · rw [sk_uI_s, sk_up_s]
      omega
theorem sk_ph_0 (h : sk_XE p D I) : 0 ≤ sk_ph p I ∧ sk_ph p I ≤ 13050 := by
  obtain ⟨lv, mc, h⟩ := h
  obtain ⟨t0, t1, t2, t3, t4, t5⟩ := sk_TV_45 h
  have hd := sk_FV_d h.2.1
  unfold sk_ph
  by_cases hc : 0 < I 35 5 ∧ ¬ (0 ≤ I 38 (I 35 5 - 1) ∧ I 38 (I 35 5 - 1) < I p 10)
  · rw [if_pos hc]; omega
  · rw [if_neg hc]; omega
/-- each step but the last takes something -/
theorem sk_XE_xs (hp : sk_pg p) (hX : sk_XE p D I) : sk_XE p D (sk_xsI p I) ∧ sk_sm p I (sk_xsI p I) ∧ (sk_xsI p I 34 13 = -1 → sk_ph p (sk_xsI p I) < sk_ph p I) ∧ (sk_xsI p I 34 13 = I 34 13 ∨ (0 ≤ sk_xsI p I 34 13 ∧ sk_xsI p I 34 13 ≤ 3)) := by
  obtain ⟨lv, mc, h⟩ := hX
  have fl : ∀ S : sk_SI, (0 : Int) ≤ (if 0 < S 35 5 ∧ ¬ (0 ≤ S 38 (S 35 5 - 1) ∧ S 38 (S 35 5 - 1) < S p 10) then 1 else 0) ∧ (if 0 < S 35 5 ∧ ¬ (0 ≤ S 38 (S 35 5 - 1) ∧ S 38 (S 35 5 - 1) < S p 10) then (1 : Int) else 0) ≤ 1 := by
    intro S
    by_cases hc : 0 < S 35 5 ∧ ¬ (0 ≤ S 38 (S 35 5 - 1) ∧ S 38 (S 35 5 - 1) < S p 10)
    · rw [if_pos hc]; omega
    · rw [if_neg hc]; omega
  have hd := sk_FV_d h.2.1
  unfold sk_xsI
  by_cases h0 : I 35 5 = 0
  · rw [if_pos h0]
    obtain ⟨q1, q2, q3, q13⟩ := sk_XE_bj hp h h0
    refine ⟨q1, q2, fun z => ?_, q13⟩
    obtain ⟨r1, r2, r3⟩ := q3 z
    have f1 := fl (sk_bjI p I)
    have f2 := fl I
    unfold sk_ph
    rw [q2.2.2.2.2, r1, r2]
    omega
  · rw [if_neg h0]
    by_cases hs : 0 ≤ I 38 (I 35 5 - 1) ∧ I 38 (I 35 5 - 1) < I p 10
    · rw [if_pos hs]
      obtain ⟨q1, q2, q3, q13, -⟩ := sk_XE_bt hp h (by omega) hs
      refine ⟨q1, q2, fun z => ?_, q13⟩
      obtain ⟨r1, r2, r3⟩ := q3 z
      have f1 := fl (sk_btI p (I 38 (I 35 5 - 1)) I)
      have f2 := fl I
      unfold sk_ph
      rw [q2.2.2.2.2, r1, r2]
      omega
    · rw [if_neg hs]
      obtain ⟨q1, q2, q3, q4, q5, q13⟩ := sk_XE_eb hp h (by omega)
      refine ⟨q1, q2, fun z => ?_, Or.inl q13⟩
      have f1 := fl (sk_ebI p I)
      have sp0 := q2.1 0 (by omega)
      rw [Nat.add_zero] at sp0
      unfold sk_ph
      rw [q2.2.2.2.2, q3, q4, if_pos (show 0 < I 35 5 ∧ ¬ (0 ≤ I 38 (I 35 5 - 1) ∧ I 38 (I 35 5 - 1) < I p 10) from ⟨by omega, hs⟩)]
      rcases q5 with q5 | q5
      · rw [if_neg (by rw [q5.1, sp0]; intro z; exact z.2 ⟨q5.2.1, q5.2.2⟩)]
        omega
      · omega
theorem sk_xs_1 (hp : sk_pg p) (hX : sk_XE p D I) (hd : I 35 5 ≠ 0) : sk_xsI p I 44 1 = I 44 1 := by
  obtain ⟨lv, mc, h⟩ := hX
  have hdd := sk_FV_d h.2.1
  unfold sk_xsI
  rw [if_neg hd]
  by_cases hs : 0 ≤ I 38 (I 35 5 - 1) ∧ I 38 (I 35 5 - 1) < I p 10
  · rw [if_pos hs]
    exact (sk_XE_bt hp h (by omega) hs).2.2.2.2
  · rw [if_neg hs]
    exact (sk_XE_eb hp h (by omega)).2.2.2.1
theorem sk_it_end (hp : sk_pg p) : ∀ (n : Nat) (I : sk_SI), sk_XE p D I → sk_ph p I ≤ n → sk_it p (n + 1) I 34 13 ≠ -1 ∧ sk_XE p D (sk_it p (n + 1) I) ∧ sk_sm p I (sk_it p (n + 1) I)
  | 0, I, h, hn => by
    unfold sk_it
    by_cases he : I 34 13 = -1
    · rw [if_pos he]
      obtain ⟨q1, q2, q3, q13⟩ := sk_XE_xs hp h
      refine ⟨fun z => ?_, q1, q2⟩
      have := q3 z
      have := (sk_ph_0 q1).1
      omega
    · rw [if_neg he]
      exact ⟨he, h, sk_sm_rf p I⟩
  | n + 1, I, h, hn => by
    unfold sk_it
    by_cases he : I 34 13 = -1
    · rw [if_pos he]
      obtain ⟨q1, q2, q3, q13⟩ := sk_XE_xs hp h
      by_cases he2 : sk_xsI p I 34 13 = -1
      · obtain ⟨r1, r2, r3⟩ := sk_it_end hp n (sk_xsI p I) q1 (by have := q3 he2; omega)
        exact ⟨r1, r2, sk_sm_tr q2 r3⟩
      · have : sk_it p (n + 1) (sk_xsI p I) = sk_xsI p I := by unfold sk_it; rw [if_neg he2]
        rw [this]
        exact ⟨he2, q1, q2⟩
    · rw [if_neg he]
      exact ⟨he, h, sk_sm_rf p I⟩
theorem sk_it_st : ∀ (n m : Nat) (I : sk_SI), sk_it p n I 34 13 ≠ -1 → n ≤ m → sk_it p m I = sk_it p n I
  | 0, 0, I, h, hm => rfl
  | 0, m + 1, I, h, hm => by
    have h : I 34 13 ≠ -1 := h
    show (if I 34 13 = -1 then sk_it p m (sk_xsI p I) else I) = I
    rw [if_neg h]
  | n + 1, 0, I, h, hm => by omega
  | n + 1, m + 1, I, h, hm => by
    unfold sk_it at h ⊢
    by_cases he : I 34 13 = -1
    · rw [if_pos he] at h
      rw [if_pos he, if_pos he]
      exact sk_it_st n m (sk_xsI p I) h (by omega)
    · rw [if_neg he, if_neg he]
end SKI5
