/-! ===== a run's relation is kept: counts, notes, slots, jobs, turns ===== -/
section SKY4
variable {p : Nat} {C C' I I' : sk_SI}
theorem sk_RR_cg7 (h : sk_RR p C I) (hs : sk_sm p C C') (c1 : ∀ c, (35 ≤ c ∧ c ≤ 43) ∨ (45 ≤ c ∧ c ≤ 47) → C' c = C c) (c34 : ∀ j, j ≠ 13 → C' 34 j = C 34 j) (c44 : C' 44 4 = C 44 4) (i1 : ∀ c, c ≠ 59 → c ≠ 90 → I' c = I c) (i59 : ∀ j, ¬ (48 ≤ j ∧ j ≤ 58 ∧ j ≠ 54 ∧ j ≠ 50) → I' 59 j = I 59 j) (h7 : sk_q7 C' I') : sk_RR p C' I' := by
  obtain ⟨⟨a1, a2, a3, a4, a5, a6, a7⟩, b1, b2⟩ := h
  have e35 : C' 35 = C 35 := c1 35 (by omega)
  refine ⟨⟨sk_q1_cg a1 hs ⟨fun c h1 h2 => i1 c h1 (by omega), fun j hj => i59 j (by omega)⟩, sk_q2_cg a2 hs (by rw [e35]) (fun c hc => c1 c (by omega)) (i59 37 (by omega)) (fun c hc => i1 c (by omega) (by omega)), ?_, sk_q4_cg a4 hs (by rw [c1 45 (by omega)]) (c1 46 (by omega)) (c1 47 (by omega)) (i59 29 (by omega)) (fun c hc => i1 c (by omega) (by omega)), sk_q5_cg a5 (c1 41 (by omega)) (i1 82 (by decide) (by decide)), sk_q6_cg a6 (c34 10 (by decide)) (c1 42 (by omega)) (c1 43 (by omega)) (i59 47 (by omega)) (i1 88 (by decide) (by decide)) (i1 89 (by decide) (by decide)), h7⟩, ?_, ?_⟩
  · unfold sk_q3
    rw [e35, c1 39 (by omega), c1 38 (by omega), i59 35 (by omega), i59 43 (by omega)]
    exact a3
  · rw [e35, c34 12 (by decide), i59 44 (by omega)]
    exact b1
  · rw [c44, i59 54 (by omega)]
    exact b2
theorem sk_RR_bmp (hp : sk_pg p) (h : sk_RR p C I) (k j : Int) (hk : (k = 7 ∧ j = 56) ∨ (k = 5 ∧ j = 55) ∨ (k = 2 ∧ j = 52) ∨ (k = 3 ∧ j = 53)) : sk_RR p (sk_bmp k C) (sk_uI I 59 j (I 59 j + 1)) := by
  obtain ⟨⟨q1, q2, q3, q4, q5, q6, q7⟩, q8, q9⟩ := h.1.2.2.2.2.2.2
  unfold sk_bmp
  refine sk_RR_cg7 h (sk_sm_u hp (sk_sm_rf p C) 44 k _ (by omega) (fun z => by omega)) (fun c hc => sk_uI_o (by omega)) (fun i _ => by rw [sk_uI_o (by decide)]) (by rw [sk_uI_s, sk_up_o (by omega)]) (fun c h1 h2 => sk_uI_o h1) (fun i hi => by rw [sk_uI_s, sk_up_o (by omega)]) ?_
  unfold sk_q7
  rcases hk with ⟨rfl, rfl⟩ | ⟨rfl, rfl⟩ | ⟨rfl, rfl⟩ | ⟨rfl, rfl⟩
  · (try simp only [sk_uI_s, sk_uI_o, sk_up_s, sk_up_o, sk_uL_s, sk_uL_o, ne_eq, Nat.reduceEqDiff, Nat.reduceAdd, Int.reduceEq, not_false_eq_true])
    exact ⟨⟨q1, q2, q3, q4, q5, q6, by rw [q7]⟩, q8, q9⟩
  · (try simp only [sk_uI_s, sk_uI_o, sk_up_s, sk_up_o, sk_uL_s, sk_uL_o, ne_eq, Nat.reduceEqDiff, Nat.reduceAdd, Int.reduceEq, not_false_eq_true])
    exact ⟨⟨q1, q2, q3, q4, q5, by rw [q6], q7⟩, q8, q9⟩
  · (try simp only [sk_uI_s, sk_uI_o, sk_up_s, sk_up_o, sk_uL_s, sk_uL_o, ne_eq, Nat.reduceEqDiff, Nat.reduceAdd, Int.reduceEq, not_false_eq_true])
    exact ⟨⟨q1, q2, q3, by rw [q4], q5, q6, q7⟩, q8, q9⟩
  · (try simp only [sk_uI_s, sk_uI_o, sk_up_s, sk_up_o, sk_uL_s, sk_uL_o, ne_eq, Nat.reduceEqDiff, Nat.reduceAdd, Int.reduceEq, not_false_eq_true])
    exact ⟨⟨q1, q2, q3, q4, by rw [q5], q6, q7⟩, q8, q9⟩
theorem sk_RR_end (hp : sk_pg p) (h : sk_RR p C I) (v : Int) : sk_RR p (sk_uI C 34 13 v) (sk_uI I 59 49 v) := by
  obtain ⟨⟨q1, q2, q3, q4, q5, q6, q7⟩, q8, q9⟩ := h.1.2.2.2.2.2.2
  refine sk_RR_cg7 h (sk_sm_u hp (sk_sm_rf p C) 34 13 _ (by omega) (fun z => by omega)) (fun c hc => sk_uI_o (by omega)) (fun i hi => by rw [sk_uI_s, sk_up_o hi]) (by (try simp only [sk_uI_s, sk_uI_o, sk_up_s, sk_up_o, sk_uL_s, sk_uL_o, ne_eq, Nat.reduceEqDiff, Nat.reduceAdd, Int.reduceEq, not_false_eq_true])) (fun c h1 h2 => sk_uI_o h1) (fun i hi => by rw [sk_uI_s, sk_up_o (by omega)]) ?_
  unfold sk_q7
  (try simp only [sk_uI_s, sk_uI_o, sk_up_s, sk_up_o, sk_uL_s, sk_uL_o, ne_eq, Nat.reduceEqDiff, Nat.reduceAdd, Int.reduceEq, not_false_eq_true])
  exact ⟨⟨q1, trivial, q3, q4, q5, q6, q7⟩, q8, q9⟩
theorem sk_RR_nte (hp : sk_pg p) (h : sk_RR p C I) (v : Int) : sk_RR p (sk_nte v C) (sk_msy v I) := by
  obtain ⟨⟨q1, q2, q3, q4, q5, q6, q7⟩, q8, q9⟩ := h.1.2.2.2.2.2.2
  unfold sk_nte sk_msy
  refine sk_RR_cg7 h (sk_sm_u hp (sk_sm_u hp (sk_sm_rf p C) 6 _ _ (by omega) (fun z => by omega)) 5 _ _ (by omega) (fun z => by omega)) (fun c hc => by rw [sk_uI_o (by omega), sk_uI_o (by omega)]) (fun i _ => by (try simp only [sk_uI_s, sk_uI_o, sk_up_s, sk_up_o, sk_uL_s, sk_uL_o, ne_eq, Nat.reduceEqDiff, Nat.reduceAdd, Int.reduceEq, not_false_eq_true])) (by (try simp only [sk_uI_s, sk_uI_o, sk_up_s, sk_up_o, sk_uL_s, sk_uL_o, ne_eq, Nat.reduceEqDiff, Nat.reduceAdd, Int.reduceEq, not_false_eq_true])) (fun c h1 h2 => by rw [sk_uI_o h1, sk_uI_o h2]) (fun i hi => by rw [sk_uI_s, sk_up_o (by omega), sk_uI_o (by decide)]) ?_
  unfold sk_q7
  (try simp only [sk_uI_s, sk_uI_o, sk_up_s, sk_up_o, sk_uL_s, sk_uL_o, ne_eq, Nat.reduceEqDiff, Nat.reduceAdd, Int.reduceEq, not_false_eq_true])
  refine ⟨⟨q1, q2, q3, q4, q5, q6, q7⟩, by rw [q8], fun i i0 i1 => ?_⟩
  rw [q8]
  by_cases e : i = C 5 1
  · subst e; rw [sk_up_s, sk_up_s]
  · rw [sk_up_o e, sk_up_o e]; exact q9 i i0 (by omega)
theorem sk_RR_keep (hp : sk_pg p) (h : sk_RR p C I) (k v : Int) : sk_RR p (sk_uI C 41 k v) (sk_uI I 82 k v) := by
  obtain ⟨⟨a1, a2, a3, a4, a5, a6, a7⟩, b1, b2⟩ := h
  have hs := sk_sm_u hp (sk_sm_rf p C) 41 k v (by omega) (fun z => by omega)
  refine ⟨⟨sk_q1_cg a1 hs (sk_rfr_u (sk_rfr_rf I) 82 k v (by omega)), sk_q2_cg a2 hs (by (try simp only [sk_uI_s, sk_uI_o, sk_up_s, sk_up_o, sk_uL_s, sk_uL_o, ne_eq, Nat.reduceEqDiff, Nat.reduceAdd, Int.reduceEq, not_false_eq_true])) (fun c hc => sk_uI_o (by omega)) (by (try simp only [sk_uI_s, sk_uI_o, sk_up_s, sk_up_o, sk_uL_s, sk_uL_o, ne_eq, Nat.reduceEqDiff, Nat.reduceAdd, Int.reduceEq, not_false_eq_true])) (fun c hc => sk_uI_o (by omega)), ?_, sk_q4_cg a4 hs (by (try simp only [sk_uI_s, sk_uI_o, sk_up_s, sk_up_o, sk_uL_s, sk_uL_o, ne_eq, Nat.reduceEqDiff, Nat.reduceAdd, Int.reduceEq, not_false_eq_true])) (by (try simp only [sk_uI_s, sk_uI_o, sk_up_s, sk_up_o, sk_uL_s, sk_uL_o, ne_eq, Nat.reduceEqDiff, Nat.reduceAdd, Int.reduceEq, not_false_eq_true])) (by (try simp only [sk_uI_s, sk_uI_o, sk_up_s, sk_up_o, sk_uL_s, sk_uL_o, ne_eq, Nat.reduceEqDiff, Nat.reduceAdd, Int.reduceEq, not_false_eq_true])) (by (try simp only [sk_uI_s, sk_uI_o, sk_up_s, sk_up_o, sk_uL_s, sk_uL_o, ne_eq, Nat.reduceEqDiff, Nat.reduceAdd, Int.reduceEq, not_false_eq_true])) (fun c hc => sk_uI_o (by omega)), fun i i0 i1 => ?_, sk_q6_cg a6 (by (try simp only [sk_uI_s, sk_uI_o, sk_up_s, sk_up_o, sk_uL_s, sk_uL_o, ne_eq, Nat.reduceEqDiff, Nat.reduceAdd, Int.reduceEq, not_false_eq_true])) (by (try simp only [sk_uI_s, sk_uI_o, sk_up_s, sk_up_o, sk_uL_s, sk_uL_o, ne_eq, Nat.reduceEqDiff, Nat.reduceAdd, Int.reduceEq, not_false_eq_true])) (by (try simp only [sk_uI_s, sk_uI_o, sk_up_s, sk_up_o, sk_uL_s, sk_uL_o, ne_eq, Nat.reduceEqDiff, Nat.reduceAdd, Int.reduceEq, not_false_eq_true])) (by (try simp only [sk_uI_s, sk_uI_o, sk_up_s, sk_up_o, sk_uL_s, sk_uL_o, ne_eq, Nat.reduceEqDiff, Nat.reduceAdd, Int.reduceEq, not_false_eq_true])) (by (try simp only [sk_uI_s, sk_uI_o, sk_up_s, sk_up_o, sk_uL_s, sk_uL_o, ne_eq, Nat.reduceEqDiff, Nat.reduceAdd, Int.reduceEq, not_false_eq_true])) (by (try simp only [sk_uI_s, sk_uI_o, sk_up_s, sk_up_o, sk_uL_s, sk_uL_o, ne_eq, Nat.reduceEqDiff, Nat.reduceAdd, Int.reduceEq, not_false_eq_true])), sk_q7_cg a7 (fun j _ => by (try simp only [sk_uI_s, sk_uI_o, sk_up_s, sk_up_o, sk_uL_s, sk_uL_o, ne_eq, Nat.reduceEqDiff, Nat.reduceAdd, Int.reduceEq, not_false_eq_true])) (by (try simp only [sk_uI_s, sk_uI_o, sk_up_s, sk_up_o, sk_uL_s, sk_uL_o, ne_eq, Nat.reduceEqDiff, Nat.reduceAdd, Int.reduceEq, not_false_eq_true])) (by (try simp only [sk_uI_s, sk_uI_o, sk_up_s, sk_up_o, sk_uL_s, sk_uL_o, ne_eq, Nat.reduceEqDiff, Nat.reduceAdd, Int.reduceEq, not_false_eq_true])) (by (try simp only [sk_uI_s, sk_uI_o, sk_up_s, sk_up_o, sk_uL_s, sk_uL_o, ne_eq, Nat.reduceEqDiff, Nat.reduceAdd, Int.reduceEq, not_false_eq_true])) (fun j _ _ => by (try simp only [sk_uI_s, sk_uI_o, sk_up_s, sk_up_o, sk_uL_s, sk_uL_o, ne_eq, Nat.reduceEqDiff, Nat.reduceAdd, Int.reduceEq, not_false_eq_true])) (by (try simp only [sk_uI_s, sk_uI_o, sk_up_s, sk_up_o, sk_uL_s, sk_uL_o, ne_eq, Nat.reduceEqDiff, Nat.reduceAdd, Int.reduceEq, not_false_eq_true]))⟩, ?_, ?_⟩
  · unfold sk_q3; (try simp only [sk_uI_s, sk_uI_o, sk_up_s, sk_up_o, sk_uL_s, sk_uL_o, ne_eq, Nat.reduceEqDiff, Nat.reduceAdd, Int.reduceEq, not_false_eq_true]); exact a3
  · rw [sk_uI_s, sk_uI_s]
    by_cases e : i = k
    · subst e; rw [sk_up_s, sk_up_s]
    · rw [sk_up_o e, sk_up_o e]; exact a5 i i0 i1
  · (try simp only [sk_uI_s, sk_uI_o, sk_up_s, sk_up_o, sk_uL_s, sk_uL_o, ne_eq, Nat.reduceEqDiff, Nat.reduceAdd, Int.reduceEq, not_false_eq_true]); exact b1
  · (try simp only [sk_uI_s, sk_uI_o, sk_up_s, sk_up_o, sk_uL_s, sk_uL_o, ne_eq, Nat.reduceEqDiff, Nat.reduceAdd, Int.reduceEq, not_false_eq_true]); exact b2
theorem sk_RR_po (hp : sk_pg p) (h : sk_RR p C I) (h0 : 1 ≤ C 34 10) (m v : Int) : sk_RR p (sk_uI (sk_uI (sk_uI C 42 (C 34 10) m) 43 (C 34 10) v) 34 10 (C 34 10 + 1)) (sk_uI (sk_uI (sk_uI I 88 (I 59 47) m) 89 (I 59 47) v) 59 47 (I 59 47 + 1)) := by
  obtain ⟨⟨a1, a2, a3, a4, a5, a6, a7⟩, b1, b2⟩ := h
  have hs := sk_sm_u hp (sk_sm_u hp (sk_sm_u hp (sk_sm_rf p C) 42 (C 34 10) m (by omega) (fun z => by omega)) 43 (C 34 10) v (by omega) (fun z => by omega)) 34 10 (C 34 10 + 1) (by omega) (fun z => by omega)
  have hf := sk_rfr_u (sk_rfr_u (sk_rfr_u (sk_rfr_rf I) 88 (I 59 47) m (by omega)) 89 (I 59 47) v (by omega)) 59 47 (I 59 47 + 1) (by omega)
  refine ⟨⟨sk_q1_cg a1 hs hf, sk_q2_cg a2 hs (by (try simp only [sk_uI_s, sk_uI_o, sk_up_s, sk_up_o, sk_uL_s, sk_uL_o, ne_eq, Nat.reduceEqDiff, Nat.reduceAdd, Int.reduceEq, not_false_eq_true])) (fun c hc => by rw [sk_uI_o (by omega), sk_uI_o (by omega), sk_uI_o (by omega)]) (by (try simp only [sk_uI_s, sk_uI_o, sk_up_s, sk_up_o, sk_uL_s, sk_uL_o, ne_eq, Nat.reduceEqDiff, Nat.reduceAdd, Int.reduceEq, not_false_eq_true])) (fun c hc => by rw [sk_uI_o (by omega), sk_uI_o (by omega), sk_uI_o (by omega)]), ?_, sk_q4_cg a4 hs (by (try simp only [sk_uI_s, sk_uI_o, sk_up_s, sk_up_o, sk_uL_s, sk_uL_o, ne_eq, Nat.reduceEqDiff, Nat.reduceAdd, Int.reduceEq, not_false_eq_true])) (by (try simp only [sk_uI_s, sk_uI_o, sk_up_s, sk_up_o, sk_uL_s, sk_uL_o, ne_eq, Nat.reduceEqDiff, Nat.reduceAdd, Int.reduceEq, not_false_eq_true])) (by (try simp only [sk_uI_s, sk_uI_o, sk_up_s, sk_up_o, sk_uL_s, sk_uL_o, ne_eq, Nat.reduceEqDiff, Nat.reduceAdd, Int.reduceEq, not_false_eq_true])) (by (try simp only [sk_uI_s, sk_uI_o, sk_up_s, sk_up_o, sk_uL_s, sk_uL_o, ne_eq, Nat.reduceEqDiff, Nat.reduceAdd, Int.reduceEq, not_false_eq_true])) (fun c hc => by rw [sk_uI_o (by omega), sk_uI_o (by omega), sk_uI_o (by omega)]), sk_q5_cg a5 (by (try simp only [sk_uI_s, sk_uI_o, sk_up_s, sk_up_o, sk_uL_s, sk_uL_o, ne_eq, Nat.reduceEqDiff, Nat.reduceAdd, Int.reduceEq, not_false_eq_true])) (by (try simp only [sk_uI_s, sk_uI_o, sk_up_s, sk_up_o, sk_uL_s, sk_uL_o, ne_eq, Nat.reduceEqDiff, Nat.reduceAdd, Int.reduceEq, not_false_eq_true])), ⟨?_, fun j j0 j1 => ?_, by (try simp only [sk_uI_s, sk_uI_o, sk_up_s, sk_up_o, sk_uL_s, sk_uL_o, ne_eq, Nat.reduceEqDiff, Nat.reduceAdd, Int.reduceEq, not_false_eq_true]); omega⟩, sk_q7_cg a7 (fun j _ => by (try simp only [sk_uI_s, sk_uI_o, sk_up_s, sk_up_o, sk_uL_s, sk_uL_o, ne_eq, Nat.reduceEqDiff, Nat.reduceAdd, Int.reduceEq, not_false_eq_true])) (by (try simp only [sk_uI_s, sk_uI_o, sk_up_s, sk_up_o, sk_uL_s, sk_uL_o, ne_eq, Nat.reduceEqDiff, Nat.reduceAdd, Int.reduceEq, not_false_eq_true])) (by (try simp only [sk_uI_s, sk_uI_o, sk_up_s, sk_up_o, sk_uL_s, sk_uL_o, ne_eq, Nat.reduceEqDiff, Nat.reduceAdd, Int.reduceEq, not_false_eq_true])) (by (try simp only [sk_uI_s, sk_uI_o, sk_up_s, sk_up_o, sk_uL_s, sk_uL_o, ne_eq, Nat.reduceEqDiff, Nat.reduceAdd, Int.reduceEq, not_false_eq_true])) (fun j h1 h2 => by rw [sk_uI_s, sk_up_o (by omega), sk_uI_o (by decide), sk_uI_o (by decide)]) (by (try simp only [sk_uI_s, sk_uI_o, sk_up_s, sk_up_o, sk_uL_s, sk_uL_o, ne_eq, Nat.reduceEqDiff, Nat.reduceAdd, Int.reduceEq, not_false_eq_true]))⟩, ?_, ?_⟩
  · unfold sk_q3; (try simp only [sk_uI_s, sk_uI_o, sk_up_s, sk_up_o, sk_uL_s, sk_uL_o, ne_eq, Nat.reduceEqDiff, Nat.reduceAdd, Int.reduceEq, not_false_eq_true]); exact a3
  · (try simp only [sk_uI_s, sk_uI_o, sk_up_s, sk_up_o, sk_uL_s, sk_uL_o, ne_eq, Nat.reduceEqDiff, Nat.reduceAdd, Int.reduceEq, not_false_eq_true]); have := a6.1; omega
  · have e47 := a6.1
    simp only [sk_uI_s, sk_uI_o, sk_up_s, ne_eq, Nat.reduceEqDiff, not_false_eq_true] at j1 ⊢
    rw [e47]
    by_cases e : j = C 34 10 - 1
    · subst e
      rw [sk_up_s, sk_up_s, show C 34 10 - 1 + 1 = C 34 10 by omega, sk_up_s, sk_up_s]
      exact ⟨rfl, rfl⟩
    · rw [sk_up_o e, sk_up_o e, sk_up_o (show j + 1 ≠ C 34 10 by omega), sk_up_o (show j + 1 ≠ C 34 10 by omega)]
      exact a6.2.1 j j0 (by omega)
  · (try simp only [sk_uI_s, sk_uI_o, sk_up_s, sk_up_o, sk_uL_s, sk_uL_o, ne_eq, Nat.reduceEqDiff, Nat.reduceAdd, Int.reduceEq, not_false_eq_true]); exact b1
  · (try simp only [sk_uI_s, sk_uI_o, sk_up_s, sk_up_o, sk_uL_s, sk_uL_o, ne_eq, Nat.reduceEqDiff, Nat.reduceAdd, Int.reduceEq, not_false_eq_true]); exact b2
/-- the next step of the top frame, with counts that change -/
theorem sk_RR_top (hp : sk_pg p) (h : sk_RR p C I) (hd : 0 < C 35 5) (v : Int) : sk_RR p (sk_uI C 38 (C 35 5 - 1) v) (sk_uI I 59 43 v) := by
  obtain ⟨⟨a1, a2, a3, a4, a5, a6, a7⟩, b1, b2⟩ := h
  have hs := sk_sm_u hp (sk_sm_rf p C) 38 (C 35 5 - 1) v (by omega) (fun z => by omega)
  refine ⟨⟨sk_q1_cg a1 hs (sk_rfr_u (sk_rfr_rf I) 59 43 v (by omega)), ⟨by (try simp only [sk_uI_s, sk_uI_o, sk_up_s, sk_up_o, sk_uL_s, sk_uL_o, ne_eq, Nat.reduceEqDiff, Nat.reduceAdd, Int.reduceEq, not_false_eq_true]); exact a2.1, fun i i0 i1 => ?_⟩, fun _ => ?_, sk_q4_cg a4 hs (by (try simp only [sk_uI_s, sk_uI_o, sk_up_s, sk_up_o, sk_uL_s, sk_uL_o, ne_eq, Nat.reduceEqDiff, Nat.reduceAdd, Int.reduceEq, not_false_eq_true])) (by (try simp only [sk_uI_s, sk_uI_o, sk_up_s, sk_up_o, sk_uL_s, sk_uL_o, ne_eq, Nat.reduceEqDiff, Nat.reduceAdd, Int.reduceEq, not_false_eq_true])) (by (try simp only [sk_uI_s, sk_uI_o, sk_up_s, sk_up_o, sk_uL_s, sk_uL_o, ne_eq, Nat.reduceEqDiff, Nat.reduceAdd, Int.reduceEq, not_false_eq_true])) (by (try simp only [sk_uI_s, sk_uI_o, sk_up_s, sk_up_o, sk_uL_s, sk_uL_o, ne_eq, Nat.reduceEqDiff, Nat.reduceAdd, Int.reduceEq, not_false_eq_true])) (fun c hc => sk_uI_o (by omega)), sk_q5_cg a5 (by (try simp only [sk_uI_s, sk_uI_o, sk_up_s, sk_up_o, sk_uL_s, sk_uL_o, ne_eq, Nat.reduceEqDiff, Nat.reduceAdd, Int.reduceEq, not_false_eq_true])) (by (try simp only [sk_uI_s, sk_uI_o, sk_up_s, sk_up_o, sk_uL_s, sk_uL_o, ne_eq, Nat.reduceEqDiff, Nat.reduceAdd, Int.reduceEq, not_false_eq_true])), sk_q6_cg a6 (by (try simp only [sk_uI_s, sk_uI_o, sk_up_s, sk_up_o, sk_uL_s, sk_uL_o, ne_eq, Nat.reduceEqDiff, Nat.reduceAdd, Int.reduceEq, not_false_eq_true])) (by (try simp only [sk_uI_s, sk_uI_o, sk_up_s, sk_up_o, sk_uL_s, sk_uL_o, ne_eq, Nat.reduceEqDiff, Nat.reduceAdd, Int.reduceEq, not_false_eq_true])) (by (try simp only [sk_uI_s, sk_uI_o, sk_up_s, sk_up_o, sk_uL_s, sk_uL_o, ne_eq, Nat.reduceEqDiff, Nat.reduceAdd, Int.reduceEq, not_false_eq_true])) (by (try simp only [sk_uI_s, sk_uI_o, sk_up_s, sk_up_o, sk_uL_s, sk_uL_o, ne_eq, Nat.reduceEqDiff, Nat.reduceAdd, Int.reduceEq, not_false_eq_true])) (by (try simp only [sk_uI_s, sk_uI_o, sk_up_s, sk_up_o, sk_uL_s, sk_uL_o, ne_eq, Nat.reduceEqDiff, Nat.reduceAdd, Int.reduceEq, not_false_eq_true])) (by (try simp only [sk_uI_s, sk_uI_o, sk_up_s, sk_up_o, sk_uL_s, sk_uL_o, ne_eq, Nat.reduceEqDiff, Nat.reduceAdd, Int.reduceEq, not_false_eq_true])), sk_q7_cg a7 (fun j _ => by (try simp only [sk_uI_s, sk_uI_o, sk_up_s, sk_up_o, sk_uL_s, sk_uL_o, ne_eq, Nat.reduceEqDiff, Nat.reduceAdd, Int.reduceEq, not_false_eq_true])) (by (try simp only [sk_uI_s, sk_uI_o, sk_up_s, sk_up_o, sk_uL_s, sk_uL_o, ne_eq, Nat.reduceEqDiff, Nat.reduceAdd, Int.reduceEq, not_false_eq_true])) (by (try simp only [sk_uI_s, sk_uI_o, sk_up_s, sk_up_o, sk_uL_s, sk_uL_o, ne_eq, Nat.reduceEqDiff, Nat.reduceAdd, Int.reduceEq, not_false_eq_true])) (by (try simp only [sk_uI_s, sk_uI_o, sk_up_s, sk_up_o, sk_uL_s, sk_uL_o, ne_eq, Nat.reduceEqDiff, Nat.reduceAdd, Int.reduceEq, not_false_eq_true])) (fun j h1 h2 => by rw [sk_uI_s, sk_up_o (by omega)]) (by (try simp only [sk_uI_s, sk_uI_o, sk_up_s, sk_up_o, sk_uL_s, sk_uL_o, ne_eq, Nat.reduceEqDiff, Nat.reduceAdd, Int.reduceEq, not_false_eq_true]))⟩, ?_, ?_⟩
  · simp only [sk_uI_s, sk_uI_o, ne_eq, Nat.reduceEqDiff, not_false_eq_true] at i1
    have := a2.2 i i0 i1
    unfold sk_q21 at this ⊢
    rw [hs.1 7 (by omega)]
    (try simp only [sk_uI_s, sk_uI_o, sk_up_s, sk_up_o, sk_uL_s, sk_uL_o, ne_eq, Nat.reduceEqDiff, Nat.reduceAdd, Int.reduceEq, not_false_eq_true])
    rw [sk_up_o (show i - 1 ≠ C 35 5 - 1 by omega)]
    exact this
  · (try simp only [sk_uI_s, sk_uI_o, sk_up_s, sk_up_o, sk_uL_s, sk_uL_o, ne_eq, Nat.reduceEqDiff, Nat.reduceAdd, Int.reduceEq, not_false_eq_true])
    exact ⟨(a3 hd).1, trivial⟩
  · (try simp only [sk_uI_s, sk_uI_o, sk_up_s, sk_up_o, sk_uL_s, sk_uL_o, ne_eq, Nat.reduceEqDiff, Nat.reduceAdd, Int.reduceEq, not_false_eq_true]); exact b1
  · (try simp only [sk_uI_s, sk_uI_o, sk_up_s, sk_up_o, sk_uL_s, sk_uL_o, ne_eq, Nat.reduceEqDiff, Nat.reduceAdd, Int.reduceEq, not_false_eq_true]); exact b2
theorem sk_RR_turn (hp : sk_pg p) (h : sk_RR p C I) (hd : 0 < C 35 5) (v : Int) : sk_RR p (sk_uI (sk_bmp 0 C) 38 (C 35 5 - 1) v) (sk_uI (sk_uI I 59 51 (I 59 51 + 1)) 59 43 v) := by
  have h1 : sk_RR p (sk_bmp 0 C) (sk_uI I 59 51 (I 59 51 + 1)) := by
    obtain ⟨⟨q1, q2, q3, q4, q5, q6, q7⟩, q8, q9⟩ := h.1.2.2.2.2.2.2
    unfold sk_bmp
    refine sk_RR_cg7 h (sk_sm_u hp (sk_sm_rf p C) 44 0 _ (by omega) (fun z => by omega)) (fun c hc => sk_uI_o (by omega)) (fun i _ => by rw [sk_uI_o (by decide)]) (by (try simp only [sk_uI_s, sk_uI_o, sk_up_s, sk_up_o, sk_uL_s, sk_uL_o, ne_eq, Nat.reduceEqDiff, Nat.reduceAdd, Int.reduceEq, not_false_eq_true])) (fun c h1 h2 => sk_uI_o h1) (fun i hi => by rw [sk_uI_s, sk_up_o (by omega)]) ?_
    unfold sk_q7
    (try simp only [sk_uI_s, sk_uI_o, sk_up_s, sk_up_o, sk_uL_s, sk_uL_o, ne_eq, Nat.reduceEqDiff, Nat.reduceAdd, Int.reduceEq, not_false_eq_true])
    exact ⟨⟨q1, q2, by rw [q3], q4, q5, q6, q7⟩, q8, q9⟩
  have e35 : sk_bmp 0 C 35 5 = C 35 5 := by unfold sk_bmp; (try simp only [sk_uI_s, sk_uI_o, sk_up_s, sk_up_o, sk_uL_s, sk_uL_o, ne_eq, Nat.reduceEqDiff, Nat.reduceAdd, Int.reduceEq, not_false_eq_true])
  have h2 := sk_RR_top hp h1 (by rw [e35]; exact hd) v
  rw [e35] at h2
  exact h2
theorem sk_RR_again (hp : sk_pg p) (h : sk_RR p C I) (hd : 0 < C 35 5) (t v : Int) : sk_RR p (sk_uI (sk_uI C 40 (C 35 5 - 1) t) 38 (C 35 5 - 1) v) (sk_uI (sk_uI I 87 (C 35 5 - 1) t) 59 43 v) := by
  have h1 : sk_RR p (sk_uI C 40 (C 35 5 - 1) t) (sk_uI I 87 (C 35 5 - 1) t) := by
    obtain ⟨⟨a1, a2, a3, a4, a5, a6, a7⟩, b1, b2⟩ := h
    have hs := sk_sm_u hp (sk_sm_rf p C) 40 (C 35 5 - 1) t (by omega) (fun z => by omega)
    refine ⟨⟨sk_q1_cg a1 hs (sk_rfr_u (sk_rfr_rf I) 87 _ t (by omega)), ⟨by (try simp only [sk_uI_s, sk_uI_o, sk_up_s, sk_up_o, sk_uL_s, sk_uL_o, ne_eq, Nat.reduceEqDiff, Nat.reduceAdd, Int.reduceEq, not_false_eq_true]); exact a2.1, fun i i0 i1 => ?_⟩, ?_, sk_q4_cg a4 hs (by (try simp only [sk_uI_s, sk_uI_o, sk_up_s, sk_up_o, sk_uL_s, sk_uL_o, ne_eq, Nat.reduceEqDiff, Nat.reduceAdd, Int.reduceEq, not_false_eq_true])) (by (try simp only [sk_uI_s, sk_uI_o, sk_up_s, sk_up_o, sk_uL_s, sk_uL_o, ne_eq, Nat.reduceEqDiff, Nat.reduceAdd, Int.reduceEq, not_false_eq_true])) (by (try simp only [sk_uI_s, sk_uI_o, sk_up_s, sk_up_o, sk_uL_s, sk_uL_o, ne_eq, Nat.reduceEqDiff, Nat.reduceAdd, Int.reduceEq, not_false_eq_true])) (by (try simp only [sk_uI_s, sk_uI_o, sk_up_s, sk_up_o, sk_uL_s, sk_uL_o, ne_eq, Nat.reduceEqDiff, Nat.reduceAdd, Int.reduceEq, not_false_eq_true])) (fun c hc => sk_uI_o (by omega)), sk_q5_cg a5 (by (try simp only [sk_uI_s, sk_uI_o, sk_up_s, sk_up_o, sk_uL_s, sk_uL_o, ne_eq, Nat.reduceEqDiff, Nat.reduceAdd, Int.reduceEq, not_false_eq_true])) (by (try simp only [sk_uI_s, sk_uI_o, sk_up_s, sk_up_o, sk_uL_s, sk_uL_o, ne_eq, Nat.reduceEqDiff, Nat.reduceAdd, Int.reduceEq, not_false_eq_true])), sk_q6_cg a6 (by (try simp only [sk_uI_s, sk_uI_o, sk_up_s, sk_up_o, sk_uL_s, sk_uL_o, ne_eq, Nat.reduceEqDiff, Nat.reduceAdd, Int.reduceEq, not_false_eq_true])) (by (try simp only [sk_uI_s, sk_uI_o, sk_up_s, sk_up_o, sk_uL_s, sk_uL_o, ne_eq, Nat.reduceEqDiff, Nat.reduceAdd, Int.reduceEq, not_false_eq_true])) (by (try simp only [sk_uI_s, sk_uI_o, sk_up_s, sk_up_o, sk_uL_s, sk_uL_o, ne_eq, Nat.reduceEqDiff, Nat.reduceAdd, Int.reduceEq, not_false_eq_true])) (by (try simp only [sk_uI_s, sk_uI_o, sk_up_s, sk_up_o, sk_uL_s, sk_uL_o, ne_eq, Nat.reduceEqDiff, Nat.reduceAdd, Int.reduceEq, not_false_eq_true])) (by (try simp only [sk_uI_s, sk_uI_o, sk_up_s, sk_up_o, sk_uL_s, sk_uL_o, ne_eq, Nat.reduceEqDiff, Nat.reduceAdd, Int.reduceEq, not_false_eq_true])) (by (try simp only [sk_uI_s, sk_uI_o, sk_up_s, sk_up_o, sk_uL_s, sk_uL_o, ne_eq, Nat.reduceEqDiff, Nat.reduceAdd, Int.reduceEq, not_false_eq_true])), sk_q7_cg a7 (fun j _ => by (try simp only [sk_uI_s, sk_uI_o, sk_up_s, sk_up_o, sk_uL_s, sk_uL_o, ne_eq, Nat.reduceEqDiff, Nat.reduceAdd, Int.reduceEq, not_false_eq_true])) (by (try simp only [sk_uI_s, sk_uI_o, sk_up_s, sk_up_o, sk_uL_s, sk_uL_o, ne_eq, Nat.reduceEqDiff, Nat.reduceAdd, Int.reduceEq, not_false_eq_true])) (by (try simp only [sk_uI_s, sk_uI_o, sk_up_s, sk_up_o, sk_uL_s, sk_uL_o, ne_eq, Nat.reduceEqDiff, Nat.reduceAdd, Int.reduceEq, not_false_eq_true])) (by (try simp only [sk_uI_s, sk_uI_o, sk_up_s, sk_up_o, sk_uL_s, sk_uL_o, ne_eq, Nat.reduceEqDiff, Nat.reduceAdd, Int.reduceEq, not_false_eq_true])) (fun j h1 h2 => by (try simp only [sk_uI_s, sk_uI_o, sk_up_s, sk_up_o, sk_uL_s, sk_uL_o, ne_eq, Nat.reduceEqDiff, Nat.reduceAdd, Int.reduceEq, not_false_eq_true])) (by (try simp only [sk_uI_s, sk_uI_o, sk_up_s, sk_up_o, sk_uL_s, sk_uL_o, ne_eq, Nat.reduceEqDiff, Nat.reduceAdd, Int.reduceEq, not_false_eq_true]))⟩, ?_, ?_⟩
    · simp only [sk_uI_s, sk_uI_o, ne_eq, Nat.reduceEqDiff, not_false_eq_true] at i1
      have := a2.2 i i0 i1
      unfold sk_q21 at this ⊢
      rw [hs.1 7 (by omega)]
      (try simp only [sk_uI_s, sk_uI_o, sk_up_s, sk_up_o, sk_uL_s, sk_uL_o, ne_eq, Nat.reduceEqDiff, Nat.reduceAdd, Int.reduceEq, not_false_eq_true])
      by_cases e : i = C 35 5 - 1
      · subst e; rw [sk_up_s, sk_up_s]; exact ⟨this.1, this.2.1, this.2.2.1, fun _ => rfl, this.2.2.2.2⟩
      · rw [sk_up_o e, sk_up_o e]; exact this
    · unfold sk_q3; (try simp only [sk_uI_s, sk_uI_o, sk_up_s, sk_up_o, sk_uL_s, sk_uL_o, ne_eq, Nat.reduceEqDiff, Nat.reduceAdd, Int.reduceEq, not_false_eq_true]); exact a3
    · (try simp only [sk_uI_s, sk_uI_o, sk_up_s, sk_up_o, sk_uL_s, sk_uL_o, ne_eq, Nat.reduceEqDiff, Nat.reduceAdd, Int.reduceEq, not_false_eq_true]); exact b1
    · (try simp only [sk_uI_s, sk_uI_o, sk_up_s, sk_up_o, sk_uL_s, sk_uL_o, ne_eq, Nat.reduceEqDiff, Nat.reduceAdd, Int.reduceEq, not_false_eq_true]); exact b2
  have e35 : sk_uI C 40 (C 35 5 - 1) t 35 5 = C 35 5 := by (try simp only [sk_uI_s, sk_uI_o, sk_up_s, sk_up_o, sk_uL_s, sk_uL_o, ne_eq, Nat.reduceEqDiff, Nat.reduceAdd, Int.reduceEq, not_false_eq_true])
  have h2 := sk_RR_top hp h1 (by rw [e35]; exact hd) v
  rw [e35] at h2
  exact h2
end SKY4
