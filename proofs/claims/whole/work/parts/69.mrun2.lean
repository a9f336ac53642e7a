/-! ===== a run of the model against one of the class ===== -/
def sk_kr (r k : Int) : Prop := (r = 0 → k = 20) ∧ (r = 1 → k = 7) ∧ (r = 2 → k = 8) ∧ (r = 3 → k = 2 ∨ k = 3 ∨ k = 5 ∨ k = 10 ∨ k = 11 ∨ k = 14)
/-- the program, the rules, the bits -/
def sk_q1 (p : Nat) (C I : sk_SI) : Prop := (∀ m, 0 ≤ m → m < C p 9 → I 64 m = C (p + 1) m ∧ I 65 m = C (p + 2) m) ∧ (∀ s, 0 ≤ s → s < C p 10 → I 67 s = C (p + 3) s ∧ I 68 s = C (p + 4) s ∧ I 69 s = C (p + 5) s ∧ I 70 s = C (p + 6) s ∧ I 71 s = C (p + 7) s ∧ I 72 s = C (p + 8) s ∧ I 73 s = C (p + 9) s) ∧ I 61 = C 8 ∧ I 62 = C 4 ∧ I 59 5 = C 3 1
def sk_q21 (p : Nat) (C I : sk_SI) (i : Int) : Prop := sk_kr (C 36 i) (I 83 i) ∧ (C 36 i = 1 ∨ C 36 i = 2 → I 84 i = C 37 i) ∧ (0 < i → I 85 i = C 39 (i - 1) ∧ I 86 i = C 38 (i - 1)) ∧ (C 36 i = 2 → I 87 i = C 40 i) ∧ (C 36 i = 1 → C 38 (i - 1) = C (p + 7) (C 37 i))
def sk_q2 (p : Nat) (C I : sk_SI) : Prop := I 59 37 = C 35 5 ∧ ∀ i, 0 ≤ i → i < C 35 5 → sk_q21 p C I i
def sk_q3 (C I : sk_SI) : Prop := 0 < C 35 5 → I 59 35 = C 39 (C 35 5 - 1) ∧ I 59 43 = C 38 (C 35 5 - 1)
def sk_q4 (p : Nat) (C I : sk_SI) : Prop := I 59 29 = C 45 4 ∧ ∀ e, 0 ≤ e → e < C 45 4 → sk_er p C I e
def sk_q5 (C I : sk_SI) : Prop := ∀ k, 0 ≤ k → k < 4 → I 82 k = C 41 k
def sk_q6 (C I : sk_SI) : Prop := I 59 47 = C 34 10 - 1 ∧ (∀ j, 0 ≤ j → j < C 34 10 - 1 → I 88 j = C 42 (j + 1) ∧ I 89 j = C 43 (j + 1)) ∧ 1 ≤ C 34 10
def sk_q7 (C I : sk_SI) : Prop := (I 59 48 = C 44 1 ∧ I 59 49 = C 34 13 ∧ I 59 51 = C 44 0 ∧ I 59 52 = C 44 2 ∧ I 59 53 = C 44 3 ∧ I 59 55 = C 44 5 ∧ I 59 56 = C 44 7) ∧ I 59 58 = C 5 1 ∧ ∀ i, 0 ≤ i → i < C 5 1 → I 90 i = C 6 i
def sk_RM (p : Nat) (C I : sk_SI) : Prop := sk_q1 p C I ∧ sk_q2 p C I ∧ sk_q3 C I ∧ sk_q4 p C I ∧ sk_q5 C I ∧ sk_q6 C I ∧ sk_q7 C I
def sk_RR (p : Nat) (C I : sk_SI) : Prop := sk_RM p C I ∧ (0 < C 35 5 → I 59 44 = C 34 12) ∧ I 59 54 = C 44 4
/-- what the model's run leaves alone -/
def sk_rfr (I I' : sk_SI) : Prop := (∀ c, c ≠ 59 → ¬ (77 ≤ c ∧ c ≤ 90) → I' c = I c) ∧ ∀ j, ¬ (29 ≤ j ∧ j ≤ 58 ∧ j ≠ 50) → I' 59 j = I 59 j
theorem sk_rfr_rf (I : sk_SI) : sk_rfr I I := ⟨fun _ _ _ => rfl, fun _ _ => rfl⟩
theorem sk_rfr_tr {I I1 I2 : sk_SI} (h1 : sk_rfr I I1) (h2 : sk_rfr I1 I2) : sk_rfr I I2 := ⟨fun c a b => (h2.1 c a b).trans (h1.1 c a b), fun j a => (h2.2 j a).trans (h1.2 j a)⟩
theorem sk_rfr_u {I0 I : sk_SI} (h : sk_rfr I0 I) (c : Nat) (j v : Int) (hc : (c = 59 ∧ 29 ≤ j ∧ j ≤ 58 ∧ j ≠ 50) ∨ (77 ≤ c ∧ c ≤ 90)) : sk_rfr I0 (sk_uI I c j v) := by
  refine sk_rfr_tr h ⟨fun k a b => sk_uI_o (by omega), fun i hi => ?_⟩
  by_cases e : 59 = c
  · subst e; rw [sk_uI_s, sk_up_o (by omega)]
  · rw [sk_uI_o e]
theorem sk_rfr_mop (k st f t : Int) (I : sk_SI) : sk_rfr I (sk_mop k st f t I) := by
  unfold sk_mop
  exact sk_rfr_u (sk_rfr_u (sk_rfr_u (sk_rfr_u (sk_rfr_u (sk_rfr_u (sk_rfr_u (sk_rfr_rf I) 83 _ _ (by omega)) 84 _ _ (by omega)) 85 _ _ (by omega)) 86 _ _ (by omega)) 87 _ _ (by omega)) 59 37 _ (by omega)) 59 43 _ (by omega)
theorem sk_rfr_men (k o a b : Int) (I : sk_SI) : sk_rfr I (sk_men k o a b I) := by
  unfold sk_men
  exact sk_rfr_u (sk_rfr_u (sk_rfr_u (sk_rfr_u (sk_rfr_u (sk_rfr_u (sk_rfr_u (sk_rfr_rf I) 59 29 _ (by omega)) 77 _ _ (by omega)) 78 _ _ (by omega)) 79 _ _ (by omega)) 80 _ _ (by omega)) 81 _ _ (by omega)) 59 35 _ (by omega)
theorem sk_rfr_mcl (I : sk_SI) : sk_rfr I (sk_mcl I) := by
  unfold sk_mcl
  exact sk_rfr_u (sk_rfr_u (sk_rfr_u (sk_rfr_u (sk_rfr_rf I) 59 37 _ (by omega)) 59 35 _ (by omega)) 59 43 _ (by omega)) 59 44 _ (by omega)
theorem sk_rfr_mom (I : sk_SI) : sk_rfr I (sk_mom I) := by
  unfold sk_mom
  exact sk_rfr_u (sk_rfr_u (sk_rfr_rf I) 59 44 _ (by omega)) 59 54 _ (by omega)
section SKY2
variable {p : Nat} {C C' I I' : sk_SI}
theorem sk_q1_cf (h : sk_q1 p C I) (s1 : ∀ k, k ≤ 9 → C' (p + k) = C (p + k)) (s8 : C' 8 = C 8) (s3 : C' 3 = C 3) (s4 : C' 4 = C 4) (hf : sk_rfr I I') : sk_q1 p C' I' := by
  have s0 : C' p = C p := s1 0 (by omega)
  have f : ∀ c, c ≠ 59 → ¬ (77 ≤ c ∧ c ≤ 90) → I' c = I c := hf.1
  unfold sk_q1
  rw [s0, s1 1 (by omega), s1 2 (by omega), s1 3 (by omega), s1 4 (by omega), s1 5 (by omega), s1 6 (by omega), s1 7 (by omega), s1 8 (by omega), s1 9 (by omega), s8, s4, s3, f 61 (by decide) (by decide), f 62 (by decide) (by decide), f 64 (by decide) (by decide), f 65 (by decide) (by decide), f 67 (by decide) (by decide), f 68 (by decide) (by decide), f 69 (by decide) (by decide), f 70 (by decide) (by decide), f 71 (by decide) (by decide), f 72 (by decide) (by decide), f 73 (by decide) (by decide), hf.2 5 (by decide)]
  exact h
theorem sk_q1_cg (h : sk_q1 p C I) (hs : sk_sm p C C') (hf : sk_rfr I I') : sk_q1 p C' I' := sk_q1_cf h hs.1 hs.2.1 hs.2.2.1 hs.2.2.2.1 hf
theorem sk_q2_cg (h : sk_q2 p C I) (hs : sk_sm p C C') (h35 : C' 35 5 = C 35 5) (hC : ∀ c, 36 ≤ c ∧ c ≤ 40 → C' c = C c) (h37 : I' 59 37 = I 59 37) (hI : ∀ c, 83 ≤ c ∧ c ≤ 87 → I' c = I c) : sk_q2 p C' I' := by
  unfold sk_q2 sk_q21
  rw [h35, h37, hC 36 (by omega), hC 37 (by omega), hC 38 (by omega), hC 39 (by omega), hC 40 (by omega), hs.1 7 (by omega), hI 83 (by omega), hI 84 (by omega), hI 85 (by omega), hI 86 (by omega), hI 87 (by omega)]
  exact h
theorem sk_q4_cg (h : sk_q4 p C I) (hs : sk_sm p C C') (h45 : C' 45 4 = C 45 4) (h46 : C' 46 = C 46) (h47 : C' 47 = C 47) (h29 : I' 59 29 = I 59 29) (hI : ∀ c, 77 ≤ c ∧ c ≤ 81 → I' c = I c) : sk_q4 p C' I' := by
  unfold sk_q4 sk_er
  rw [h45, h46, h47, h29, hs.1 1 (by omega), hs.1 3 (by omega), hs.1 4 (by omega), hs.1 5 (by omega), hs.1 6 (by omega), hI 77 (by omega), hI 78 (by omega), hI 79 (by omega), hI 80 (by omega), hI 81 (by omega)]
  exact h
theorem sk_q5_cg (h : sk_q5 C I) (h41 : C' 41 = C 41) (h82 : I' 82 = I 82) : sk_q5 C' I' := by unfold sk_q5; rw [h41, h82]; exact h
theorem sk_q6_cg (h : sk_q6 C I) (h10 : C' 34 10 = C 34 10) (h42 : C' 42 = C 42) (h43 : C' 43 = C 43) (h47 : I' 59 47 = I 59 47) (h88 : I' 88 = I 88) (h89 : I' 89 = I 89) : sk_q6 C' I' := by unfold sk_q6; rw [h10, h42, h43, h47, h88, h89]; exact h
theorem sk_q7_cg (h : sk_q7 C I) (h44 : ∀ j, j ≠ 4 → C' 44 j = C 44 j) (h13 : C' 34 13 = C 34 13) (h5 : C' 5 1 = C 5 1) (h6 : C' 6 = C 6) (hI : ∀ j, 48 ≤ j ∧ j ≤ 58 → j ≠ 54 → I' 59 j = I 59 j) (h90 : I' 90 = I 90) : sk_q7 C' I' := by
  unfold sk_q7
  rw [h44 0 (by decide), h44 1 (by decide), h44 2 (by decide), h44 3 (by decide), h44 5 (by decide), h44 7 (by decide), h13, h5, h6, hI 48 (by omega) (by omega), hI 49 (by omega) (by omega), hI 51 (by omega) (by omega), hI 52 (by omega) (by omega), hI 53 (by omega) (by omega), hI 55 (by omega) (by omega), hI 56 (by omega) (by omega), hI 58 (by omega) (by omega), h90]
  exact h
/-- the counts of open methods don't matter there -/
theorem sk_RM_cg (h : sk_RM p C I) (hs : sk_sm p C C') (c1 : ∀ c, c = 5 ∨ c = 6 ∨ (35 ≤ c ∧ c ≤ 43) ∨ (45 ≤ c ∧ c ≤ 47) → C' c = C c) (c34 : ∀ j, j ≠ 12 → C' 34 j = C 34 j) (c44 : ∀ j, j ≠ 4 → C' 44 j = C 44 j) (i1 : ∀ c, c ≠ 59 → I' c = I c) (i59 : ∀ j, j ≠ 44 → j ≠ 54 → I' 59 j = I 59 j) : sk_RM p C' I' := by
  obtain ⟨a1, a2, a3, a4, a5, a6, a7⟩ := h
  have e35 : C' 35 = C 35 := c1 35 (by omega)
  refine ⟨sk_q1_cg a1 hs ⟨fun c h1 h2 => i1 c h1, fun j hj => i59 j (by omega) (by omega)⟩, sk_q2_cg a2 hs (by rw [e35]) (fun c hc => c1 c (by omega)) (i59 37 (by decide) (by decide)) (fun c hc => i1 c (by omega)), ?_, sk_q4_cg a4 hs (by rw [c1 45 (by omega)]) (c1 46 (by omega)) (c1 47 (by omega)) (i59 29 (by decide) (by decide)) (fun c hc => i1 c (by omega)), sk_q5_cg a5 (c1 41 (by omega)) (i1 82 (by decide)), sk_q6_cg a6 (c34 10 (by decide)) (c1 42 (by omega)) (c1 43 (by omega)) (i59 47 (by decide) (by decide)) (i1 88 (by decide)) (i1 89 (by decide)), sk_q7_cg a7 c44 (c34 13 (by decide)) (by rw [c1 5 (by omega)]) (c1 6 (by omega)) (fun j h1 h2 => i59 j (by omega) h2) (i1 90 (by decide))⟩
  unfold sk_q3
  rw [e35, c1 39 (by omega), c1 38 (by omega), i59 35 (by decide) (by decide), i59 43 (by decide) (by decide)]
  exact a3
/-- a block is closed -/
theorem sk_RR_cl (hp : sk_pg p) (h : sk_RR p C I) (hd : 0 < C 35 5) (hr : 0 ≤ C 36 (C 35 5 - 1) ∧ C 36 (C 35 5 - 1) ≤ 3) : sk_RR p (sk_clI C) (sk_mcl I) := by
  obtain ⟨⟨a1, a2, a3, a4, a5, a6, a7⟩, b1, b2⟩ := h
  have hs := sk_sm_cl (I := C) hp
  have co : ∀ c, c ≠ 34 → c ≠ 35 → sk_clI C c = C c := fun c h1 h2 => sk_clI_o C c h1 h2
  obtain ⟨c34, c12⟩ := sk_clI_34 C
  have c35 := sk_clI_d C
  have io : ∀ c, c ≠ 59 → sk_mcl I c = I c := fun c hc => by unfold sk_mcl; rw [sk_uI_o hc, sk_uI_o hc, sk_uI_o hc, sk_uI_o hc]
  have ij : ∀ j, j ≠ 37 → j ≠ 35 → j ≠ 43 → j ≠ 44 → sk_mcl I 59 j = I 59 j := fun j j1 j2 j3 j4 => by unfold sk_mcl; rw [sk_uI_s, sk_up_o j4, sk_uI_s, sk_up_o j3, sk_uI_s, sk_up_o j2, sk_uI_s, sk_up_o j1]
  have i37 : sk_mcl I 59 37 = I 59 37 - 1 := by unfold sk_mcl; (try simp only [sk_uI_s, sk_uI_o, sk_up_s, sk_up_o, sk_uL_s, sk_uL_o, ne_eq, Nat.reduceEqDiff, Nat.reduceAdd, Int.reduceEq, not_false_eq_true])
  have i35 : sk_mcl I 59 35 = I 85 (I 59 37 - 1) := by unfold sk_mcl; (try simp only [sk_uI_s, sk_uI_o, sk_up_s, sk_up_o, sk_uL_s, sk_uL_o, ne_eq, Nat.reduceEqDiff, Nat.reduceAdd, Int.reduceEq, not_false_eq_true])
  have i43 : sk_mcl I 59 43 = I 86 (I 59 37 - 1) := by unfold sk_mcl; (try simp only [sk_uI_s, sk_uI_o, sk_up_s, sk_up_o, sk_uL_s, sk_uL_o, ne_eq, Nat.reduceEqDiff, Nat.reduceAdd, Int.reduceEq, not_false_eq_true])
  have i44 : sk_mcl I 59 44 = I 59 44 - (if I 83 (I 59 37 - 1) = 20 then 1 else 0) := by unfold sk_mcl; (try simp only [sk_uI_s, sk_uI_o, sk_up_s, sk_up_o, sk_uL_s, sk_uL_o, ne_eq, Nat.reduceEqDiff, Nat.reduceAdd, Int.reduceEq, not_false_eq_true])
  have e37 := a2.1
  obtain ⟨r1, r2, r3, r4, r5⟩ := a2.2 (C 35 5 - 1) (by omega) (by omega)
  refine ⟨⟨sk_q1_cg a1 hs (sk_rfr_mcl I), ⟨by rw [i37, c35, e37], fun i i0 i1 => ?_⟩, fun z => ?_, sk_q4_cg a4 hs (by rw [co 45 (by decide) (by decide)]) (co 46 (by decide) (by decide)) (co 47 (by decide) (by decide)) (ij 29 (by decide) (by decide) (by decide) (by decide)) (fun c hc => io c (by omega)), sk_q5_cg a5 (co 41 (by decide) (by decide)) (io 82 (by decide)), sk_q6_cg a6 (c34 10 (by decide)) (co 42 (by decide) (by decide)) (co 43 (by decide) (by decide)) (ij 47 (by decide) (by decide) (by decide) (by decide)) (io 88 (by decide)) (io 89 (by decide)), sk_q7_cg a7 (fun j _ => by rw [co 44 (by decide) (by decide)]) (c34 13 (by decide)) (by rw [co 5 (by decide) (by decide)]) (co 6 (by decide) (by decide)) (fun j h1 h2 => ij j (by omega) (by omega) (by omega) (by omega)) (io 90 (by decide))⟩, fun z => ?_, ?_⟩
  · rw [c35] at i1
    have := a2.2 i i0 (by omega)
    unfold sk_q21 at this ⊢
    rw [co 36 (by decide) (by decide), co 37 (by decide) (by decide), co 38 (by decide) (by decide), co 39 (by decide) (by decide), co 40 (by decide) (by decide), hs.1 7 (by omega), io 83 (by decide), io 84 (by decide), io 85 (by decide), io 86 (by decide), io 87 (by decide)]
    exact this
  · rw [c35] at z ⊢
    rw [i35, i43, e37, co 39 (by decide) (by decide), co 38 (by decide) (by decide)]
    exact r3 (by omega)
  · rw [c12, i44, e37, b1 hd]
    by_cases hr0 : C 36 (C 35 5 - 1) = 0
    · rw [if_pos hr0, if_pos (r1.1 hr0)]
    · rw [if_neg hr0, if_neg (by
        intro w
        obtain ⟨k0, k1, k2, k3⟩ := r1
        rcases (show C 36 (C 35 5 - 1) = 1 ∨ C 36 (C 35 5 - 1) = 2 ∨ C 36 (C 35 5 - 1) = 3 by omega) with y | y | y
        · have := k1 y; omega
        · have := k2 y; omega
        · have := k3 y; omega)]
      omega
  · rw [ij 54 (by decide) (by decide) (by decide) (by decide), co 44 (by decide) (by decide)]
    exact b2
end SKY2
