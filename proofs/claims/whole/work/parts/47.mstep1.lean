/-! ===== the model's step: its cells as it is added; its numbers ===== -/
theorem sk_up_200 {f : Int → Int} {s v j : Int} : sk_up f (200 + s) v (200 + j) = if j = s then v else f (200 + j) := by
  by_cases h : j = s
  · subst h; rw [if_pos rfl, sk_up_s]
  · rw [if_neg h, sk_up_o (by omega)]
/-- a store into the same row of both -/
theorem sk_MR_row {t : Int → Int} {n : Int} {p : Nat} {xs : Int} {C I : sk_SI} (hp : sk_pg p) (h : sk_MR t n p xs C I) (k : Nat) (hk : 5 ≤ k ∧ k ≤ 9) (s v : Int) : sk_MR t n p xs (sk_uI C (p + k) s v) (sk_uI I (64 + k) (200 + s) v) := by
  obtain ⟨hv, hm, hP⟩ := h
  have gd := sk_gd_row hp hv (p + k) s v (by omega)
  refine ⟨gd.1, ?_, ?_⟩
  · obtain ⟨a, ⟨b1, b2, b3, b4, b5⟩, i, c1, c2⟩ := hm
    have o59 : sk_uI I (64 + k) (200 + s) v 59 = I 59 := sk_uI_o (by omega)
    have o60 : sk_uI I (64 + k) (200 + s) v 60 = I 60 := sk_uI_o (by omega)
    refine ⟨sk_tkn_fp hp a gd.2.1, ?_, i, ?_, ?_⟩
    · unfold sk_tm
      rw [o59, o60]
      exact ⟨b1, b2, b3, b4, b5⟩
    · rw [sk_uI_o (by rcases hp with rfl | rfl <;> omega)]; exact c1
    · unfold sk_mat
      rw [o59]
      exact c2
  · obtain ⟨⟨a1, a2, a3⟩, a4⟩ := hP
    have op : sk_uI C (p + k) s v p = C p := sk_uI_o (by omega)
    have o32 : sk_uI C (p + k) s v 32 = C 32 := sk_uI_o (by rcases hp with rfl | rfl <;> omega)
    have o33 : sk_uI C (p + k) s v 33 = C 33 := sk_uI_o (by rcases hp with rfl | rfl <;> omega)
    have o3 : sk_uI C (p + k) s v (p + 3) = C (p + 3) := sk_uI_o (by omega)
    refine ⟨⟨by rw [op, sk_uI_o (by omega)]; exact a1, by rw [op, sk_uI_o (by omega)]; exact a2, by rw [op, sk_uI_o (by omega)]; exact a3⟩, fun j j0 j1 => ?_⟩
    rw [op] at j1
    obtain ⟨⟨r3, r4, r5, r6, r7, r8, r9⟩, c⟩ := a4 j j0 j1
    have one : ∀ m, 3 ≤ m → m ≤ 9 → I (64 + m) (200 + j) = C (p + m) j → sk_uI I (64 + k) (200 + s) v (64 + m) (200 + j) = sk_uI C (p + k) s v (p + m) j := by
      intro m m1 m2 hm
      by_cases e : m = k
      · subst e
        rw [sk_uI_s, sk_uI_s, sk_up_200, sk_up]
        by_cases js : j = s
        · rw [if_pos js, if_pos js]
        · rw [if_neg js, if_neg js]; exact hm
      · rw [sk_uI_o (by omega), sk_uI_o (by omega)]; exact hm
    refine ⟨⟨one 3 (by omega) (by omega) r3, one 4 (by omega) (by omega) r4, one 5 (by omega) (by omega) r5, one 6 (by omega) (by omega) r6, one 7 (by omega) (by omega) r7, one 8 (by omega) (by omega) r8, one 9 (by omega) (by omega) r9⟩, ?_⟩
    rw [o3, o32, o33, sk_uI_o (by omega)]
    exact c
/-- a step's cells as it is added, in the model -/
def sk_asM (w s ms : Int) (I : sk_SI) : sk_SI := sk_uI (sk_uI (sk_uI (sk_uI (sk_uI (sk_uI (sk_uI (sk_uI I 66 1 (s + 1)) 67 (200 + s) w) 68 (200 + s) ms) 69 (200 + s) (-1)) 70 (200 + s) (-1)) 71 (200 + s) (-1)) 72 (200 + s) (-1)) 73 (200 + s) (-1)
theorem sk_asM_o (w s ms : Int) (I : sk_SI) (c : Nat) (h : c < 66 ∨ 73 < c) : sk_asM w s ms I c = I c := by
  unfold sk_asM
  rw [sk_uI_o (by omega), sk_uI_o (by omega), sk_uI_o (by omega), sk_uI_o (by omega), sk_uI_o (by omega), sk_uI_o (by omega), sk_uI_o (by omega), sk_uI_o (by omega)]
theorem sk_asM_r (w s ms : Int) (I : sk_SI) : sk_asM w s ms I 66 = sk_up (I 66) 1 (s + 1) ∧ sk_asM w s ms I 67 = sk_up (I 67) (200 + s) w ∧ sk_asM w s ms I 68 = sk_up (I 68) (200 + s) ms ∧ sk_asM w s ms I 69 = sk_up (I 69) (200 + s) (-1) ∧ sk_asM w s ms I 70 = sk_up (I 70) (200 + s) (-1) ∧ sk_asM w s ms I 71 = sk_up (I 71) (200 + s) (-1) ∧ sk_asM w s ms I 72 = sk_up (I 72) (200 + s) (-1) ∧ sk_asM w s ms I 73 = sk_up (I 73) (200 + s) (-1) := by
  unfold sk_asM
  refine ⟨?_, ?_, ?_, ?_, ?_, ?_, ?_, ?_⟩ <;>
  · simp only [sk_uI_s, sk_uI_o, ne_eq, Nat.reduceEqDiff, not_false_eq_true]
theorem sk_asM_mfr (w s ms : Int) (I : sk_SI) (hs : 0 ≤ s) : sk_mfr I (sk_asM w s ms I) := by
  unfold sk_asM
  refine sk_mfr_tr (sk_mfr_row _ 66 1 _ (by omega)) (sk_mfr_tr (sk_mfr_row _ 67 _ _ (by omega)) (sk_mfr_tr (sk_mfr_row _ 68 _ _ (by omega)) (sk_mfr_tr (sk_mfr_row _ 69 _ _ (by omega)) (sk_mfr_tr (sk_mfr_row _ 70 _ _ (by omega)) (sk_mfr_tr (sk_mfr_row _ 71 _ _ (by omega)) (sk_mfr_tr (sk_mfr_row _ 72 _ _ (by omega)) (sk_mfr_row _ 73 _ _ (by omega))))))))
theorem sk_asI_r {p : Nat} (hp : sk_pg p) (w : Int) (C : sk_SI) : sk_asI p w C (p + 3) = sk_up (C (p + 3)) (C p 10) w ∧ sk_asI p w C (p + 4) = sk_up (C (p + 4)) (C p 10) (C p 9 - 1) ∧ sk_asI p w C (p + 5) = sk_up (C (p + 5)) (C p 10) (-1) ∧ sk_asI p w C (p + 6) = sk_up (C (p + 6)) (C p 10) (-1) ∧ sk_asI p w C (p + 7) = sk_up (C (p + 7)) (C p 10) (-1) ∧ sk_asI p w C (p + 8) = sk_up (C (p + 8)) (C p 10) (-1) ∧ sk_asI p w C (p + 9) = sk_up (C (p + 9)) (C p 10) (-1) ∧ (∀ j, j ≠ 10 → sk_asI p w C p j = C p j) ∧ sk_asI p w C p 10 = C p 10 + 1 ∧ ∀ c, c ≠ p → ¬ (p + 3 ≤ c ∧ c ≤ p + 9) → sk_asI p w C c = C c := by
  unfold sk_asI
  refine ⟨?_, ?_, ?_, ?_, ?_, ?_, ?_, fun j hj => ?_, ?_, fun c h1 h2 => ?_⟩
  · rw [sk_uI_o (by omega), sk_uI_o (by omega), sk_uI_o (by omega), sk_uI_o (by omega), sk_uI_o (by omega), sk_uI_o (by omega), sk_uI_o (by omega), sk_uI_s]
  · rw [sk_uI_o (by omega), sk_uI_o (by omega), sk_uI_o (by omega), sk_uI_o (by omega), sk_uI_o (by omega), sk_uI_o (by omega), sk_uI_s, sk_uI_o (by omega)]
  · rw [sk_uI_o (by omega), sk_uI_o (by omega), sk_uI_o (by omega), sk_uI_o (by omega), sk_uI_o (by omega), sk_uI_s, sk_uI_o (by omega), sk_uI_o (by omega)]
  · rw [sk_uI_o (by omega), sk_uI_o (by omega), sk_uI_o (by omega), sk_uI_o (by omega), sk_uI_s, sk_uI_o (by omega), sk_uI_o (by omega), sk_uI_o (by omega)]
  · rw [sk_uI_o (by omega), sk_uI_o (by omega), sk_uI_o (by omega), sk_uI_s, sk_uI_o (by omega), sk_uI_o (by omega), sk_uI_o (by omega), sk_uI_o (by omega)]
  · rw [sk_uI_o (by omega), sk_uI_o (by omega), sk_uI_s, sk_uI_o (by omega), sk_uI_o (by omega), sk_uI_o (by omega), sk_uI_o (by omega), sk_uI_o (by omega)]
  · rw [sk_uI_o (by omega), sk_uI_s, sk_uI_o (by omega), sk_uI_o (by omega), sk_uI_o (by omega), sk_uI_o (by omega), sk_uI_o (by omega), sk_uI_o (by omega)]
  · rw [sk_uI_s, sk_up_o hj, sk_uI_o (by omega), sk_uI_o (by omega), sk_uI_o (by omega), sk_uI_o (by omega), sk_uI_o (by omega), sk_uI_o (by omega), sk_uI_o (by omega)]
  · rw [sk_uI_s, sk_up_s]
  · rw [sk_uI_o (by omega), sk_uI_o (by omega), sk_uI_o (by omega), sk_uI_o (by omega), sk_uI_o (by omega), sk_uI_o (by omega), sk_uI_o (by omega), sk_uI_o (by omega)]
theorem sk_MR_as {t : Int → Int} {n : Int} {p : Nat} {C I : sk_SI} (hp : sk_pg p) (h : sk_MR t n p (-1) C I) (hs : C p 10 < 200) (w : Int) : sk_MR t n p (C p 10) (sk_asI p w C) (sk_asM w (C p 10) (C p 9 - 1) I) := by
  obtain ⟨hv, hm, hP⟩ := h
  have gd := (sk_gd_as hp hv hs w).1
  obtain ⟨q3, q4, q5, q6, q7, q8, q9, qp, q10, qo⟩ := sk_asI_r hp w C
  obtain ⟨m66, m67, m68, m69, m70, m71, m72, m73⟩ := sk_asM_r w (C p 10) (C p 9 - 1) I
  have mo := sk_asM_o w (C p 10) (C p 9 - 1) I
  have h10 := hv.2.2.2.1
  refine ⟨gd.1, ?_, ?_⟩
  · obtain ⟨a, ⟨b1, b2, b3, b4, b5⟩, i, c1, c2⟩ := hm
    have o59 := mo 59 (by omega)
    have o60 := mo 60 (by omega)
    refine ⟨sk_tkn_fp hp a gd.2.1, ?_, i, ?_, ?_⟩
    · unfold sk_tm
      rw [o59, o60]
      exact ⟨b1, b2, b3, b4, b5⟩
    · rw [qo 29 (by rcases hp with rfl | rfl <;> omega) (by rcases hp with rfl | rfl <;> omega)]; exact c1
    · unfold sk_mat
      rw [o59]
      exact c2
  · obtain ⟨⟨a1, a2, a3⟩, a4⟩ := hP
    refine ⟨⟨by rw [qp 9 (by decide), mo 63 (by omega)]; exact a1, by rw [q10, m66, sk_up_s], by rw [qp 11 (by decide), mo 74 (by omega)]; exact a3⟩, fun j j0 j1 => ?_⟩
    rw [q10] at j1
    have o32 := qo 32 (by rcases hp with rfl | rfl <;> omega) (by rcases hp with rfl | rfl <;> omega)
    have o33 := qo 33 (by rcases hp with rfl | rfl <;> omega) (by rcases hp with rfl | rfl <;> omega)
    unfold sk_mr1
    rw [q3, q4, q5, q6, q7, q8, q9, m67, m68, m69, m70, m71, m72, m73, sk_up_200, sk_up_200, sk_up_200, sk_up_200, sk_up_200, sk_up_200, sk_up_200, o32, o33, mo 76 (by omega)]
    simp only [sk_up]
    by_cases e : j = C p 10
    · exact ⟨⟨by rw [if_pos e, if_pos e], by rw [if_pos e, if_pos e], by rw [if_pos e, if_pos e], by rw [if_pos e, if_pos e], by rw [if_pos e, if_pos e], by rw [if_pos e, if_pos e], by rw [if_pos e, if_pos e]⟩, fun z => absurd e z⟩
    · simp only [if_neg e]
      obtain ⟨r, c⟩ := a4 j j0 (by omega)
      exact ⟨r, fun _ => c (by omega)⟩
/-- the token of the step's first number -/
theorem sk_MR_33 {t : Int → Int} {n : Int} {p : Nat} {C I : sk_SI} {s : Int} (hp : sk_pg p) (h : sk_MR t n p s C I) (hw : ¬ (C (p + 3) s = 1 ∨ C (p + 3) s = 6)) (v : Int) : sk_MR t n p (-1) (sk_uI C 33 s v) I := by
  obtain ⟨hv, hm, hP⟩ := h
  have gd := sk_gd_row hp hv 33 s v (Or.inl rfl)
  have q : ∀ k, k ≤ 9 → sk_uI C 33 s v (p + k) = C (p + k) := fun k hk => sk_uI_o (by rcases hp with rfl | rfl <;> omega)
  have q0 : sk_uI C 33 s v p = C p := q 0 (by omega)
  refine ⟨gd.1, ?_, ?_⟩
  · obtain ⟨a, b, i, c1, c2⟩ := hm
    exact ⟨sk_tkn_fp hp a gd.2.1, b, i, by rw [sk_uI_o (by decide)]; exact c1, c2⟩
  · obtain ⟨a, a4⟩ := hP
    unfold sk_MP sk_mr1
    rw [q0, q 3 (by omega), q 4 (by omega), q 5 (by omega), q 6 (by omega), q 7 (by omega), q 8 (by omega), q 9 (by omega), sk_uI_o (show 32 ≠ 33 by decide), sk_uI_s]
    refine ⟨a, fun j j0 j1 => ?_⟩
    obtain ⟨r, c⟩ := a4 j j0 j1
    refine ⟨r, fun _ hw2 => ?_⟩
    by_cases e : j = s
    · subst e; exact absurd hw2 hw
    · rw [sk_up_o e]; exact c e hw2
theorem sk_MR_33c {t : Int → Int} {n : Int} {p : Nat} {C I : sk_SI} {s : Int} (hp : sk_pg p) (h : sk_MR t n p s C I) (v : Int) (hv2 : v = C 29 3) : sk_MR t n p (-1) (sk_uI C 33 s v) (sk_uI I 76 s (I 59 22)) := by
  obtain ⟨hv, hm, hP⟩ := h
  have a3 := (sk_MT_tok hv hm).2.2.1
  have gd := sk_gd_row hp hv 33 s v (Or.inl rfl)
  have q : ∀ k, k ≤ 9 → sk_uI C 33 s v (p + k) = C (p + k) := fun k hk => sk_uI_o (by rcases hp with rfl | rfl <;> omega)
  have q0 : sk_uI C 33 s v p = C p := q 0 (by omega)
  have o : ∀ c, c ≠ 76 → sk_uI I 76 s (I 59 22) c = I c := fun c hc => sk_uI_o hc
  refine ⟨gd.1, ?_, ?_⟩
  · obtain ⟨a, ⟨b1, b2, b3, b4, b5⟩, i, c1, c2⟩ := hm
    refine ⟨sk_tkn_fp hp a gd.2.1, ?_, i, by rw [sk_uI_o (by decide)]; exact c1, ?_⟩
    · unfold sk_tm
      rw [o 59 (by decide), o 60 (by decide)]
      exact ⟨b1, b2, b3, b4, b5⟩
    · unfold sk_mat
      rw [o 59 (by decide)]
      exact c2
  · obtain ⟨a, a4⟩ := hP
    unfold sk_MP sk_mr1
    rw [q0, q 3 (by omega), q 4 (by omega), q 5 (by omega), q 6 (by omega), q 7 (by omega), q 8 (by omega), q 9 (by omega), sk_uI_o (show 32 ≠ 33 by decide), sk_uI_s, o 63 (by decide), o 66 (by decide), o 74 (by decide), o 67 (by decide), o 68 (by decide), o 69 (by decide), o 70 (by decide), o 71 (by decide), o 72 (by decide), o 73 (by decide), sk_uI_s]
    refine ⟨a, fun j j0 j1 => ?_⟩
    obtain ⟨r, c⟩ := a4 j j0 j1
    refine ⟨r, fun _ hw2 => ?_⟩
    by_cases e : j = s
    · subst e; rw [sk_up_s, sk_up_s, hv2]; exact a3
    · rw [sk_up_o e, sk_up_o e]; exact c e hw2
