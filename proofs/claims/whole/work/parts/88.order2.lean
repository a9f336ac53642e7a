/-! ===== tables compare kind by kind ===== -/
def sk_pe (A B : sk_Tb) (n : Int) : Prop := ∀ r : Nat, (r : Int) < n → A r = B r
theorem sk_cmp_row {A B : sk_Tb} (hA : sk_t8 A) (hB : sk_t8 B) {k : Int} (hk : 0 ≤ k ∧ k < 8) (hp : sk_pe A B (10 * k)) : ((lg_cmp (sk_lg (sk_row1 A k)) (sk_lg (sk_row1 B k))).toInt = 0 → sk_pe A B (10 * (k + 1))) ∧ ((lg_cmp (sk_lg (sk_row1 A k)) (sk_lg (sk_row1 B k))).toInt ≠ 0 → ¬ sk_pe A B 80) ∧ ((lg_cmp (sk_lg (sk_row1 A k)) (sk_lg (sk_row1 B k))).toInt < 0 → sk_lx A B 80) ∧ (0 < (lg_cmp (sk_lg (sk_row1 A k)) (sk_lg (sk_row1 B k))).toInt → ¬ sk_lx A B 80) := by
  obtain ⟨e0, e1, e2⟩ := sk_lc (sk_t8_1 hA hk) (sk_t8_1 hB hk)
  obtain ⟨n, rfl⟩ := Int.eq_ofNat_of_zero_le hk.1
  have row : ∀ (T : sk_Tb) (j : Nat), sk_row1 T (n : Int) (j : Int) = T ((10 * n + j : Nat) : Int) := fun T j => by
    unfold sk_row1
    rw [show (10 * (n : Int) + (j : Int)) = ((10 * n + j : Nat) : Int) by omega]
  generalize (lg_cmp (sk_lg (sk_row1 A n)) (sk_lg (sk_row1 B n))).toInt = c at *
  have all : c ≠ 0 → ¬ ∀ r : Nat, r < 10 * n + 10 → A r = B r := fun h z => h (e0.mpr (fun j hj => by rw [row, row]; exact z (10 * n + j) (by omega)))
  refine ⟨fun h r hr => ?_, fun h z => all h (fun r hr => z r (by omega)), fun h => ?_, fun h z => ?_⟩
  · by_cases h1 : (r : Int) < 10 * n
    · exact hp r h1
    · have := e0.mp h (r - 10 * n) (by omega)
      rw [row, row, show 10 * n + (r - 10 * n) = r by omega] at this
      exact this
  · obtain ⟨j, j1, j2, j3⟩ := e1.mp h
    rw [row, row] at j2
    refine ⟨10 * n + j, by omega, j2, fun i hi => ?_⟩
    by_cases h1 : i < 10 * n
    · exact hp i (by omega)
    · have := j3 (i - 10 * n) (by omega)
      rw [row, row, show 10 * n + (i - 10 * n) = i by omega] at this
      exact this
  · obtain ⟨i, i1, i2, i3⟩ := z
    by_cases h1 : i < 10 * n
    · have := hp i (by omega)
      omega
    · by_cases h2 : i < 10 * n + 10
      · have : sk_lx (sk_row1 A n) (sk_row1 B n) 10 := by
          refine ⟨i - 10 * n, by omega, ?_, fun j hj => ?_⟩
          · rw [row, row, show 10 * n + (i - 10 * n) = i by omega]; exact i2
          · rw [row, row]; exact i3 _ (by omega)
        have := e1.mpr this
        omega
      · exact all (by omega) (fun r hr => i3 r (by omega))
