/-! ===== longs compare as their rows ===== -/
theorem sk_lc {A B : Int → Int} (hA : sk_t1 A) (hB : sk_t1 B) : ((lg_cmp (sk_lg A) (sk_lg B)).toInt = 0 ↔ ∀ j : Nat, j < 10 → A j = B j) ∧ ((lg_cmp (sk_lg A) (sk_lg B)).toInt < 0 ↔ sk_lx A B 10) ∧ (-1 ≤ (lg_cmp (sk_lg A) (sk_lg B)).toInt ∧ (lg_cmp (sk_lg A) (sk_lg B)).toInt ≤ 1) := by
  have a := sk_lg_nat hA
  have b := sk_lg_nat hB
  have eq := sk_hv_eq (A := A) (B := B) 10 (fun l h => hA l (by omega) (by omega)) (fun l h => hB l (by omega) (by omega))
  have lt := sk_hv_lx (A := A) (B := B) 10 (fun l h => hA l (by omega) (by omega)) (fun l h => hB l (by omega) (by omega))
  unfold lg_cmp
  by_cases h1 : sk_lg A > sk_lg B
  · rw [if_pos h1]
    have h1' := Int64.lt_iff_toInt_lt.mp h1
    rw [a, b] at h1'
    refine ⟨⟨fun z => absurd z (by decide), fun z => ?_⟩, ⟨fun z => absurd z (by decide), fun z => ?_⟩, by decide, by decide⟩
    · have := eq.mpr z; omega
    · have := lt.mpr z; omega
  · rw [if_neg h1]
    by_cases h2 : sk_lg A = sk_lg B
    · rw [if_pos h2]
      have h2' : (sk_hv A 10 : Int) = sk_hv B 10 := by rw [← a, ← b, h2]
      refine ⟨⟨fun _ => eq.mp (by omega), fun _ => by decide⟩, ⟨fun z => absurd z (by decide), fun z => ?_⟩, by decide, by decide⟩
      have := lt.mpr z; omega
    · rw [if_neg h2]
      have h3 : sk_hv A 10 < sk_hv B 10 := by
        apply Classical.byContradiction
        intro z
        by_cases e : sk_hv A 10 = sk_hv B 10
        · exact h2 (by unfold sk_lg; rw [e])
        · exact h1 (Int64.lt_iff_toInt_lt.mpr (by rw [a, b]; omega))
      refine ⟨⟨fun z => absurd z (by decide), fun z => ?_⟩, ⟨fun _ => lt.mp h3, fun _ => by decide⟩, by decide, by decide⟩
      have := eq.mpr z; omega
