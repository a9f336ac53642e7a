/-! ===== the order of pairs ===== -/
theorem sk_lx_irr {A : sk_Tb} {n : Nat} : ¬ sk_lx A A n := fun ⟨_, _, h, _⟩ => by omega
theorem sk_lx_tr {A B C : sk_Tb} {n : Nat} (h1 : sk_lx A B n) (h2 : sk_lx B C n) : sk_lx A C n := by
  obtain ⟨i, i1, i2, i3⟩ := h1
  obtain ⟨j, j1, j2, j3⟩ := h2
  by_cases hij : i < j
  · refine ⟨i, i1, ?_, fun k hk => ?_⟩
    · have := j3 i hij; omega
    · have := i3 k hk
      have := j3 k (by omega)
      omega
  · by_cases e : i = j
    · subst e
      refine ⟨i, i1, by omega, fun k hk => ?_⟩
      have := i3 k hk
      have := j3 k hk
      omega
    · refine ⟨j, j1, ?_, fun k hk => ?_⟩
      · have := i3 j (by omega); omega
      · have := i3 k (by omega)
        have := j3 k hk
        omega
theorem sk_lx_tri (A B : sk_Tb) : ∀ n : Nat, sk_pe A B n ∨ sk_lx A B n ∨ sk_lx B A n
  | 0 => Or.inl (fun r hr => by omega)
  | n + 1 => by
    rcases sk_lx_tri A B n with h | ⟨k, k1, k2, k3⟩ | ⟨k, k1, k2, k3⟩
    · by_cases e : A n = B n
      · refine Or.inl (fun r hr => ?_)
        by_cases er : r = n
        · subst er; exact e
        · exact h r (by omega)
      · by_cases lt : A n < B n
        · exact Or.inr (Or.inl ⟨n, by omega, lt, fun j hj => h j (by omega)⟩)
        · exact Or.inr (Or.inr ⟨n, by omega, by omega, fun j hj => (h j (by omega)).symm⟩)
    · exact Or.inr (Or.inl ⟨k, by omega, k2, k3⟩)
    · exact Or.inr (Or.inr ⟨k, by omega, k2, k3⟩)
/-- one pair lies ahead of another -/
def sk_ah (m : Int) (A : sk_Tb) (m' : Int) (B : sk_Tb) : Prop := m < m' ∨ (m = m' ∧ sk_lx A B 80)
theorem sk_ah_irr {m : Int} {A : sk_Tb} : ¬ sk_ah m A m A := fun h => h.elim (fun z => by omega) (fun z => sk_lx_irr z.2)
theorem sk_ah_tr {m m' m2 : Int} {A B C : sk_Tb} (h1 : sk_ah m A m' B) (h2 : sk_ah m' B m2 C) : sk_ah m A m2 C := by
  rcases h1 with h1 | h1
  · rcases h2 with h2 | h2
    · exact Or.inl (by omega)
    · exact Or.inl (by omega)
  · rcases h2 with h2 | h2
    · exact Or.inl (by omega)
    · exact Or.inr ⟨h1.1.trans h2.1, sk_lx_tr h1.2 h2.2⟩
theorem sk_ah_tri (m : Int) (A : sk_Tb) (m' : Int) (B : sk_Tb) : (m = m' ∧ sk_pe A B 80) ∨ sk_ah m A m' B ∨ sk_ah m' B m A := by
  by_cases e : m = m'
  · rcases sk_lx_tri A B 80 with h | h | h
    · exact Or.inl ⟨e, h⟩
    · exact Or.inr (Or.inl (Or.inr ⟨e, h⟩))
    · exact Or.inr (Or.inr (Or.inr ⟨e.symm, h⟩))
  · by_cases lt : m < m'
    · exact Or.inr (Or.inl (Or.inl lt))
    · exact Or.inr (Or.inr (Or.inl (by omega)))
