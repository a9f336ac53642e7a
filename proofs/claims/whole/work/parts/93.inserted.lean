/-! ===== what holds of the pairs is kept as one is inserted ===== -/
def sf_ct (I : sk_SI) : Prop := ∀ m, 0 ≤ m → m < 20 → I 55 m = sk_sum (sk_eqc (I 49) m) (I 48 12).toNat
def sf_nT (TT : Int → sk_Tb) (n : Int) (B : sk_Tb) : Int → sk_Tb := fun q => if q = n then B else TT q
theorem sf_nT_s {TT : Int → sk_Tb} {n : Int} {B : sk_Tb} : sf_nT TT n B n = B := by unfold sf_nT; rw [if_pos rfl]
theorem sf_nT_o {TT : Int → sk_Tb} {n q : Int} {B : sk_Tb} (h : q ≠ n) : sf_nT TT n B q = TT q := by unfold sf_nT; rw [if_neg h]
theorem sk_sum_cg {f g : Int → Int} : ∀ n : Nat, (∀ i : Int, 0 ≤ i → i < n → f i = g i) → sk_sum f n = sk_sum g n
  | 0, _ => rfl
  | n + 1, h => by
    unfold sk_sum
    rw [sk_sum_cg n (fun i a b => h i a (by omega)), h n (by omega) (by omega)]
theorem sf_iI_48 (m pl : Int) (I : sk_SI) : sf_iI m pl I 48 12 = I 48 12 + 1 := by
  unfold sf_iI
  rw [sk_uI_s, sk_up_s]
theorem sf_iI_48o (m pl : Int) (I : sk_SI) {j : Int} (h : j ≠ 12) : sf_iI m pl I 48 j = I 48 j := by
  unfold sf_iI
  rw [sk_uI_s, sk_up_o h]
  simp only [sk_uI_o, sf_cI_o, ne_eq, Nat.reduceEqDiff, not_false_eq_true]
theorem sf_iI_49 (m pl : Int) (I : sk_SI) : sf_iI m pl I 49 = sk_up (I 49) (I 48 12) m := by
  unfold sf_iI
  simp only [sk_uI_s, sk_uI_o, sf_cI_o, ne_eq, Nat.reduceEqDiff, not_false_eq_true]
theorem sf_iI_51 (m pl : Int) (I : sk_SI) : sf_iI m pl I 51 = sk_up (I 51) (I 48 12) 0 := by
  unfold sf_iI
  simp only [sk_uI_s, sk_uI_o, sf_cI_o, ne_eq, Nat.reduceEqDiff, not_false_eq_true]
theorem sf_iI_52 (m pl : Int) (I : sk_SI) : sf_iI m pl I 52 = sk_up (I 52) (I 48 12) 1 := by
  unfold sf_iI
  simp only [sk_uI_s, sk_uI_o, sf_cI_o, ne_eq, Nat.reduceEqDiff, not_false_eq_true]
theorem sf_iI_54 (m pl : Int) (I : sk_SI) : sf_iI m pl I 54 = sk_up (sk_cp (I 54) (I 54) pl (pl + 1) (I 48 12 - pl)) pl (I 48 12) := by
  unfold sf_iI
  simp only [sk_uI_s, sk_uI_o, sf_cI_s, ne_eq, Nat.reduceEqDiff, not_false_eq_true]
theorem sf_iI_55 (m pl : Int) (I : sk_SI) : sf_iI m pl I 55 = sk_up (I 55) m (I 55 m + 1) := by
  unfold sf_iI
  simp only [sk_uI_s, sk_uI_o, sf_cI_o, ne_eq, Nat.reduceEqDiff, not_false_eq_true]
theorem sf_iI_o (m pl : Int) (I : sk_SI) {c : Nat} (h : c ≠ 48 ∧ c ≠ 49 ∧ c ≠ 51 ∧ c ≠ 52 ∧ c ≠ 54 ∧ c ≠ 55) : sf_iI m pl I c = I c := by
  unfold sf_iI
  rw [sk_uI_o h.1, sk_uI_o h.2.2.2.2.2, sk_uI_o h.2.2.2.1, sk_uI_o h.2.2.1, sk_uI_o h.2.1, sk_uI_o h.2.2.2.2.1, sf_cI_o h.2.2.2.2.1]
theorem sf_iI_at {m pl : Int} {I : sk_SI} {i : Int} (hpl : 0 ≤ pl ∧ pl ≤ I 48 12) (hi : 0 ≤ i ∧ i < I 48 12 + 1) : (i < pl ∧ sf_iI m pl I 54 i = I 54 i) ∨ (i = pl ∧ sf_iI m pl I 54 i = I 48 12) ∨ (pl < i ∧ sf_iI m pl I 54 i = I 54 (i - 1)) := by
  rw [sf_iI_54]
  by_cases e : i = pl
  · subst e
    exact Or.inr (Or.inl ⟨rfl, sk_up_s⟩)
  · rw [sk_up_o e]
    unfold sk_cp
    by_cases g : i < pl
    · rw [if_neg (by omega)]
      exact Or.inl ⟨g, rfl⟩
    · rw [if_pos (by omega), show pl + (i - (pl + 1)) = i - 1 by omega]
      exact Or.inr (Or.inr ⟨by omega, rfl⟩)
theorem sf_ins_od {p : Nat} {I : sk_SI} {L : sk_SL} {TT : Int → sk_Tb} {m pl : Int} {B : sk_Tb} (hP : sf_pr p I L TT) (hO : sf_od I TT) (hpl : 0 ≤ pl ∧ pl ≤ I 48 12) (hB : sf_cn B) (h1 : ∀ i, 0 ≤ i → i < pl → sk_ah (I 49 (I 54 i)) (TT (I 54 i)) m B) (h2 : ∀ i, pl ≤ i → i < I 48 12 → ¬ sk_ah (I 49 (I 54 i)) (TT (I 54 i)) m B) (h3 : ∀ q, 0 ≤ q → q < I 48 12 → ¬ (I 49 q = m ∧ TT q = B)) : sf_od (sf_iI m pl I) (sf_nT TT (I 48 12) B) := by
  have n0 := hP.1
  have low : ∀ q, q < I 48 12 → sf_iI m pl I 49 q = I 49 q ∧ sf_nT TT (I 48 12) B q = TT q := fun q hq => ⟨by rw [sf_iI_49, sk_up_o (by omega)], sf_nT_o (by omega)⟩
  have new : sf_iI m pl I 49 (I 48 12) = m ∧ sf_nT TT (I 48 12) B (I 48 12) = B := ⟨by rw [sf_iI_49, sk_up_s], sf_nT_s⟩
  have h2' : ∀ i, pl ≤ i → i < I 48 12 → sk_ah m B (I 49 (I 54 i)) (TT (I 54 i)) := by
    intro i i0 i1
    have o := hO.1 i (by omega) i1
    rcases sk_ah_tri m B (I 49 (I 54 i)) (TT (I 54 i)) with z | z | z
    · exact absurd ⟨z.1.symm, sf_cn_eq ((hP.2 _ o.1 o.2).2.2.1) hB (fun r hr => (z.2 r hr).symm)⟩ (h3 _ o.1 o.2)
    · exact z
    · exact absurd z (h2 i i0 i1)
  unfold sf_od
  rw [sf_iI_48]
  refine ⟨fun i i0 i1 => ?_, fun i j i0 ij j1 => ?_, fun q q0 q1 => ?_⟩
  · rcases sf_iI_at (m := m) hpl ⟨i0, i1⟩ with ⟨g, e⟩ | ⟨g, e⟩ | ⟨g, e⟩
    · rw [e]
      have := hO.1 i i0 (by omega)
      omega
    · rw [e]; omega
    · rw [e]
      have := hO.1 (i - 1) (by omega) (by omega)
      omega
  · rcases sf_iI_at (m := m) hpl (i := j) ⟨by omega, j1⟩ with ⟨g, e⟩ | ⟨g, e⟩ | ⟨g, e⟩
    · rcases sf_iI_at (m := m) hpl (i := i) ⟨by omega, by omega⟩ with ⟨g', e'⟩ | ⟨g', e'⟩ | ⟨g', e'⟩
      · have a := low _ (hO.1 i (by omega) (by omega)).2
        have b := low _ (hO.1 j (by omega) (by omega)).2
        rw [e, e', a.1, a.2, b.1, b.2]
        exact hO.2.1 i j i0 ij (by omega)
      · omega
      · omega
    · rcases sf_iI_at (m := m) hpl (i := i) ⟨by omega, by omega⟩ with ⟨g', e'⟩ | ⟨g', e'⟩ | ⟨g', e'⟩
      · have a := low _ (hO.1 i (by omega) (by omega)).2
        rw [e, e', a.1, a.2, new.1, new.2]
        exact h1 i i0 g'
      · omega
      · omega
    · have b := low _ (hO.1 (j - 1) (by omega) (by omega)).2
      rcases sf_iI_at (m := m) hpl (i := i) ⟨by omega, by omega⟩ with ⟨g', e'⟩ | ⟨g', e'⟩ | ⟨g', e'⟩
      · have a := low _ (hO.1 i (by omega) (by omega)).2
        rw [e, e', a.1, a.2, b.1, b.2]
        exact hO.2.1 i (j - 1) i0 (by omega) (by omega)
      · rw [e, e', new.1, new.2, b.1, b.2]
        exact h2' (j - 1) (by omega) (by omega)
      · have a := low _ (hO.1 (i - 1) (by omega) (by omega)).2
        rw [e, e', a.1, a.2, b.1, b.2]
        exact hO.2.1 (i - 1) (j - 1) (by omega) (by omega) (by omega)
  · by_cases e : q = I 48 12
    · subst e
      refine ⟨pl, by omega, by omega, ?_⟩
      rw [sf_iI_54, sk_up_s]
    · obtain ⟨i, i0, i1, i2⟩ := hO.2.2 q q0 (by omega)
      by_cases g : i < pl
      · refine ⟨i, i0, by omega, ?_⟩
        rcases sf_iI_at (m := m) hpl (i := i) ⟨i0, by omega⟩ with ⟨g', e'⟩ | ⟨g', e'⟩ | ⟨g', e'⟩
        · rw [e', i2]
        · omega
        · omega
      · refine ⟨i + 1, by omega, by omega, ?_⟩
        rcases sf_iI_at (m := m) hpl (i := i + 1) ⟨by omega, by omega⟩ with ⟨g', e'⟩ | ⟨g', e'⟩ | ⟨g', e'⟩
        · omega
        · omega
        · rw [e', show i + 1 - 1 = i by omega, i2]
theorem sf_ins_pr {p : Nat} (hp : sk_pg p) {I : sk_SI} {L : sk_SL} {TT : Int → sk_Tb} {m pl dp : Int} {B : sk_Tb} (hP : sf_pr p I L TT) (hn : I 48 12 < 300) (hm : 0 ≤ m ∧ m < I p 9) (hB8 : sk_t8 B) (hB : sf_cn B) (hL : sk_ht (L 56) (dp * 8) B) : sf_pr p (sf_iI m pl I) (sf_iL dp (I 48 12) L) (sf_nT TT (I 48 12) B) := by
  have n0 := hP.1
  have ep : sf_iI m pl I p = I p := sf_iI_o m pl I (by rcases hp with rfl | rfl <;> decide)
  have e50 : sf_iL dp (I 48 12) L 50 = sk_cp (L 56) (L 50) (dp * 8) (I 48 12 * 8) 8 := by
    unfold sf_iL
    rw [sf_fL_o (by decide)]
    unfold sk_cL
    rw [if_pos rfl]
  unfold sf_pr
  rw [sf_iI_48, ep, sf_iI_49, sf_iI_51, sf_iI_52, e50]
  refine ⟨by omega, fun q q0 q1 => ?_⟩
  by_cases e : q = I 48 12
  · subst e
    rw [sk_up_s, sk_up_s, sk_up_s, sf_nT_s]
    refine ⟨hm, hB8, hB, fun k k0 k1 => ?_, by omega, Or.inr rfl⟩
    unfold sk_cp
    rw [if_pos (by omega), show dp * 8 + (I 48 12 * 8 + k - I 48 12 * 8) = dp * 8 + k by omega]
    exact hL k k0 k1
  · rw [sk_up_o e, sk_up_o e, sk_up_o e, sf_nT_o e]
    obtain ⟨a1, a2, a3, a4, a5, a6⟩ := hP.2 q q0 (by omega)
    refine ⟨a1, a2, a3, fun k k0 k1 => ?_, a5, a6⟩
    unfold sk_cp
    rw [if_neg (by omega)]
    exact a4 k k0 k1
theorem sf_ins_ct {I : sk_SI} {m pl : Int} (hn : 0 ≤ I 48 12) (h : sf_ct I) : sf_ct (sf_iI m pl I) := by
  intro a a0 a1
  have ha := h a a0 a1
  rw [sf_iI_48, sf_iI_49, sf_iI_55, sk_sum_s _ hn]
  have e : sk_sum (sk_eqc (sk_up (I 49) (I 48 12) m) a) (I 48 12).toNat = sk_sum (sk_eqc (I 49) a) (I 48 12).toNat := sk_sum_cg _ (fun i i0 i1 => by
    unfold sk_eqc
    rw [sk_up_o (by omega)])
  have e2 : sk_eqc (sk_up (I 49) (I 48 12) m) a (I 48 12) = if m = a then 1 else 0 := by
    unfold sk_eqc
    rw [sk_up_s]
  rw [e, e2, ← ha]
  by_cases g : m = a
  · subst g
    rw [sk_up_s, if_pos rfl]
  · rw [sk_up_o (fun z => g z.symm), if_neg g]
    omega
