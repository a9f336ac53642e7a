/-! ===== Foresight.come ===== -/
section SKF7
variable {l : Launch} {E : sk_En} {d : Nat} {I : sk_SI} {cu sp io rp tp p : Nat} {Q : Option sk_V → List sk_Sh → sk_St → Prop} {TT : Int → sk_Tb}
theorem sf_pr_L {L L' : sk_SL} (h : sf_pr p I L TT) (e : L' 50 = L 50) : sf_pr p I L' TT := by
  unfold sf_pr
  rw [e]
  exact h
theorem c_F_come (hp : sk_pg p) (hr : sk_ru I) (L : sk_SL) (m dp : Int) (hd : 0 ≤ dp ∧ dp ≤ 11) (h9 : 0 ≤ I p 9 ∧ I p 9 ≤ 20) (hm : 0 ≤ m ∧ m < I p 9) (T : sk_Tb) (hT : sk_t8 T) (hL : sk_ht (L 56) (dp * 8) T) (ho : 0 ≤ I (p + 1) m ∧ I (p + 1) m ≤ 7) (hP : sf_pr p I L TT) (hO : sf_od I TT) (hq : ∀ L', sk_ht (L' 56) ((dp + 1) * 8) (sk_cT p I m T) → sk_lfr ((dp + 1) * 8) L L' → (∀ q, 0 ≤ q → q < I 48 12 → I 49 q = m → TT q = sk_cT p I m T → Q (some (vi q)) sk_G (I, L', sk_J cu sp io rp tp p)) ∧ ((∀ q, 0 ≤ q → q < I 48 12 → ¬ (I 49 q = m ∧ TT q = sk_cT p I m T)) → (I 48 12 = 300 → Q (some (vi (-1))) sk_G (sk_uI I 48 14 1, L', sk_J cu sp io rp tp p)) ∧ (I 48 12 < 300 → ∀ pl, 0 ≤ pl ∧ pl ≤ I 48 12 → (∀ i, 0 ≤ i → i < pl → sk_ah (I 49 (I 54 i)) (TT (I 54 i)) m (sk_cT p I m T)) → (∀ i, pl ≤ i → i < I 48 12 → ¬ sk_ah (I 49 (I 54 i)) (TT (I 54 i)) m (sk_cT p I m T)) → Q (some (vi (I 48 12))) sk_G (sf_iI m pl I, sf_iL (dp + 1) (I 48 12) L', sk_J cu sp io rp tp p)))) : AW l E (d + 3) 0 0 mX0_come 0 [some (vr 48), some (vi m), some (vi dp), none, none] [] sk_G (I, L, sk_J cu sp io rp tp p) Q := by
  have hB8 := sk_cT_8 (p := p) (I := I) (m := m) hT ho
  have hBc := sf_cn_cT p I m T
  have n0 := hP.1
  refine c_F_come_r (d := d + 1) hp hr L m dp hd h9 hm T hT hL ho (fun L' g1 g2 => ?_)
  have P' := sf_pr_L hP (g2.1 50 (by decide))
  obtain ⟨q1, q2⟩ := hq L' g1 g2
  clear hq g2 hL hT
  generalize hB : sk_cT p I m T = B at *
  refine AW_cV (M' := mX0_placeInOrder) rfl kkX0_183 lcX0_placeInOrder rfl rfl rfl rfl rfl rfl (Nat.le_refl _) ?_
  refine c_F_place (by omega) P' hO m (dp + 1) (by omega) (by omega) B hB8 g1 (fun v v0 v1 v2 v3 => ?_)
  have nf : (v < I 48 12 → ¬ (I 49 (I 54 v) = m ∧ sk_pe (TT (I 54 v)) B 80)) → ∀ q, 0 ≤ q → q < I 48 12 → ¬ (I 49 q = m ∧ TT q = B) := by
    intro hne q q0 q1 z
    obtain ⟨i, i0, i1, i2⟩ := hO.2.2 q q0 q1
    by_cases a : i < v
    · have := v2 i i0 a
      rw [i2, z.1, z.2] at this
      exact sk_ah_irr this
    · by_cases b : i = v
      · subst b
        rw [i2] at hne
        exact hne i1 ⟨z.1, fun r hr => by rw [z.2]⟩
      · have := hO.2.1 v i v0 (by omega) i1
        rw [i2, z.1, z.2] at this
        exact v3 v (Int.le_refl v) (by omega) this
  have tail : (v < I 48 12 → ¬ (I 49 (I 54 v) = m ∧ sk_pe (TT (I 54 v)) B 80)) → AW l E (d + 3) 0 0 mX0_come 101 [some (vr 48), some (vi m), some (vi dp), some (vi (I (p + 1) m)), some (vi v)] [] sk_G (I, L', sk_J cu sp io rp tp p) Q := by
    intro hne
    obtain ⟨t1, t2⟩ := q2 (nf hne)
    refine AW_run 80 rfl ?_
    refine AW_iclt rfl (fun g => ?_) (fun g => ?_) (by unfold sk_in; omega) (by unfold sk_in; omega)
    · have t2 := t2 g v ⟨v0, v1⟩ v2 v3
      refine AW_run 80 rfl ?_
      refine AW_cV (M' := mX0_insert) rfl kkX0_190 lcX0_insert rfl rfl rfl rfl rfl rfl (Nat.le_refl _) ?_
      refine c_F_insert m (dp + 1) v (by omega) ⟨v0, v1⟩ (by omega) (by omega) ?_
      refine AW_run 80 rfl ?_
      exact AW_iret rfl rfl t2
    · have t1 := t1 (by omega)
      refine AW_run 80 rfl ?_
      refine AW_putZ rfl rfl (Or.inr rfl) ?_
      refine AW_run 80 rfl ?_
      exact AW_iret rfl rfl t1
  refine AW_run 80 rfl ?_
  refine AW_within rfl kkX0_103 rfl (by omega) (fun w1 w2 => ?_) (fun w3 => ?_)
  · have ov := hO.1 v w1 w2
    obtain ⟨a1, a2, a3, a4, -⟩ := P'.2 (I 54 v) ov.1 ov.2
    refine AW_run 80 rfl ?_
    first | refine AW_e1 rfl ?_ | refine AW_e0 rfl ?_ | refine AW_n1 rfl ?_ | refine AW_n0 rfl ?_
    refine AW_run 80 rfl ?_
    refine AW_iald rfl rfl ⟨by omega, by omega⟩ (by decide) ?_
    refine AW_run 80 rfl ?_
    refine AW_cV (M' := mX0_compare) rfl kkX0_186 lcX0_compare rfl rfl rfl rfl rfl rfl (Nat.le_refl _) ?_
    refine c_F_cmp (I 54 v) m (dp + 1) (by omega) (by omega) (by omega) (by omega) (TT (I 54 v)) B a2 hB8 a4 g1 (fun c c0 c1 c2 => ?_)
    refine AW_run 80 rfl ?_
    refine AW_ifne rfl (fun g => ?_) (fun g => ?_) c2
    · exact tail (fun _ z => g (c0.mpr z))
    · have z := c0.mp g
      have q1 := q1 (I 54 v) ov.1 ov.2 z.1 (sf_cn_eq a3 hBc z.2)
      refine AW_run 80 rfl ?_
      refine AW_iald rfl rfl ⟨by omega, by omega⟩ (by decide) ?_
      refine AW_run 80 rfl ?_
      exact AW_iret rfl rfl q1
  · have tail := tail (fun z => by omega)
    refine AW_run 80 rfl ?_
    first | refine AW_e1 rfl ?_ | refine AW_e0 rfl ?_ | refine AW_n1 rfl ?_ | refine AW_n0 rfl ?_
    exact tail
end SKF7
