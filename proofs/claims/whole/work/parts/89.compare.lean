/-! ===== Foresight.compare ===== -/
section SKF4
variable {l : Launch} {E : sk_En} {d : Nat} {I : sk_SI} {L : sk_SL} {cu sp io rp tp p : Nat} {Q : Option sk_V → List sk_Sh → sk_St → Prop}
theorem c_F_cmp (q m dp : Int) (hq0 : 0 ≤ q ∧ q < 300) (hd : 0 ≤ dp ∧ dp ≤ 12) (hm : 0 ≤ m ∧ m < 20) (hmq : 0 ≤ I 49 q ∧ I 49 q < 20) (A B : sk_Tb) (hA : sk_t8 A) (hB : sk_t8 B) (hLA : sk_ht (L 50) (q * 8) A) (hLB : sk_ht (L 56) (dp * 8) B) (hq : ∀ v, (v = 0 ↔ (I 49 q = m ∧ sk_pe A B 80)) → (v < 0 ↔ (I 49 q < m ∨ (I 49 q = m ∧ sk_lx A B 80))) → sk_in v → Q (some (vi v)) sk_G (I, L, sk_J cu sp io rp tp p)) : AW l E d 0 0 mX0_compare 0 [some (vr 48), some (vi q), some (vi m), some (vi dp), none, none, none, none, none] [] sk_G (I, L, sk_J cu sp io rp tp p) Q := by
  have lp : I 49 q = m → ∀ (n : Nat) (k : Int), 0 ≤ k → k + n = 8 → sk_pe A B (10 * k) → AW l E d 0 0 mX0_compare 49 [some (vr 48), some (vi q), some (vi m), some (vi dp), some (vi k), none, none, none, none] [vi 8, vi k] sk_G (I, L, sk_J cu sp io rp tp p) Q := by
    intro em n
    induction n with
    | zero =>
      intro k k0 hk hp
      have : k = 8 := by omega
      subst this
      have hp : sk_pe A B 80 := hp
      have hq := hq 0 ⟨fun _ => ⟨em, hp⟩, fun _ => rfl⟩ ⟨fun z => by omega, fun z => by
        rcases z with z | ⟨-, i, i1, i2, i3⟩
        · omega
        · have := hp i (by omega)
          omega⟩ (by unfold sk_in; omega)
      refine AW_icge rfl (fun g => ?_) (fun g => by omega)
      refine AW_run 80 rfl ?_
      exact AW_iret rfl rfl hq
    | succ n ih =>
      intro k k0 hk hp
      have h8 : 0 ≤ k ∧ k < 8 := by omega
      have eA := hLA k h8.1 h8.2
      have eB := hLB k h8.1 h8.2
      obtain ⟨c0, c1, c2, c3⟩ := sk_cmp_row hA hB h8 hp
      obtain ⟨-, -, cb⟩ := sk_lc (sk_t8_1 hA h8) (sk_t8_1 hB h8)
      have ih2 := fun hp2 => ih (k + 1) (by omega) (by omega) hp2
      have ib : 0 ≤ q * 8 + k ∧ q * 8 + k < 2400 := by omega
      have ib2 : 0 ≤ dp * 8 + k ∧ dp * 8 + k < 104 := by omega
      refine AW_icge rfl (fun g => by omega) (fun g => ?_)
      refine AW_run 80 rfl ?_
      refine AW_lald rfl rfl ib (by decide) ?_
      rw [eA]
      refine AW_run 80 rfl ?_
      refine AW_lald rfl rfl ib2 (by decide) ?_
      rw [eB]
      refine AW_run 80 rfl ?_
      generalize hc : (lg_cmp (sk_lg (sk_row1 A k)) (sk_lg (sk_row1 B k))).toInt = c at *
      refine AW_ifeq rfl (fun g2 => ?_) (fun g2 => ?_) (by unfold sk_in; omega)
      · have ih2 := ih2 (c0 g2)
        refine AW_run 80 rfl ?_
        exact AW_lk ih2 ⟨rfl, rfl, rfl, rfl, rfl, trivial⟩
      · have ne := c1 g2
        refine AW_run 80 rfl ?_
        rw [hc]
        refine AW_ifge rfl (fun g3 => ?_) (fun g3 => ?_) (by unfold sk_in; omega)
        · have hq := hq 1 ⟨fun z => by omega, fun z => absurd z.2 ne⟩ ⟨fun z => by omega, fun z => by
            rcases z with z | z
            · omega
            · exact absurd z.2 (c3 (by omega))⟩ (by unfold sk_in; omega)
          refine AW_run 80 rfl ?_
          exact AW_iret rfl rfl hq
        · have hq := hq (-1) ⟨fun z => by omega, fun z => absurd z.2 ne⟩ ⟨fun _ => Or.inr ⟨em, c2 (by omega)⟩, fun _ => by omega⟩ (by unfold sk_in; omega)
          refine AW_run 80 rfl ?_
          exact AW_iret rfl rfl hq
  refine AW_run 80 rfl ?_
  refine AW_iflt rfl (fun g => by omega) (fun g => ?_) (by unfold sk_in; omega)
  refine AW_run 80 rfl ?_
  refine AW_icge rfl (fun g => by omega) (fun g => ?_) (by unfold sk_in; omega)
  refine AW_run 80 rfl ?_
  refine AW_iflt rfl (fun g => by omega) (fun g => ?_) (by unfold sk_in; omega)
  refine AW_run 80 rfl ?_
  refine AW_icle rfl (fun g => ?_) (fun g => by omega) (by unfold sk_in; omega)
  refine AW_run 80 rfl ?_
  refine AW_iald rfl rfl ⟨by omega, by omega⟩ (by decide) ?_
  refine AW_run 80 rfl ?_
  refine AW_iceq rfl (fun g => ?_) (fun g => ?_) (by unfold sk_in; omega) (by unfold sk_in; omega)
  · have lp := lp g 8 0 (by omega) (by omega) (fun r hr => by omega)
    refine AW_run 80 rfl ?_
    exact lp
  · have hq := hq (I 49 q - m) ⟨fun z => by omega, fun z => absurd z.1 g⟩ ⟨fun z => Or.inl (by omega), fun z => by
      rcases z with z | z
      · omega
      · exact absurd z.1 g⟩ (by unfold sk_in; omega)
    refine AW_run 80 rfl ?_
    refine AW_iald rfl rfl ⟨by omega, by omega⟩ (by decide) ?_
    refine AW_run 80 rfl ?_
    exact AW_iret rfl rfl hq
end SKF4
