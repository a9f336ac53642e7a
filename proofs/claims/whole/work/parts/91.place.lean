/-! ===== Foresight.placeInOrder ===== -/
/-- a table says nothing outside its 80 rights -/
def sf_cn (T : sk_Tb) : Prop := ∀ r, ¬ (0 ≤ r ∧ r < 80) → T r = -1
theorem sf_cn_eq {A B : sk_Tb} (hA : sf_cn A) (hB : sf_cn B) (h : sk_pe A B 80) : A = B := by
  funext r
  by_cases hr : 0 ≤ r ∧ r < 80
  · obtain ⟨n, rfl⟩ := Int.eq_ofNat_of_zero_le hr.1
    exact h n hr.2
  · rw [hA r hr, hB r hr]
theorem sf_cn_cT (p : Nat) (C : sk_SI) (m : Int) (T : sk_Tb) : sf_cn (sk_cT p C m T) := fun r hr => by
  unfold sk_cT
  rw [if_neg hr]
theorem sf_cn_bT (p : Nat) (C : sk_SI) (s : Int) (T : sk_Tb) : sf_cn (sk_bT p C s T) := fun r hr => by
  unfold sk_bT
  rw [if_neg hr]
/-- the pairs that have come -/
def sf_pr (p : Nat) (I : sk_SI) (L : sk_SL) (TT : Int → sk_Tb) : Prop := (0 ≤ I 48 12 ∧ I 48 12 ≤ 300) ∧ ∀ q, 0 ≤ q → q < I 48 12 → (0 ≤ I 49 q ∧ I 49 q < I p 9) ∧ sk_t8 (TT q) ∧ sf_cn (TT q) ∧ sk_ht (L 50) (q * 8) (TT q) ∧ (0 ≤ I 51 q ∧ I 51 q ≤ 7) ∧ (I 52 q = 0 ∨ I 52 q = 1)
/-- and their order -/
def sf_od (I : sk_SI) (TT : Int → sk_Tb) : Prop := (∀ i, 0 ≤ i → i < I 48 12 → 0 ≤ I 54 i ∧ I 54 i < I 48 12) ∧ (∀ i j, 0 ≤ i → i < j → j < I 48 12 → sk_ah (I 49 (I 54 i)) (TT (I 54 i)) (I 49 (I 54 j)) (TT (I 54 j))) ∧ ∀ q, 0 ≤ q → q < I 48 12 → ∃ i, 0 ≤ i ∧ i < I 48 12 ∧ I 54 i = q
theorem sf_half : ∀ k, k < 601 → sk_ushr ((k : Nat) : Int) 1 = ((k / 2 : Nat) : Int) := by decide +kernel
theorem sf_mid {a b : Int} (ha : 0 ≤ a) (hab : a < b) (hb : b ≤ 300) : a ≤ sk_ushr (a + b) 1 ∧ sk_ushr (a + b) 1 < b := by
  have := sf_half (a + b).toNat (by omega)
  rw [show (((a + b).toNat : Nat) : Int) = a + b by omega] at this
  omega
section SKF5
variable {l : Launch} {E : sk_En} {d : Nat} {I : sk_SI} {L : sk_SL} {cu sp io rp tp p : Nat} {Q : Option sk_V → List sk_Sh → sk_St → Prop} {TT : Int → sk_Tb}
theorem c_F_place (h9 : I p 9 ≤ 20) (hP : sf_pr p I L TT) (hO : sf_od I TT) (m dp : Int) (hd : 0 ≤ dp ∧ dp ≤ 12) (hm : 0 ≤ m ∧ m < 20) (B : sk_Tb) (hB : sk_t8 B) (hLB : sk_ht (L 56) (dp * 8) B) (hq : ∀ v, 0 ≤ v → v ≤ I 48 12 → (∀ i, 0 ≤ i → i < v → sk_ah (I 49 (I 54 i)) (TT (I 54 i)) m B) → (∀ i, v ≤ i → i < I 48 12 → ¬ sk_ah (I 49 (I 54 i)) (TT (I 54 i)) m B) → Q (some (vi v)) sk_G (I, L, sk_J cu sp io rp tp p)) : AW l E (d + 1) 0 0 mX0_placeInOrder 0 [some (vr 48), some (vi m), some (vi dp), none, none, none, none] [] sk_G (I, L, sk_J cu sp io rp tp p) Q := by
  have n0 := hP.1
  have lp : ∀ (k : Nat) (i a b : Int), 0 ≤ i → i + (b - a) ≤ 300 → b - a = k → 0 ≤ a → a ≤ b → b ≤ I 48 12 → (∀ j, 0 ≤ j → j < a → sk_ah (I 49 (I 54 j)) (TT (I 54 j)) m B) → (∀ j, b ≤ j → j < I 48 12 → ¬ sk_ah (I 49 (I 54 j)) (TT (I 54 j)) m B) → AW l E (d + 1) 0 0 mX0_placeInOrder 16 [some (vr 48), some (vi m), some (vi dp), some (vi a), some (vi b), some (vi i), none] [vi 300, vi i] sk_G (I, L, sk_J cu sp io rp tp p) Q := by
    intro k
    induction k using Nat.strongRecOn with
    | ind k ih =>
      intro i a b i0 ib hk a0 ab bn h1 h2
      have fin : a = b → Q (some (vi a)) sk_G (I, L, sk_J cu sp io rp tp p) := fun e => hq a a0 (by omega) h1 (fun j j0 j1 => h2 j (by omega) j1)
      refine AW_icge rfl (fun g => ?_) (fun g => ?_) (by unfold sk_in; omega) (by unfold sk_in; omega)
      · have fin := fin (by omega)
        refine AW_run 80 rfl ?_
        exact AW_iret rfl rfl fin
      · refine AW_run 80 rfl ?_
        refine AW_icge rfl (fun g2 => ?_) (fun g2 => ?_) (by unfold sk_in; omega) (by unfold sk_in; omega)
        · have fin := fin (by omega)
          refine AW_run 80 rfl ?_
          exact AW_iret rfl rfl fin
        · clear fin
          have md := sf_mid a0 (show a < b by omega) (by omega)
          refine AW_run 80 rfl ?_
          generalize hM : sk_ushr (a + b) 1 = M at *
          have ov := hO.1 M (by omega) (by omega)
          obtain ⟨q1, q2, q3, q4, -⟩ := hP.2 (I 54 M) ov.1 ov.2
          have up : sk_ah (I 49 (I 54 M)) (TT (I 54 M)) m B → AW l E (d + 1) 0 0 mX0_placeInOrder 16 [some (vr 48), some (vi m), some (vi dp), some (vi (M + 1)), some (vi b), some (vi (i + 1)), none] [vi 300, vi (i + 1)] sk_G (I, L, sk_J cu sp io rp tp p) Q := fun z => ih (b - (M + 1)).toNat (by omega) (i + 1) (M + 1) b (by omega) (by omega) (by omega) (by omega) (by omega) bn (fun j j0 j1 => by
            by_cases e : j = M
            · subst e; exact z
            · exact sk_ah_tr (hO.2.1 j M j0 (by omega) (by omega)) z) h2
          have dn : ¬ sk_ah (I 49 (I 54 M)) (TT (I 54 M)) m B → AW l E (d + 1) 0 0 mX0_placeInOrder 16 [some (vr 48), some (vi m), some (vi dp), some (vi a), some (vi M), some (vi (i + 1)), none] [vi 300, vi (i + 1)] sk_G (I, L, sk_J cu sp io rp tp p) Q := fun z => ih (M - a).toNat (by omega) (i + 1) a M (by omega) (by omega) (by omega) (by omega) (by omega) (by omega) h1 (fun j j0 j1 y => by
            by_cases e : j = M
            · subst e; exact z y
            · exact z (sk_ah_tr (hO.2.1 M j (by omega) (by omega) j1) y))
          clear ih h1 h2
          refine AW_iald rfl rfl ⟨by omega, by omega⟩ (by decide) ?_
          refine AW_run 80 rfl ?_
          refine AW_cV (M' := mX0_compare) rfl kkX0_186 lcX0_compare rfl rfl rfl rfl rfl rfl (Nat.le_refl _) ?_
          refine c_F_cmp (I 54 M) m dp (by omega) hd hm (by omega) (TT (I 54 M)) B q2 hB q4 hLB (fun v v0 v1 v2 => ?_)
          refine AW_run 80 rfl ?_
          refine AW_ifge rfl (fun g3 => ?_) (fun g3 => ?_) v2
          · have dn := dn (fun z => by have := v1.mpr z; omega)
            refine AW_run 80 rfl ?_
            exact AW_lk dn ⟨rfl, rfl, rfl, rfl, rfl, rfl, trivial⟩
          · have up := up (v1.mp (by omega))
            refine AW_run 80 rfl ?_
            exact AW_lk up ⟨rfl, rfl, rfl, rfl, rfl, rfl, trivial⟩
  have lp := lp (I 48 12).toNat 0 0 (I 48 12) (by omega) (by omega) (by omega) (by omega) (by omega) (by omega) (fun j j0 j1 => by omega) (fun j j0 j1 => by omega)
  refine AW_run 80 rfl ?_
  exact lp
end SKF5
