/-! ===== what the reader keeps while it reads ===== -/
def sk_iv (p : Nat) (I : sk_SI) : Prop := sk_tv I ∧ I 29 3 < I 30 2 ∧ I 31 (I 30 2 - 1) = 20 ∧ (0 ≤ I p 10 ∧ I p 10 ≤ 200) ∧ (0 ≤ I p 9 ∧ I p 9 ≤ 20) ∧ 0 ≤ I p 11 ∧ I p 11 ≤ 12
def sk_gd (p : Nat) (I I' : sk_SI) : Prop := sk_iv p I' ∧ sk_fp p I I' ∧ I p 10 ≤ I' p 10 ∧ I' p 9 = I p 9
theorem sk_gd_tr {p : Nat} {I I1 I2 : sk_SI} (h1 : sk_gd p I I1) (h2 : sk_gd p I1 I2) : sk_gd p I I2 := ⟨h2.1, sk_fp_tr h1.2.1 h2.2.1, Int.le_trans h1.2.2.1 h2.2.2.1, h2.2.2.2.trans h1.2.2.2⟩
theorem sk_gd_rf {p : Nat} {I : sk_SI} (h : sk_iv p I) : sk_gd p I I := ⟨h, sk_fp_rf p I, Int.le_refl _, rfl⟩
/-- a store into a row of the program, or of the first numbers' tokens -/
theorem sk_gd_row {p : Nat} {I : sk_SI} (hp : sk_pg p) (h : sk_iv p I) (k : Nat) (j v : Int) (hk : k = 33 ∨ (p + 1 ≤ k ∧ k ≤ p + 9)) : sk_gd p I (sk_uI I k j v) := by
  have o : ∀ c, c = 29 ∨ c = 30 ∨ c = 31 ∨ c = p → sk_uI I k j v c = I c := fun c hc => sk_uI_o (by rcases hp with rfl | rfl <;> omega)
  have hf := sk_fp_pg p hp I k j v (by omega)
  obtain ⟨a1, a2, a3, a4, a5, a6⟩ := h
  refine ⟨⟨sk_tv_fp hp a1 hf (by rw [o 29 (by omega)]; exact a1.2.2.2), ?_, ?_, ?_, ?_, ?_⟩, hf, ?_, ?_⟩
  · rw [o 29 (by omega), o 30 (by omega)]; exact a2
  · rw [o 30 (by omega), o 31 (by omega)]; exact a3
  · rw [o p (by omega)]; exact a4
  · rw [o p (by omega)]; exact a5
  · rw [o p (by omega)]; exact a6
  · rw [o p (by omega)]; exact Int.le_refl _
  · rw [o p (by omega)]
/-- a token taken that isn't the end -/
theorem sk_gd_adv {p : Nat} {I : sk_SI} (hp : sk_pg p) (h : sk_iv p I) (ht : sk_tok I (I 29 3) ≠ 20) : sk_gd p I (sk_uI I 29 3 (I 29 3 + 1)) := by
  have o : ∀ c, c ≠ 29 → sk_uI I 29 3 (I 29 3 + 1) c = I c := fun c hc => sk_uI_o hc
  have hp29 : p ≠ 29 := by rcases hp with rfl | rfl <;> omega
  have e : sk_uI I 29 3 (I 29 3 + 1) 29 3 = I 29 3 + 1 := by rw [sk_uI_s, sk_up_s]
  have hf := sk_fp_29 p hp I 3 (I 29 3 + 1) (by omega)
  obtain ⟨a1, a2, a3, a4, a5, a6⟩ := h
  have hn := a1.2.2.2
  have hN := a1.2.1
  have hne : I 29 3 ≠ I 30 2 - 1 := by
    intro z
    apply ht
    unfold sk_tok
    rw [if_pos ⟨hn.1, a2⟩, z]
    exact a3
  refine ⟨⟨sk_tv_fp hp a1 hf (by rw [e]; omega), ?_, ?_, ?_, ?_, ?_⟩, hf, ?_, ?_⟩
  · rw [e, o 30 (by decide)]; omega
  · rw [o 30 (by decide), o 31 (by decide)]; exact a3
  · rw [o p hp29]; exact a4
  · rw [o p hp29]; exact a5
  · rw [o p hp29]; exact a6
  · rw [o p hp29]; exact Int.le_refl _
  · rw [o p hp29]
theorem sk_gd_tk {p : Nat} {I : sk_SI} (hp : sk_pg p) (h : sk_iv p I) {due : Int} (hd : due ≠ 20) {x : Int × sk_SI} (hx : sk_tkI due I = .inr x) : sk_gd p I x.2 := by
  unfold sk_tkI at hx
  split at hx
  · rename_i hc
    cases hx
    exact sk_gd_adv hp h (by rw [hc]; exact hd)
  · cases hx
theorem sk_gd_n1 {p : Nat} {I : sk_SI} (hp : sk_pg p) (h : sk_iv p I) {most : Int} (a : Nat) (ha : p + 1 ≤ a ∧ a ≤ p + 9) {s : Int} {x : Int × sk_SI} (hx : sk_n1I most a s I = .inr x) : sk_gd p I x.2 := by
  unfold sk_n1I at hx
  split at hx
  · cases hx; exact sk_gd_rf h
  · split at hx
    · cases hx
    · rename_i y hy
      cases hx
      obtain ⟨q1, q2, q3, q4⟩ := sk_nuI_r hy
      have g1 := sk_gd_adv hp h (by omega)
      rw [← q1] at g1
      exact sk_gd_tr g1 (sk_gd_row hp g1.1 a s y.1 (Or.inr ha))
theorem sk_gd_rn {p : Nat} {I : sk_SI} (hp : sk_pg p) (h : sk_iv p I) {s w : Int} {x : Int × sk_SI} (hx : sk_rnI p s w I = .inr x) : sk_gd p I x.2 := by
  unfold sk_rnI at hx
  have g0 := sk_gd_row hp h 33 s (I 29 3) (Or.inl rfl)
  split at hx
  · cases hx
  · rename_i y hy
    have g1 := sk_gd_n1 hp g0.1 (p + 5) (by omega) hy
    exact sk_gd_tr g0 (sk_gd_tr g1 (sk_gd_n1 hp g1.1 (p + 6) (by omega) hx))
theorem sk_gd_rr {p : Nat} {bl : sk_SI → sk_PR} (hp : sk_pg p) (hbl : ∀ I x, sk_iv p I → bl I = .inr x → sk_gd p I x.2) {I : sk_SI} (h : sk_iv p I) {s w : Int} {x : Int × sk_SI} (hx : sk_rrI bl p s w I = .inr x) : sk_gd p I x.2 := by
  unfold sk_rrI at hx
  split at hx
  · exact sk_gd_tk hp h (by decide) hx
  · split at hx
    · cases hx
    · rename_i y hy
      have g1 := hbl I y h hy
      have g2 := sk_gd_tr g1 (sk_gd_row hp g1.1 (p + 8) s y.1 (Or.inr (by omega)))
      split at hx
      · cases hx; exact g2
      · split at hx
        · cases hx
        · rename_i z hz
          have g3 := sk_gd_tr g2 (sk_gd_tk hp g2.1 (by split <;> decide) hz)
          split at hx
          · cases hx
          · rename_i u hu
            cases hx
            have g4 := sk_gd_tr g3 (hbl _ u g3.1 hu)
            exact sk_gd_tr g4 (sk_gd_row hp g4.1 (p + 9) s u.1 (Or.inr (by omega)))
