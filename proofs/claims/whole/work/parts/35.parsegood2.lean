/-! ===== what the reader keeps: steps, blocks ===== -/
theorem sk_iv_10 {p : Nat} {I : sk_SI} (hp : sk_pg p) (h : sk_iv p I) (v : Int) (hv : I p 10 ≤ v ∧ v ≤ 200) : sk_gd p I (sk_uI I p 10 v) := by
  have o : ∀ c, c ≠ p → sk_uI I p 10 v c = I c := fun c hc => sk_uI_o hc
  have h29 : 29 ≠ p := by rcases hp with rfl | rfl <;> omega
  have h30 : 30 ≠ p := by rcases hp with rfl | rfl <;> omega
  have h31 : 31 ≠ p := by rcases hp with rfl | rfl <;> omega
  have hf := sk_fp_pg p hp I p 10 v (by omega)
  obtain ⟨a1, a2, a3, a4, a5, a6⟩ := h
  refine ⟨⟨sk_tv_fp hp a1 hf (by rw [o 29 h29]; exact a1.2.2.2), ?_, ?_, ?_, ?_, ?_⟩, hf, ?_, ?_⟩
  · rw [o 29 h29, o 30 h30]; exact a2
  · rw [o 30 h30, o 31 h31]; exact a3
  · rw [sk_uI_s, sk_up_s]; omega
  · rw [sk_uI_s, sk_up_o (by decide)]; exact a5
  · rw [sk_uI_s, sk_up_o (by decide)]; exact a6
  · rw [sk_uI_s, sk_up_s]; omega
  · rw [sk_uI_s, sk_up_o (by decide)]
theorem sk_iv_11 {p : Nat} {I : sk_SI} (hp : sk_pg p) (h : sk_iv p I) (v : Int) (hv : 0 ≤ v ∧ v ≤ 12) : sk_gd p I (sk_uI I p 11 v) := by
  have o : ∀ c, c ≠ p → sk_uI I p 11 v c = I c := fun c hc => sk_uI_o hc
  have h29 : 29 ≠ p := by rcases hp with rfl | rfl <;> omega
  have h30 : 30 ≠ p := by rcases hp with rfl | rfl <;> omega
  have h31 : 31 ≠ p := by rcases hp with rfl | rfl <;> omega
  have hf := sk_fp_pg p hp I p 11 v (by omega)
  obtain ⟨a1, a2, a3, a4, a5, a6⟩ := h
  refine ⟨⟨sk_tv_fp hp a1 hf (by rw [o 29 h29]; exact a1.2.2.2), ?_, ?_, ?_, ?_, ?_⟩, hf, ?_, ?_⟩
  · rw [o 29 h29, o 30 h30]; exact a2
  · rw [o 30 h30, o 31 h31]; exact a3
  · rw [sk_uI_s, sk_up_o (by decide)]; exact a4
  · rw [sk_uI_s, sk_up_o (by decide)]; exact a5
  · rw [sk_uI_s, sk_up_s]; exact hv
  · rw [sk_uI_s, sk_up_o (by decide)]; exact Int.le_refl _
  · rw [sk_uI_s, sk_up_o (by decide)]
theorem sk_gd_as {p : Nat} {I : sk_SI} (hp : sk_pg p) (h : sk_iv p I) (hs : I p 10 < 200) (w : Int) : sk_gd p I (sk_asI p w I) ∧ sk_asI p w I p 10 = I p 10 + 1 := by
  have g1 := sk_gd_row hp h (p + 3) (I p 10) w (by omega)
  have g2 := sk_gd_tr g1 (sk_gd_row hp g1.1 (p + 4) (I p 10) (I p 9 - 1) (by omega))
  have g3 := sk_gd_tr g2 (sk_gd_row hp g2.1 (p + 5) (I p 10) (-1) (by omega))
  have g4 := sk_gd_tr g3 (sk_gd_row hp g3.1 (p + 6) (I p 10) (-1) (by omega))
  have g5 := sk_gd_tr g4 (sk_gd_row hp g4.1 (p + 7) (I p 10) (-1) (by omega))
  have g6 := sk_gd_tr g5 (sk_gd_row hp g5.1 (p + 8) (I p 10) (-1) (by omega))
  have g7 := sk_gd_tr g6 (sk_gd_row hp g6.1 (p + 9) (I p 10) (-1) (by omega))
  have e : sk_uI (sk_uI (sk_uI (sk_uI (sk_uI (sk_uI (sk_uI I (p + 3) (I p 10) w) (p + 4) (I p 10) (I p 9 - 1)) (p + 5) (I p 10) (-1)) (p + 6) (I p 10) (-1)) (p + 7) (I p 10) (-1)) (p + 8) (I p 10) (-1)) (p + 9) (I p 10) (-1) p = I p := by
    rw [sk_uI_o (by omega), sk_uI_o (by omega), sk_uI_o (by omega), sk_uI_o (by omega), sk_uI_o (by omega), sk_uI_o (by omega), sk_uI_o (by omega)]
  refine ⟨sk_gd_tr g7 (sk_iv_10 hp g7.1 (I p 10 + 1) (by rw [e]; omega)), ?_⟩
  unfold sk_asI
  rw [sk_uI_s, sk_up_s]
theorem sk_gd_st {p : Nat} {bl : sk_SI → sk_PR} (hp : sk_pg p) (hbl : ∀ I x, sk_iv p I → bl I = .inr x → sk_gd p I x.2) {I : sk_SI} (h : sk_iv p I) {x : Int × sk_SI} (hx : sk_stI bl p I = .inr x) : sk_gd p I x.2 ∧ x.1 = I p 10 ∧ x.1 < x.2 p 10 := by
  unfold sk_stI at hx
  split at hx
  · cases hx
  · split at hx
    · cases hx
    · rename_i h12 h200
      split at hx
      · cases hx
      · rename_i y hy
        split at hx
        · cases hx
        · rename_i z hz
          cases hx
          have g1 := sk_gd_as hp h (by omega) (sk_tok I (I 29 3))
          have e3 : sk_asI p (sk_tok I (I 29 3)) I 29 3 = I 29 3 := by
            unfold sk_asI
            have : (29 : Nat) ≠ p ∧ 29 ≠ p + 9 ∧ 29 ≠ p + 8 ∧ 29 ≠ p + 7 ∧ 29 ≠ p + 6 ∧ 29 ≠ p + 5 ∧ 29 ≠ p + 4 ∧ 29 ≠ p + 3 := by rcases hp with rfl | rfl <;> omega
            rw [sk_uI_o this.1, sk_uI_o this.2.1, sk_uI_o this.2.2.1, sk_uI_o this.2.2.2.1, sk_uI_o this.2.2.2.2.1, sk_uI_o this.2.2.2.2.2.1, sk_uI_o this.2.2.2.2.2.2.1, sk_uI_o this.2.2.2.2.2.2.2]
          have g2 := sk_gd_adv hp g1.1.1 (by rw [e3, sk_tok_fp hp g1.1.2.1]; omega)
          rw [e3] at g2
          have g3 := sk_gd_rn hp g2.1 hy
          have g4 := sk_gd_rr hp hbl g3.1 hz
          refine ⟨sk_gd_tr g1.1 (sk_gd_tr g2 (sk_gd_tr g3 g4)), rfl, ?_⟩
          have q1 := g2.2.2.1
          have q2 := g3.2.2.1
          have q3 := g4.2.2.1
          have q4 := g1.2
          show I p 10 < z.2 p 10
          omega
theorem sk_gd_lp {p : Nat} {ps : sk_SI → sk_PR} (hp : sk_pg p) (hps : ∀ I x, sk_iv p I → ps I = .inr x → sk_gd p I x.2 ∧ x.1 = I p 10 ∧ x.1 < x.2 p 10) : ∀ (m : Nat) (f la : Int) (I : sk_SI) (x : Int × sk_SI), sk_iv p I → -1 ≤ f ∧ f < I p 10 → sk_lpI ps p m f la I = .inr x → sk_gd p I x.2 ∧ -1 ≤ x.1 ∧ x.1 < x.2 p 10
  | 0, f, la, I, x, h, hf, hx => by
    unfold sk_lpI at hx
    split at hx
    · cases hx
    · rename_i y hy
      cases hx
      have g := sk_gd_tk hp h (by decide) hy
      have := g.2.2.1
      exact ⟨g, hf.1, by show f < y.2 p 10; omega⟩
  | m + 1, f, la, I, x, h, hf, hx => by
    unfold sk_lpI at hx
    split at hx
    · rename_i ht
      cases hx
      have g := sk_gd_adv hp h (by rw [ht]; decide)
      have := g.2.2.1
      exact ⟨g, hf.1, by show f < sk_uI I 29 3 (I 29 3 + 1) p 10; omega⟩
    · split at hx
      · cases hx
      · rename_i y hy
        obtain ⟨g, e1, e2⟩ := hps I y h hy
        have g0 := g.2.2.1
        have h10 := h.2.2.2.1
        split at hx
        · have g2 := sk_gd_row hp g.1 (p + 7) la y.1 (by omega)
          have g3 := g2.2.2.1
          obtain ⟨r1, r2, r3⟩ := sk_gd_lp hp hps m f y.1 _ x g2.1 ⟨hf.1, by omega⟩ hx
          exact ⟨sk_gd_tr g (sk_gd_tr g2 r1), r2, r3⟩
        · obtain ⟨r1, r2, r3⟩ := sk_gd_lp hp hps m y.1 y.1 _ x g.1 ⟨by omega, e2⟩ hx
          exact ⟨sk_gd_tr g r1, r2, r3⟩
theorem sk_gd_bl {p : Nat} (hp : sk_pg p) : ∀ (k : Nat), k ≤ 12 → ∀ (I : sk_SI) (x : Int × sk_SI), sk_iv p I → sk_blI p k I = .inr x → sk_gd p I x.2 ∧ -1 ≤ x.1 ∧ x.1 < x.2 p 10
  | 0, _, I, x, h, hx => by
    unfold sk_blI at hx
    split at hx <;> cases hx
  | k + 1, hk, I, x, h, hx => by
    unfold sk_blI at hx
    split at hx
    · cases hx
    · rename_i y hy
      have g1 := sk_gd_tk hp h (by decide) hy
      have h11 := g1.1.2.2.2.2.2
      have g2 := sk_iv_11 hp g1.1 (max (y.2 p 11) (12 - k)) (by omega)
      have h10 := g2.1.2.2.2.1
      obtain ⟨r1, r2, r3⟩ := sk_gd_lp hp (fun J z hJ hz => sk_gd_st hp (fun A u hA hu => (sk_gd_bl hp k (by omega) A u hA hu).1) hJ hz) 201 (-1) (-1) _ x g2.1 ⟨Int.le_refl _, by omega⟩ hx
      exact ⟨sk_gd_tr g1 (sk_gd_tr g2 r1), r2, r3⟩
