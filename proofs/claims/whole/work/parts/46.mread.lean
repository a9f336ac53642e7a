/-! ===== the model's must and numberTo against the class's; all of it where a fault was found ===== -/
theorem sk_c2m_big {x : Int} (h : 100 ≤ x) : sk_c2m x = 20 := by
  unfold sk_c2m
  rw [if_neg (by omega), if_neg (by omega), if_neg (by omega), if_neg (by omega), if_neg (by omega), if_neg (by omega)]
def sk_du (a b : Int) : Prop := ∀ x : Int, 0 ≤ x → (x ≤ 20 ∨ 100 ≤ x) → (sk_c2m x = b ↔ x = a)
theorem sk_du_mk {a b : Int} (ha : a < 100) (hb : b ≠ 20) (h : ∀ n, n < 21 → (sk_c2m ((n : Nat) : Int) = b ↔ ((n : Nat) : Int) = a)) : sk_du a b := by
  intro x x0 hx
  rcases hx with hx | hx
  · obtain ⟨n, rfl⟩ := Int.eq_ofNat_of_zero_le x0
    exact h n (by omega)
  · rw [sk_c2m_big hx]
    constructor
    · intro z; exact absurd z.symm hb
    · intro z; omega
theorem sk_du_16 : sk_du 16 21 := sk_du_mk (by decide) (by decide) (by decide)
theorem sk_du_17 : sk_du 17 22 := sk_du_mk (by decide) (by decide) (by decide)
theorem sk_du_18 : sk_du 18 23 := sk_du_mk (by decide) (by decide) (by decide)
theorem sk_du_15 : sk_du 15 13 := sk_du_mk (by decide) (by decide) (by decide)
theorem sk_du_13 : sk_du 13 14 := sk_du_mk (by decide) (by decide) (by decide)
theorem sk_du_14 : sk_du 14 15 := sk_du_mk (by decide) (by decide) (by decide)
theorem sk_du_20 : sk_du 20 24 := sk_du_mk (by decide) (by decide) (by decide)
theorem sk_c2m_n {x : Int} (x0 : 0 ≤ x) (hx : x ≤ 20 ∨ 100 ≤ x) : sk_c2m x = 20 ↔ 100 ≤ x := by
  rcases hx with hx | hx
  · have tb : ∀ n, n < 21 → sk_c2m ((n : Nat) : Int) ≠ 20 := by decide
    obtain ⟨n, rfl⟩ := Int.eq_ofNat_of_zero_le x0
    have := tb n (by omega)
    constructor
    · intro z; exact absurd z this
    · intro z; omega
  · exact ⟨fun _ => hx, fun _ => sk_c2m_big hx⟩
theorem sk_c2m_w {x : Int} (x0 : 0 ≤ x) (hx : x ≤ 20 ∨ 100 ≤ x) : (x ≤ 12 → sk_c2m x = x) ∧ (12 < x → 12 < sk_c2m x) := by
  rcases hx with hx | hx
  · have tb : ∀ n, n < 21 → ((n : Nat) : Int) ≤ 12 → sk_c2m ((n : Nat) : Int) = n := by decide
    have tc : ∀ n, n < 21 → 12 < ((n : Nat) : Int) → 12 < sk_c2m ((n : Nat) : Int) := by decide
    obtain ⟨n, rfl⟩ := Int.eq_ofNat_of_zero_le x0
    exact ⟨tb n (by omega), tc n (by omega)⟩
  · rw [sk_c2m_big hx]
    exact ⟨fun z => by omega, fun z => by omega⟩
theorem sk_MF_wr {t : Int → Int} {n : Int} {p : Nat} {xs : Int} {C I : sk_SI} (hR : sk_MR t n p xs C I) (k : Int) (hk : 1 ≤ k ∧ k ≤ 5) : sk_MF C I (k, C 29 3) (sk_mwr I k) := by
  obtain ⟨h, hm, hP⟩ := hR
  obtain ⟨a1, a2, a3, a4, a5, a6⟩ := sk_MT_tok h hm
  have e66 := hP.1.2.1
  have h10 := h.2.2.2.1
  unfold sk_mwr
  rw [if_pos hm.2.1.2.2.2.1]
  refine ⟨sk_mfr_tr (sk_mfr_59 I 26 k (by omega)) (sk_mfr_59 _ 27 _ (by omega)), ?_, ?_, ?_, hk⟩
  · rw [sk_uI_s, sk_up_o (by decide), sk_uI_s, sk_up_s]
  · rw [sk_uI_s, sk_up_s]; exact a3
  · rw [sk_uI_s, sk_up_o (by decide), sk_uI_s, sk_up_o (by decide), sk_up_o (by decide), sk_up_o (by decide), sk_uI_o (by decide), sk_uI_o (by decide)]
    exact ⟨⟨by unfold sk_in; omega, hm.2.1.2.2.2.2⟩, by omega⟩
section SKS1
variable {l : Launch} {E : sk_En} {d : Nat} {I C : sk_SI} {L : sk_SL} {cu sp io rp tp fp p : Nat} {t : Int → Int} {n xs : Int} {Q : Option sk_V → List sk_Sh → sk_St → Prop}
theorem c_M_mustF (hp : sk_pg p) (h : sk_MR t n p xs C I) {dc dm : Int} (hd : sk_du dc dm) (hdm : sk_in dm) (hdc : dc ≠ 20) (h1 : ∀ e, sk_tkI dc C = .inl e → ∀ I', sk_MF C I e I' → Q none sk_G (I', L, sk_J cu sp io rp tp fp)) (h2 : ∀ x, sk_tkI dc C = .inr x → ∀ I', sk_MR t n p xs x.2 I' → sk_mfr I I' → Q none sk_G (I', L, sk_J cu sp io rp tp fp)) : AW l E (d + 6) 0 0 mX10_must 0 [some (vr 59), some (vi dm)] [] sk_G (I, L, sk_J cu sp io rp tp fp) Q := by
  obtain ⟨hv, hm, hq⟩ := h
  obtain ⟨a1, a2, a3, a4, a5, a6⟩ := sk_MT_tok hv hm
  have hb := sk_tok_b hv.1 (C 29 3)
  have h26 := hm.2.1.2.2.2.1
  have hdd := hd _ hb.1 a5
  refine c_M_must dm hm.2.1.2.2.1 a4 (by rw [h26]; unfold sk_in; omega) hdm (by unfold sk_in; omega) (fun _ g I' hI => ?_) (fun g => ?_)
  · rw [a1] at g
    have g := hdd.mp g
    refine h2 (0, sk_uI C 29 3 (C 29 3 + 1)) (by unfold sk_tkI; rw [if_pos g]) I' ⟨(sk_gd_adv hp hv (by rw [g]; exact hdc)).1, sk_MT_next hv hm hI, ?_⟩ (sk_mfr_nx hI.1)
    exact sk_MP_cg hq hI.1.2 (fun c hc => sk_uI_o hc) hp
  · have g : sk_tok C (C 29 3) ≠ dc := fun z => g ⟨h26, by rw [a1]; exact hdd.mpr z⟩
    exact h1 (1, C 29 3) (by unfold sk_tkI; rw [if_neg g]) _ (sk_MF_wr ⟨hv, hm, hq⟩ 1 (by omega))
theorem c_M_numF (hp : sk_pg p) (h : sk_MR t n p xs C I) {most : Int} (hmo : 0 ≤ most ∧ most ≤ 999) (h1 : ∀ e, sk_nuI most C = .inl e → ∀ I', sk_MF C I e I' → Q (some (vi 0)) sk_G (I', L, sk_J cu sp io rp tp fp)) (h2 : ∀ x, sk_nuI most C = .inr x → ∀ I', sk_MR t n p xs x.2 I' → sk_mfr I I' → Q (some (vi x.1)) sk_G (I', L, sk_J cu sp io rp tp fp)) : AW l E (d + 6) 0 0 mX10_numberTo 0 [some (vr 59), some (vi most), none] [] sk_G (I, L, sk_J cu sp io rp tp fp) Q := by
  obtain ⟨hv, hm, hq⟩ := h
  obtain ⟨a1, a2, a3, a4, a5, a6⟩ := sk_MT_tok hv hm
  have hb := sk_tok_b hv.1 (C 29 3)
  have h26 := hm.2.1.2.2.2.1
  have hnn := sk_c2m_n hb.1 a5
  refine c_M_num most hm.2.1.2.2.1 a4 (by rw [h26]; unfold sk_in; omega) (by unfold sk_in; omega) (by unfold sk_in; omega) hm.2.1.2.2.2.2 (fun _ g g2 I' hI => ?_) (fun g => ?_)
  · rw [a1] at g
    have g := hnn.mp g
    have e25 := a2 g
    rw [e25]
    refine h2 (sk_tok C (C 29 3) - 100, sk_uI C 29 3 (C 29 3 + 1)) (by unfold sk_nuI; rw [if_neg (by omega), if_neg (by omega)]) I' ⟨(sk_gd_adv hp hv (by omega)).1, sk_MT_next hv hm hI, ?_⟩ (sk_mfr_nx hI.1)
    exact sk_MP_cg hq hI.1.2 (fun c hc => sk_uI_o hc) hp
  · by_cases hlt : sk_tok C (C 29 3) < 100
    · rw [if_neg (fun z => by rw [a1] at z; have := hnn.mp z; omega)]
      exact h1 (1, C 29 3) (by unfold sk_nuI; rw [if_pos hlt]) _ (sk_MF_wr ⟨hv, hm, hq⟩ 1 (by omega))
    · have e24 : I 59 24 = 20 := by rw [a1]; exact hnn.mpr (by omega)
      have e25 := a2 (by omega)
      have hgt : 100 + most < sk_tok C (C 29 3) := by
        apply Classical.byContradiction
        intro z
        exact g ⟨h26, e24, by omega⟩
      rw [if_pos e24]
      exact h1 (2, C 29 3) (by unfold sk_nuI; rw [if_neg hlt, if_pos hgt]) _ (sk_MF_wr ⟨hv, hm, hq⟩ 2 (by omega))
theorem sk_mwr_w (h : I 59 26 ≠ 0) (k : Int) : sk_mwr I k = I := by unfold sk_mwr; rw [if_neg h]
theorem c_M_must_w (h : sk_in (I 59 26)) (h0 : I 59 26 ≠ 0) (k : Int) (hq : Q none sk_G (I, L, sk_J cu sp io rp tp fp)) : AW l E (d + 1) 0 0 mX10_must 0 [some (vr 59), some (vi k)] [] sk_G (I, L, sk_J cu sp io rp tp fp) Q := by
  refine AW_run 80 rfl ?_
  refine AW_ifne rfl (fun g => ?_) (fun g => absurd g h0) h
  refine AW_run 80 rfl ?_
  refine AW_cV (M' := mX10_wrong) rfl kkX10_226 lcX10_wrong rfl rfl rfl rfl rfl rfl (Nat.le_refl _) ?_
  refine c_M_wrong 1 h ?_
  rw [sk_mwr_w h0]
  exact AW_vret rfl rfl hq
theorem c_M_num_w (h : sk_in (I 59 26)) (h0 : I 59 26 ≠ 0) (h24 : sk_in (I 59 24)) (k : Int) (hq : Q (some (vi 0)) sk_G (I, L, sk_J cu sp io rp tp fp)) : AW l E (d + 1) 0 0 mX10_numberTo 0 [some (vr 59), some (vi k), none] [] sk_G (I, L, sk_J cu sp io rp tp fp) Q := by
  refine AW_run 80 rfl ?_
  refine AW_ifne rfl (fun g => ?_) (fun g => absurd g h0) h
  refine AW_run 80 rfl ?_
  refine AW_icne rfl (fun g2 => ?_) (fun g2 => ?_) h24
  · refine AW_run 80 rfl ?_
    refine AW_cV (M' := mX10_wrong) rfl kkX10_226 lcX10_wrong rfl rfl rfl rfl rfl rfl (Nat.le_refl _) ?_
    refine c_M_wrong 1 h ?_
    rw [sk_mwr_w h0]
    refine AW_run 80 rfl ?_
    exact AW_iret rfl rfl hq
  · refine AW_run 80 rfl ?_
    refine AW_cV (M' := mX10_wrong) rfl kkX10_226 lcX10_wrong rfl rfl rfl rfl rfl rfl (Nat.le_refl _) ?_
    refine c_M_wrong 2 h ?_
    rw [sk_mwr_w h0]
    refine AW_run 80 rfl ?_
    exact AW_iret rfl rfl hq
theorem c_M_block_w (h : sk_in (I 59 26)) (h0 : I 59 26 ≠ 0) (k : Int) (hq : Q (some (vi (-1))) sk_G (I, L, sk_J cu sp io rp tp fp)) : AW l E (d + 2) 0 0 mX10_block 0 [some (vr 59), some (vi k), none, none, none] [] sk_G (I, L, sk_J cu sp io rp tp fp) Q := by
  refine AW_run 80 rfl ?_
  refine AW_ifne rfl (fun g => ?_) (fun g => absurd g h0) h
  refine AW_run 80 rfl ?_
  refine AW_cV (M' := mX10_must) rfl kkX10_228 lcX10_must rfl rfl rfl rfl rfl rfl (Nat.le_refl _) ?_
  refine c_M_must_w h h0 _ ?_
  refine AW_run 80 rfl ?_
  refine AW_ifne rfl (fun g => ?_) (fun g => absurd g h0) h
  refine AW_run 80 rfl ?_
  refine AW_iald rfl rfl ⟨by omega, by omega⟩ (by decide) ?_
  refine AW_run 80 rfl ?_
  refine AW_iast rfl rfl ⟨by omega, by omega⟩ (by decide) ?_
  rw [sk_uI_id rfl]
  refine AW_run 80 rfl ?_
  refine AW_ifne rfl (fun g => ?_) (fun g => absurd g h0) h
  refine AW_run 80 rfl ?_
  refine AW_cV (M' := mX10_must) rfl kkX10_228 lcX10_must rfl rfl rfl rfl rfl rfl (Nat.le_refl _) ?_
  refine c_M_must_w h h0 _ ?_
  refine AW_run 80 rfl ?_
  exact AW_iret rfl rfl hq
end SKS1
