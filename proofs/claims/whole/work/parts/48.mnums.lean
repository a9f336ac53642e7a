/-! ===== the model's step: its numbers ===== -/
theorem sk_rn_no {p : Nat} {s w : Int} {C : sk_SI} (h1 : sk_mf w = -1) (h2 : sk_ms w = -1) : sk_rnI p s w C = .inr (0, sk_uI C 33 s (C 29 3)) := by
  unfold sk_rnI sk_n1I
  rw [h1, h2, if_pos rfl]
  dsimp only
  rw [if_pos rfl]
theorem sk_rn_one {p : Nat} {s w : Int} {C : sk_SI} {m : Int} (h1 : sk_mf w = m) (hm : m ≠ -1) (h2 : sk_ms w = -1) : sk_rnI p s w C = match sk_nuI m (sk_uI C 33 s (C 29 3)) with
    | .inl e => .inl e
    | .inr x => .inr (0, sk_uI x.2 (p + 5) s x.1) := by
  unfold sk_rnI sk_n1I
  rw [h1, h2, if_neg hm]
  cases sk_nuI m (sk_uI C 33 s (C 29 3)) with
  | inl e => rfl
  | inr x =>
    dsimp only
    rw [if_pos rfl]
theorem sk_rn_two {p : Nat} {s w : Int} {C : sk_SI} {m m2 : Int} (h1 : sk_mf w = m) (hm : m ≠ -1) (h2 : sk_ms w = m2) (hm2 : m2 ≠ -1) : sk_rnI p s w C = match sk_nuI m (sk_uI C 33 s (C 29 3)) with
    | .inl e => .inl e
    | .inr x => match sk_nuI m2 (sk_uI x.2 (p + 5) s x.1) with
      | .inl e => .inl e
      | .inr y => .inr (0, sk_uI y.2 (p + 6) s y.1) := by
  unfold sk_rnI sk_n1I
  rw [h1, h2, if_neg hm]
  cases sk_nuI m (sk_uI C 33 s (C 29 3)) with
  | inl e => rfl
  | inr x =>
    dsimp only
    rw [if_neg hm2]
    all_goals (cases sk_nuI m2 (sk_uI x.2 (p + 5) s x.1) <;> rfl)
section SKS2
variable {l : Launch} {E : sk_En} {d : Nat} {I C : sk_SI} {L : sk_SL} {cu sp io rp tp fp p : Nat} {t : Int → Int} {n : Int} {Q : Option sk_V → List sk_Sh → sk_St → Prop}
theorem c_M_nums (hp : sk_pg p) (s w a : Int) (h : sk_MR t n p s C I) (hs : 0 ≤ s ∧ s < C p 10) (hw : C (p + 3) s = w) (h12 : 0 ≤ w ∧ w ≤ 12)
    (hF : ∀ e, sk_rnI p s w C = .inl e → ∀ I', sk_MF C I e I' → AW l E (d + 7) 0 0 mX10_step 300 [some (vr 59), some (vi a), some (vi s), some (vi (200 + s)), some (vi w)] [vi 2, vi w] sk_G (I', L, sk_J cu sp io rp tp fp) Q)
    (hT : ∀ x, sk_rnI p s w C = .inr x → ∀ I', sk_MR t n p (-1) x.2 I' → sk_mfr I I' → AW l E (d + 7) 0 0 mX10_step 300 [some (vr 59), some (vi a), some (vi s), some (vi (200 + s)), some (vi w)] [vi 2, vi w] sk_G (I', L, sk_J cu sp io rp tp fp) Q) :
    AW l E (d + 7) 0 0 mX10_step 125 [some (vr 59), some (vi a), some (vi s), some (vi (200 + s)), some (vi w)] [] sk_G (I, L, sk_J cu sp io rp tp fp) Q := by
  have h200 := h.1.2.2.2.1
  have c32 : sk_uI C 33 s (C 29 3) 32 = C 32 := sk_uI_o (by decide)
  have hb : sk_in (200 + s) := by unfold sk_in; omega
  have hb2 : sk_in s := by unfold sk_in; omega
  have SA : (w = 0 ∨ w = 2 ∨ w = 10) → AW l E (d + 7) 0 0 mX10_step 151 [some (vr 59), some (vi a), some (vi s), some (vi (200 + s)), some (vi w)] [vi 7, vr 59, vi (200 + s), vr 69] sk_G (I, L, sk_J cu sp io rp tp fp) Q := by
    intro hyp
    have R := sk_rn_two (p := p) (s := s) (w := w) (C := C) (m := 7) (m2 := 9) (by rcases hyp with rfl | rfl | rfl <;> rfl) (by decide) (by rcases hyp with rfl | rfl | rfl <;> rfl) (by decide)
    have M := sk_MR_33 hp h (by rw [hw]; omega) (C 29 3)
    rw [R] at hF hT
    refine AW_cV (M' := mX10_numberTo) rfl kkX10_235 lcX10_numberTo rfl rfl rfl rfl rfl rfl (Nat.le_refl _) ?_
    refine c_M_numF hp M (by omega) (fun e he I' hI => ?_) (fun x hx I' hI hfr => ?_)
    · rw [he] at hF
      have hI2 := sk_MF_row (sk_MF_tr (sk_mfr_rf I) hI c32) 69 (200 + s) 0 (by omega)
      refine AW_run 80 rfl ?_
      refine AW_iast rfl rfl ⟨by omega, by omega⟩ (by decide) ?_
      refine AW_run 80 rfl ?_
      refine AW_cV (M' := mX10_numberTo) rfl kkX10_235 lcX10_numberTo rfl rfl rfl rfl rfl rfl (Nat.le_refl _) ?_
      refine c_M_num_w (by rw [hI2.2.1]; unfold sk_in; have := hI2.2.2.2.2; omega) (by rw [hI2.2.1]; have := hI2.2.2.2.2; omega) hI2.2.2.2.1.1.1 _ ?_
      refine AW_run 80 rfl ?_
      refine AW_iast rfl rfl ⟨by omega, by omega⟩ (by decide) ?_
      refine AW_run 80 rfl ?_
      exact hF e rfl _ (sk_MF_row hI2 70 _ _ (by omega))
    · rw [hx] at hF hT
      dsimp only at hF hT
      have hI2 := sk_MR_row hp hI 5 (by omega) s x.1
      have fr2 := sk_mfr_tr hfr (sk_mfr_row I' 69 (200 + s) x.1 (by omega))
      have q32 : sk_uI x.2 (p + 5) s x.1 32 = C 32 := by
        rw [sk_uI_o (by rcases hp with rfl | rfl <;> omega), (sk_nuI_r hx).1, sk_uI_o (by decide), c32]
      refine AW_run 80 rfl ?_
      refine AW_iast rfl rfl ⟨by omega, by omega⟩ (by decide) ?_
      refine AW_run 80 rfl ?_
      refine AW_cV (M' := mX10_numberTo) rfl kkX10_235 lcX10_numberTo rfl rfl rfl rfl rfl rfl (Nat.le_refl _) ?_
      refine c_M_numF hp hI2 (by omega) (fun e he I2 hJ => ?_) (fun y hy I2 hJ hfr2 => ?_)
      · rw [he] at hF
        refine AW_run 80 rfl ?_
        refine AW_iast rfl rfl ⟨by omega, by omega⟩ (by decide) ?_
        refine AW_run 80 rfl ?_
        exact hF e rfl _ (sk_MF_row (sk_MF_tr fr2 hJ q32) 70 _ _ (by omega))
      · rw [hy] at hT
        refine AW_run 80 rfl ?_
        refine AW_iast rfl rfl ⟨by omega, by omega⟩ (by decide) ?_
        refine AW_run 80 rfl ?_
        exact hT _ rfl _ (sk_MR_row hp hJ 6 (by omega) s y.1) (sk_mfr_tr fr2 (sk_mfr_tr hfr2 (sk_mfr_row _ 70 _ _ (by omega))))
  have SB0 : (w = 1 ∨ w = 6) → AW l E (d + 7) 0 0 mX10_step 201 [some (vr 59), some (vi a), some (vi s), some (vi (200 + s)), some (vi w)] [vi 99, vr 59, vi (200 + s), vr 69] sk_G (sk_uI I 76 s (I 59 22), L, sk_J cu sp io rp tp fp) Q := by
    intro hyp
    have R := sk_rn_one (p := p) (s := s) (w := w) (C := C) (m := 99) (by rcases hyp with rfl | rfl <;> rfl) (by decide) (by rcases hyp with rfl | rfl <;> rfl)
    have M := sk_MR_33c hp h (C 29 3) rfl
    have fr0 : sk_mfr I (sk_uI I 76 s (I 59 22)) := sk_mfr_row I 76 s _ (by omega)
    rw [R] at hF hT
    refine AW_cV (M' := mX10_numberTo) rfl kkX10_235 lcX10_numberTo rfl rfl rfl rfl rfl rfl (Nat.le_refl _) ?_
    refine c_M_numF hp M (by omega) (fun e he I' hI => ?_) (fun x hx I' hI hfr => ?_)
    · rw [he] at hF
      refine AW_run 80 rfl ?_
      refine AW_iast rfl rfl ⟨by omega, by omega⟩ (by decide) ?_
      refine AW_run 80 rfl ?_
      exact hF e rfl _ (sk_MF_row (sk_MF_tr fr0 hI c32) 69 _ _ (by omega))
    · rw [hx] at hT
      refine AW_run 80 rfl ?_
      refine AW_iast rfl rfl ⟨by omega, by omega⟩ (by decide) ?_
      refine AW_run 80 rfl ?_
      exact hT _ rfl _ (sk_MR_row hp hI 5 (by omega) s x.1) (sk_mfr_tr fr0 (sk_mfr_tr hfr (sk_mfr_row _ 69 _ _ (by omega))))
  have SB : (w = 1 ∨ w = 6) → AW l E (d + 7) 0 0 mX10_step 192 [some (vr 59), some (vi a), some (vi s), some (vi (200 + s)), some (vi w)] [vi (I 59 22), vi s, vr 76] sk_G (I, L, sk_J cu sp io rp tp fp) Q := by
    intro hyp
    have SB0 := SB0 hyp
    refine AW_iast rfl rfl ⟨by omega, by omega⟩ (by decide) ?_
    refine AW_run 80 rfl ?_
    exact SB0
  have S3 : (w = 3 ∨ w = 3) → AW l E (d + 7) 0 0 mX10_step 222 [some (vr 59), some (vi a), some (vi s), some (vi (200 + s)), some (vi w)] [vi 7, vr 59, vi (200 + s), vr 69] sk_G (I, L, sk_J cu sp io rp tp fp) Q := by
    intro hyp
    have R := sk_rn_one (p := p) (s := s) (w := w) (C := C) (m := 7) (by rcases hyp with rfl | rfl <;> rfl) (by decide) (by rcases hyp with rfl | rfl <;> rfl)
    have M := sk_MR_33 hp h (by rw [hw]; omega) (C 29 3)
    have fr0 : sk_mfr I (I) := sk_mfr_rf I
    rw [R] at hF hT
    refine AW_cV (M' := mX10_numberTo) rfl kkX10_235 lcX10_numberTo rfl rfl rfl rfl rfl rfl (Nat.le_refl _) ?_
    refine c_M_numF hp M (by omega) (fun e he I' hI => ?_) (fun x hx I' hI hfr => ?_)
    · rw [he] at hF
      refine AW_run 80 rfl ?_
      refine AW_iast rfl rfl ⟨by omega, by omega⟩ (by decide) ?_
      refine AW_run 80 rfl ?_
      exact hF e rfl _ (sk_MF_row (sk_MF_tr fr0 hI c32) 69 _ _ (by omega))
    · rw [hx] at hT
      refine AW_run 80 rfl ?_
      refine AW_iast rfl rfl ⟨by omega, by omega⟩ (by decide) ?_
      refine AW_run 80 rfl ?_
      exact hT _ rfl _ (sk_MR_row hp hI 5 (by omega) s x.1) (sk_mfr_tr fr0 (sk_mfr_tr hfr (sk_mfr_row _ 69 _ _ (by omega))))
  have S4 : (w = 4 ∨ w = 5) → AW l E (d + 7) 0 0 mX10_step 248 [some (vr 59), some (vi a), some (vi s), some (vi (200 + s)), some (vi w)] [vi 3, vr 59, vi (200 + s), vr 69] sk_G (I, L, sk_J cu sp io rp tp fp) Q := by
    intro hyp
    have R := sk_rn_one (p := p) (s := s) (w := w) (C := C) (m := 3) (by rcases hyp with rfl | rfl <;> rfl) (by decide) (by rcases hyp with rfl | rfl <;> rfl)
    have M := sk_MR_33 hp h (by rw [hw]; omega) (C 29 3)
    have fr0 : sk_mfr I (I) := sk_mfr_rf I
    rw [R] at hF hT
    refine AW_cV (M' := mX10_numberTo) rfl kkX10_235 lcX10_numberTo rfl rfl rfl rfl rfl rfl (Nat.le_refl _) ?_
    refine c_M_numF hp M (by omega) (fun e he I' hI => ?_) (fun x hx I' hI hfr => ?_)
    · rw [he] at hF
      refine AW_run 80 rfl ?_
      refine AW_iast rfl rfl ⟨by omega, by omega⟩ (by decide) ?_
      refine AW_run 80 rfl ?_
      exact hF e rfl _ (sk_MF_row (sk_MF_tr fr0 hI c32) 69 _ _ (by omega))
    · rw [hx] at hT
      refine AW_run 80 rfl ?_
      refine AW_iast rfl rfl ⟨by omega, by omega⟩ (by decide) ?_
      refine AW_run 80 rfl ?_
      exact hT _ rfl _ (sk_MR_row hp hI 5 (by omega) s x.1) (sk_mfr_tr fr0 (sk_mfr_tr hfr (sk_mfr_row _ 69 _ _ (by omega))))
  have S8 : (w = 8 ∨ w = 8) → AW l E (d + 7) 0 0 mX10_step 270 [some (vr 59), some (vi a), some (vi s), some (vi (200 + s)), some (vi w)] [vi 99, vr 59, vi (200 + s), vr 69] sk_G (I, L, sk_J cu sp io rp tp fp) Q := by
    intro hyp
    have R := sk_rn_one (p := p) (s := s) (w := w) (C := C) (m := 99) (by rcases hyp with rfl | rfl <;> rfl) (by decide) (by rcases hyp with rfl | rfl <;> rfl)
    have M := sk_MR_33 hp h (by rw [hw]; omega) (C 29 3)
    have fr0 : sk_mfr I (I) := sk_mfr_rf I
    rw [R] at hF hT
    refine AW_cV (M' := mX10_numberTo) rfl kkX10_235 lcX10_numberTo rfl rfl rfl rfl rfl rfl (Nat.le_refl _) ?_
    refine c_M_numF hp M (by omega) (fun e he I' hI => ?_) (fun x hx I' hI hfr => ?_)
    · rw [he] at hF
      refine AW_run 80 rfl ?_
      refine AW_iast rfl rfl ⟨by omega, by omega⟩ (by decide) ?_
      refine AW_run 80 rfl ?_
      exact hF e rfl _ (sk_MF_row (sk_MF_tr fr0 hI c32) 69 _ _ (by omega))
    · rw [hx] at hT
      refine AW_run 80 rfl ?_
      refine AW_iast rfl rfl ⟨by omega, by omega⟩ (by decide) ?_
      refine AW_run 80 rfl ?_
      exact hT _ rfl _ (sk_MR_row hp hI 5 (by omega) s x.1) (sk_mfr_tr fr0 (sk_mfr_tr hfr (sk_mfr_row _ 69 _ _ (by omega))))
  have S9 : (w = 9 ∨ w = 9) → AW l E (d + 7) 0 0 mX10_step 293 [some (vr 59), some (vi a), some (vi s), some (vi (200 + s)), some (vi w)] [vi 999, vr 59, vi (200 + s), vr 69] sk_G (I, L, sk_J cu sp io rp tp fp) Q := by
    intro hyp
    have R := sk_rn_one (p := p) (s := s) (w := w) (C := C) (m := 999) (by rcases hyp with rfl | rfl <;> rfl) (by decide) (by rcases hyp with rfl | rfl <;> rfl)
    have M := sk_MR_33 hp h (by rw [hw]; omega) (C 29 3)
    have fr0 : sk_mfr I (I) := sk_mfr_rf I
    rw [R] at hF hT
    refine AW_cV (M' := mX10_numberTo) rfl kkX10_235 lcX10_numberTo rfl rfl rfl rfl rfl rfl (Nat.le_refl _) ?_
    refine c_M_numF hp M (by omega) (fun e he I' hI => ?_) (fun x hx I' hI hfr => ?_)
    · rw [he] at hF
      refine AW_run 80 rfl ?_
      refine AW_iast rfl rfl ⟨by omega, by omega⟩ (by decide) ?_
      refine AW_run 80 rfl ?_
      exact hF e rfl _ (sk_MF_row (sk_MF_tr fr0 hI c32) 69 _ _ (by omega))
    · rw [hx] at hT
      refine AW_run 80 rfl ?_
      refine AW_iast rfl rfl ⟨by omega, by omega⟩ (by decide) ?_
      refine AW_run 80 rfl ?_
      exact hT _ rfl _ (sk_MR_row hp hI 5 (by omega) s x.1) (sk_mfr_tr fr0 (sk_mfr_tr hfr (sk_mfr_row _ 69 _ _ (by omega))))
  have wi : sk_in w := by unfold sk_in; omega
  refine AW_run 80 rfl ?_
  refine AW_ifeq rfl (fun g0 => ?_) (fun g0 => ?_) wi
  · refine AW_run 80 rfl ?_
    exact SA (by omega)
  · refine AW_run 80 rfl ?_
    refine AW_iceq rfl (fun g2 => ?_) (fun g2 => ?_) wi
    · refine AW_run 80 rfl ?_
      exact SA (by omega)
    · refine AW_run 80 rfl ?_
      refine AW_icne rfl (fun g10 => ?_) (fun g10 => ?_) wi
      · refine AW_run 80 rfl ?_
        refine AW_iceq rfl (fun g1 => ?_) (fun g1 => ?_) wi
        · refine AW_run 80 rfl ?_
          exact SB (by omega)
        · refine AW_run 80 rfl ?_
          refine AW_icne rfl (fun g6 => ?_) (fun g6 => ?_) wi
          · refine AW_run 80 rfl ?_
            refine AW_icne rfl (fun g3 => ?_) (fun g3 => ?_) wi
            · refine AW_run 80 rfl ?_
              refine AW_iceq rfl (fun g4 => ?_) (fun g4 => ?_) wi
              · refine AW_run 80 rfl ?_
                exact S4 (by omega)
              · refine AW_run 80 rfl ?_
                refine AW_icne rfl (fun g5 => ?_) (fun g5 => ?_) wi
                · refine AW_run 80 rfl ?_
                  refine AW_icne rfl (fun g8 => ?_) (fun g8 => ?_) wi
                  · refine AW_run 80 rfl ?_
                    refine AW_icne rfl (fun g9 => ?_) (fun g9 => ?_) wi
                    · have hyp : w = 7 ∨ w = 11 ∨ w = 12 := by omega
                      have hT := hT _ (sk_rn_no (by rcases hyp with rfl | rfl | rfl <;> rfl) (by rcases hyp with rfl | rfl | rfl <;> rfl)) I (sk_MR_33 hp h (by rw [hw]; omega) (C 29 3)) (sk_mfr_rf I)
                      refine AW_run 80 rfl ?_
                      exact hT
                    · refine AW_run 80 rfl ?_
                      exact S9 (by omega)
                  · refine AW_run 80 rfl ?_
                    exact S8 (by omega)
                · refine AW_run 80 rfl ?_
                  exact S4 (by omega)
            · refine AW_run 80 rfl ?_
              exact S3 (by omega)
          · refine AW_run 80 rfl ?_
            exact SB (by omega)
      · refine AW_run 80 rfl ?_
        exact SA (by omega)
end SKS2
