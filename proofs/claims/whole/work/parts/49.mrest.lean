/-! ===== the model's step: its blocks ===== -/
theorem sk_bs_iff {w : Int} (h : 0 ≤ w ∧ w ≤ 12) : (sk_bs w = 0 ↔ (w = 0 ∨ w = 1 ∨ w = 4 ∨ w = 6 ∨ w = 9 ∨ w = 12)) ∧ (sk_bs w = 2 ↔ (w = 7 ∨ w = 10 ∨ w = 11)) ∧ (sk_bs w = 1 ↔ (w = 2 ∨ w = 3 ∨ w = 5 ∨ w = 8)) := by
  rcases (show w = 0 ∨ w = 1 ∨ w = 2 ∨ w = 3 ∨ w = 4 ∨ w = 5 ∨ w = 6 ∨ w = 7 ∨ w = 8 ∨ w = 9 ∨ w = 10 ∨ w = 11 ∨ w = 12 by omega) with rfl | rfl | rfl | rfl | rfl | rfl | rfl | rfl | rfl | rfl | rfl | rfl | rfl <;> decide
section SKS3
variable {l : Launch} {E : sk_En} {d : Nat} {I C : sk_SI} {L : sk_SL} {cu sp io rp tp fp p : Nat} {t : Int → Int} {n : Int} {Q : Option sk_V → List sk_Sh → sk_St → Prop}
/-- has the step blocks? -/
theorem c_M_disp (s w a : Int) (h12 : 0 ≤ w ∧ w ≤ 12) (hY : sk_bs w ≠ 0 → AW l E d 0 0 mX10_step 352 [some (vr 59), some (vi a), some (vi s), some (vi (200 + s)), some (vi w)] [vi (a + 1), vr 59, vi (200 + s), vr 72] sk_G (I, L, sk_J cu sp io rp tp fp) Q) (hN : sk_bs w = 0 → AW l E d 0 0 mX10_step 414 [some (vr 59), some (vi a), some (vi s), some (vi (200 + s)), some (vi w)] [vi 23, vr 59] sk_G (I, L, sk_J cu sp io rp tp fp) Q) : AW l E d 0 0 mX10_step 300 [some (vr 59), some (vi a), some (vi s), some (vi (200 + s)), some (vi w)] [vi 2, vi w] sk_G (I, L, sk_J cu sp io rp tp fp) Q := by
  obtain ⟨b0, b2, b1⟩ := sk_bs_iff h12
  have wi : sk_in w := by unfold sk_in; omega
  refine AW_iceq rfl (fun g => ?_) (fun g2 => ?_) wi
  · have hY := hY (fun z => by have := b0.mp z; omega)
    refine AW_run 80 rfl ?_
    exact hY
  · refine AW_run 80 rfl ?_
    refine AW_iceq rfl (fun g => ?_) (fun g3 => ?_) wi
    · have hY := hY (fun z => by have := b0.mp z; omega)
      refine AW_run 80 rfl ?_
      exact hY
    · refine AW_run 80 rfl ?_
      refine AW_iceq rfl (fun g => ?_) (fun g5 => ?_) wi
      · have hY := hY (fun z => by have := b0.mp z; omega)
        refine AW_run 80 rfl ?_
        exact hY
      · refine AW_run 80 rfl ?_
        refine AW_iceq rfl (fun g => ?_) (fun g7 => ?_) wi
        · have hY := hY (fun z => by have := b0.mp z; omega)
          refine AW_run 80 rfl ?_
          exact hY
        · refine AW_run 80 rfl ?_
          refine AW_iceq rfl (fun g => ?_) (fun g8 => ?_) wi
          · have hY := hY (fun z => by have := b0.mp z; omega)
            refine AW_run 80 rfl ?_
            exact hY
          · refine AW_run 80 rfl ?_
            refine AW_iceq rfl (fun g => ?_) (fun g10 => ?_) wi
            · have hY := hY (fun z => by have := b0.mp z; omega)
              refine AW_run 80 rfl ?_
              exact hY
            · refine AW_run 80 rfl ?_
              refine AW_icne rfl (fun g11 => ?_) (fun g => ?_) wi
              · have hN := hN (b0.mpr (by omega))
                refine AW_run 80 rfl ?_
                exact hN
              · have hY := hY (fun z => by have := b0.mp z; omega)
                refine AW_run 80 rfl ?_
                exact hY
theorem c_M_disp2 (s w a : Int) (h12 : 0 ≤ w ∧ w ≤ 12) (h0 : sk_bs w ≠ 0) (hY : sk_bs w = 2 → AW l E d 0 0 mX10_step 392 [some (vr 59), some (vi a), some (vi s), some (vi (200 + s)), some (vi w)] [vi (if w = 11 then 15 else 14), vr 59] sk_G (I, L, sk_J cu sp io rp tp fp) Q) (hN : sk_bs w = 1 → Q (some (vi s)) sk_G (I, L, sk_J cu sp io rp tp fp)) : AW l E d 0 0 mX10_step 360 [some (vr 59), some (vi a), some (vi s), some (vi (200 + s)), some (vi w)] [vi 7, vi w] sk_G (I, L, sk_J cu sp io rp tp fp) Q := by
  obtain ⟨b0, b2, b1⟩ := sk_bs_iff h12
  have wi : sk_in w := by unfold sk_in; omega
  have fin : sk_bs w = 2 → AW l E d 0 0 mX10_step 382 [some (vr 59), some (vi a), some (vi s), some (vi (200 + s)), some (vi w)] [vi 11, vi w, vr 59] sk_G (I, L, sk_J cu sp io rp tp fp) Q := by
    intro z
    have hY := hY z
    refine AW_icne rfl (fun g => ?_) (fun g => ?_) wi
    · rw [if_neg g] at hY
      refine AW_run 80 rfl ?_
      exact hY
    · rw [if_pos g] at hY
      refine AW_run 80 rfl ?_
      exact hY
  refine AW_iceq rfl (fun g => ?_) (fun g7 => ?_) wi
  · have fin := fin (b2.mpr (by omega))
    refine AW_run 80 rfl ?_
    exact fin
  · refine AW_run 80 rfl ?_
    refine AW_iceq rfl (fun g => ?_) (fun g10 => ?_) wi
    · have fin := fin (b2.mpr (by omega))
      refine AW_run 80 rfl ?_
      exact fin
    · refine AW_run 80 rfl ?_
      refine AW_icne rfl (fun g11 => ?_) (fun g => ?_) wi
      · have hN := hN (b1.mpr (by
          apply Classical.byContradiction
          intro z
          exact h0 (b0.mpr (by omega))))
        refine AW_run 80 rfl ?_
        exact AW_iret rfl rfl hN
      · have fin := fin (b2.mpr (by omega))
        refine AW_run 80 rfl ?_
        exact fin
/-- a step whose fault was found: it ends -/
theorem c_M_rest_w (s w a : Int) (h12 : 0 ≤ w ∧ w ≤ 12) (hs : 0 ≤ s ∧ s < 200) {C0 I0 : sk_SI} {e : Int × Int} (h : sk_MF C0 I0 e I) (hq : ∀ I', sk_MF C0 I0 e I' → Q (some (vi s)) sk_G (I', L, sk_J cu sp io rp tp fp)) : AW l E (d + 3) 0 0 mX10_step 300 [some (vr 59), some (vi a), some (vi s), some (vi (200 + s)), some (vi w)] [vi 2, vi w] sk_G (I, L, sk_J cu sp io rp tp fp) Q := by
  have hb : sk_in (200 + s) := by unfold sk_in; omega
  have i26 : ∀ {I'}, sk_MF C0 I0 e I' → sk_in (I' 59 26) ∧ I' 59 26 ≠ 0 := by
    intro I' hI
    have := hI.2.1
    have := hI.2.2.2.2
    unfold sk_in
    omega
  refine c_M_disp s w a h12 (fun hbs => ?_) (fun hbs => ?_)
  · refine AW_cV (M' := mX10_block) (d' := d + 2) rfl kkX10_238 lcX10_block rfl rfl rfl rfl rfl rfl (by omega) ?_
    refine c_M_block_w (i26 h).1 (i26 h).2 _ ?_
    have h1 := sk_MF_row h 72 (200 + s) (-1) (by omega)
    refine AW_run 80 rfl ?_
    refine AW_iast rfl rfl ⟨by omega, by omega⟩ (by decide) ?_
    refine AW_run 80 rfl ?_
    refine c_M_disp2 s w a h12 hbs (fun hb2 => ?_) (fun hb1 => hq _ h1)
    refine AW_cV (M' := mX10_must) (d' := d + 2) rfl kkX10_228 lcX10_must rfl rfl rfl rfl rfl rfl (by omega) ?_
    refine c_M_must_w (d := d + 1) (i26 h1).1 (i26 h1).2 _ ?_
    have h2 := sk_MF_row h1 73 (200 + s) (-1) (by omega)
    refine AW_run 80 rfl ?_
    refine AW_cV (M' := mX10_block) (d' := d + 2) rfl kkX10_238 lcX10_block rfl rfl rfl rfl rfl rfl (by omega) ?_
    refine c_M_block_w (i26 h1).1 (i26 h1).2 _ ?_
    refine AW_run 80 rfl ?_
    refine AW_iast rfl rfl ⟨by omega, by omega⟩ (by decide) ?_
    refine AW_run 80 rfl ?_
    exact AW_iret rfl rfl (hq _ h2)
  · refine AW_cV (M' := mX10_must) (d' := d + 2) rfl kkX10_228 lcX10_must rfl rfl rfl rfl rfl rfl (by omega) ?_
    refine c_M_must_w (d := d + 1) (i26 h).1 (i26 h).2 _ ?_
    refine AW_run 80 rfl ?_
    exact AW_iret rfl rfl (hq _ h)
/-- the model's block at k more blocks -/
def sk_MB (l : Launch) (E : sk_En) (d k : Nat) (t : Int → Int) (n : Int) (p : Nat) (L : sk_SL) (J : sk_SR) : Prop := ∀ (C I : sk_SI) (Q : Option sk_V → List sk_Sh → sk_St → Prop), sk_MR t n p (-1) C I → (∀ e, sk_blI p k C = .inl e → ∀ v I', -1 ≤ v ∧ v ≤ 199 → sk_MF C I e I' → Q (some (vi v)) sk_G (I', L, J)) → (∀ x, sk_blI p k C = .inr x → ∀ I', sk_MR t n p (-1) x.2 I' → sk_mfr I I' → Q (some (vi x.1)) sk_G (I', L, J)) → AW l E (d + (2 * k + 8)) 0 0 mX10_block 0 [some (vr 59), some (vi (12 - k)), none, none, none] [] sk_G (I, L, J) Q
theorem c_M_rest (k : Nat) (hk : k ≤ 12) (hp : sk_pg p) (s w : Int) (h : sk_MR t n p (-1) C I) (hs : 0 ≤ s ∧ s < 200) (h12 : 0 ≤ w ∧ w ≤ 12) (hMB : sk_MB l E d k t n p L (sk_J cu sp io rp tp fp)) (h1 : ∀ e, sk_rrI (sk_blI p k) p s w C = .inl e → ∀ I', sk_MF C I e I' → Q (some (vi s)) sk_G (I', L, sk_J cu sp io rp tp fp)) (h2 : ∀ x, sk_rrI (sk_blI p k) p s w C = .inr x → ∀ I', sk_MR t n p (-1) x.2 I' → sk_mfr I I' → Q (some (vi s)) sk_G (I', L, sk_J cu sp io rp tp fp)) : AW l E (d + (2 * k + 9)) 0 0 mX10_step 300 [some (vr 59), some (vi (11 - k)), some (vi s), some (vi (200 + s)), some (vi w)] [vi 2, vi w] sk_G (I, L, sk_J cu sp io rp tp fp) Q := by
  have hb : sk_in (200 + s) := by unfold sk_in; omega
  have ek : (11 - (k : Int)) + 1 = 12 - k := by omega
  have i26 : ∀ {C0 I0 I' : sk_SI} {e : Int × Int}, sk_MF C0 I0 e I' → sk_in (I' 59 26) ∧ I' 59 26 ≠ 0 := by
    intro C0 I0 I' e hI
    have := hI.2.1
    have := hI.2.2.2.2
    unfold sk_in
    omega
  unfold sk_rrI at h1 h2
  refine c_M_disp s w _ h12 (fun hbs => ?_) (fun hbs => ?_)
  · rw [if_neg hbs] at h1 h2
    rw [ek]
    refine AW_cV (M' := mX10_block) (d' := d + (2 * k + 8)) rfl kkX10_238 lcX10_block rfl rfl rfl rfl rfl rfl (by omega) ?_
    refine hMB C I _ h (fun e he v I' hv hI => ?_) (fun x hx I' hI hfr => ?_)
    · rw [he] at h1
      have h1 := h1 e rfl
      have hI1 := sk_MF_row hI 72 (200 + s) v (by omega)
      have hI2 := sk_MF_row hI1 73 (200 + s) (-1) (by omega)
      refine AW_run 80 rfl ?_
      refine AW_iast rfl rfl ⟨by omega, by omega⟩ (by decide) ?_
      refine AW_run 80 rfl ?_
      refine c_M_disp2 s w _ h12 hbs (fun hb2 => ?_) (fun hb1 => h1 _ hI1)
      refine AW_cV (M' := mX10_must) (d' := d + 2) rfl kkX10_228 lcX10_must rfl rfl rfl rfl rfl rfl (by omega) ?_
      refine c_M_must_w (d := d + 1) (i26 hI1).1 (i26 hI1).2 _ ?_
      refine AW_run 80 rfl ?_
      refine AW_cV (M' := mX10_block) (d' := d + 2) rfl kkX10_238 lcX10_block rfl rfl rfl rfl rfl rfl (by omega) ?_
      refine c_M_block_w (i26 hI1).1 (i26 hI1).2 _ ?_
      refine AW_run 80 rfl ?_
      refine AW_iast rfl rfl ⟨by omega, by omega⟩ (by decide) ?_
      refine AW_run 80 rfl ?_
      exact AW_iret rfl rfl (h1 _ hI2)
    · rw [hx] at h1 h2
      dsimp only at h1 h2
      obtain ⟨gx, gx1, gx2⟩ := sk_gd_bl hp k hk C x h.1 hx
      have hI1 := sk_MR_row hp hI 8 (by omega) s x.1
      have fr1 := sk_mfr_tr hfr (sk_mfr_row I' 72 (200 + s) x.1 (by omega))
      have g1 := sk_gd_row hp gx.1 (p + 8) s x.1 (Or.inr (by omega))
      have q32 := sk_fp_32 hp (sk_gd_tr gx g1).2.1
      refine AW_run 80 rfl ?_
      refine AW_iast rfl rfl ⟨by omega, by omega⟩ (by decide) ?_
      refine AW_run 80 rfl ?_
      refine c_M_disp2 s w _ h12 hbs (fun hb2 => ?_) (fun hb1 => ?_)
      · rw [if_neg (by omega)] at h1 h2
        refine AW_cV (M' := mX10_must) (d' := d + 6) rfl kkX10_228 lcX10_must rfl rfl rfl rfl rfl rfl (by omega) ?_
        refine c_M_mustF (dc := if w = 11 then 14 else 13) hp hI1 (by split; exact sk_du_14; exact sk_du_13) (by unfold sk_in; split <;> omega) (by split <;> omega) (fun e he I2 hJ => ?_) (fun y hy I2 hJ hfr2 => ?_)
        · rw [he] at h1
          have h1 := h1 e rfl
          have hJ1 := sk_MF_tr fr1 hJ q32
          have hJ2 := sk_MF_row hJ1 73 (200 + s) (-1) (by omega)
          refine AW_run 80 rfl ?_
          refine AW_cV (M' := mX10_block) (d' := d + 2) rfl kkX10_238 lcX10_block rfl rfl rfl rfl rfl rfl (by omega) ?_
          refine c_M_block_w (i26 hJ1).1 (i26 hJ1).2 _ ?_
          refine AW_run 80 rfl ?_
          refine AW_iast rfl rfl ⟨by omega, by omega⟩ (by decide) ?_
          refine AW_run 80 rfl ?_
          exact AW_iret rfl rfl (h1 _ hJ2)
        · rw [hy] at h1 h2
          dsimp only at h1 h2
          have gy := sk_gd_tk hp hI1.1 (by split <;> decide) hy
          have q32y := (sk_fp_32 hp gy.2.1).trans q32
          have fr2 := sk_mfr_tr fr1 hfr2
          refine AW_run 80 rfl ?_
          rw [ek]
          refine AW_cV (M' := mX10_block) (d' := d + (2 * k + 8)) rfl kkX10_238 lcX10_block rfl rfl rfl rfl rfl rfl (by omega) ?_
          refine hMB y.2 I2 _ hJ (fun e he v I3 hv hK => ?_) (fun z hz I3 hK hfr3 => ?_)
          · rw [he] at h1
            have h1 := h1 e rfl
            have hK2 := sk_MF_row (sk_MF_tr fr2 hK q32y) 73 (200 + s) v (by omega)
            refine AW_run 80 rfl ?_
            refine AW_iast rfl rfl ⟨by omega, by omega⟩ (by decide) ?_
            refine AW_run 80 rfl ?_
            exact AW_iret rfl rfl (h1 _ hK2)
          · rw [hz] at h2
            have h2 := h2 _ rfl _ (sk_MR_row hp hK 9 (by omega) s z.1) (sk_mfr_tr fr2 (sk_mfr_tr hfr3 (sk_mfr_row I3 73 (200 + s) z.1 (by omega))))
            refine AW_run 80 rfl ?_
            refine AW_iast rfl rfl ⟨by omega, by omega⟩ (by decide) ?_
            refine AW_run 80 rfl ?_
            exact AW_iret rfl rfl h2
      · rw [if_pos hb1] at h2
        exact h2 _ rfl _ hI1 fr1
  · rw [if_pos hbs] at h1 h2
    refine AW_cV (M' := mX10_must) (d' := d + 6) rfl kkX10_228 lcX10_must rfl rfl rfl rfl rfl rfl (by omega) ?_
    refine c_M_mustF (dc := 18) hp h sk_du_18 (by unfold sk_in; omega) (by omega) (fun e he I' hI => ?_) (fun x hx I' hI hfr => ?_)
    · have h1 := h1 e he I' hI
      refine AW_run 80 rfl ?_
      exact AW_iret rfl rfl h1
    · have h2 := h2 x hx I' hI hfr
      refine AW_run 80 rfl ?_
      exact AW_iret rfl rfl h2
end SKS3
