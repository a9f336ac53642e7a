/-! ===== the model's step and block ===== -/
section SKS4
variable {l : Launch} {E : sk_En} {d : Nat} {I C : sk_SI} {L : sk_SL} {cu sp io rp tp fp p : Nat} {t : Int → Int} {n : Int} {Q : Option sk_V → List sk_Sh → sk_St → Prop}
theorem c_M_rstep (k : Nat) (hk : k ≤ 12) (hp : sk_pg p) (h : sk_MR t n p (-1) C I) (hMB : sk_MB l E d k t n p L (sk_J cu sp io rp tp fp)) (h1 : ∀ e, sk_stI (sk_blI p k) p C = .inl e → ∀ v I', 0 ≤ v ∧ v ≤ 199 → sk_MF C I e I' → Q (some (vi v)) sk_G (I', L, sk_J cu sp io rp tp fp)) (h2 : ∀ x, sk_stI (sk_blI p k) p C = .inr x → ∀ I', sk_MR t n p (-1) x.2 I' → sk_mfr I I' → Q (some (vi x.1)) sk_G (I', L, sk_J cu sp io rp tp fp)) : AW l E (d + (2 * k + 9)) 0 0 mX10_step 0 [some (vr 59), some (vi (11 - k)), none, none, none] [] sk_G (I, L, sk_J cu sp io rp tp fp) Q := by
  obtain ⟨hv, hm, hP⟩ := h
  obtain ⟨a1, a2, a3, a4, a5, a6⟩ := sk_MT_tok hv hm
  have hb := sk_tok_b hv.1 (C 29 3)
  obtain ⟨w1, w2⟩ := sk_c2m_w hb.1 a5
  have h26 : sk_in (I 59 26) := by rw [hm.2.1.2.2.2.1]; unfold sk_in; omega
  have h10 := hv.2.2.2.1
  have h9 := hv.2.2.2.2.1
  have e66 : I 66 1 = C p 10 := hP.1.2.1
  have e63 : I 63 1 = C p 9 := hP.1.1
  unfold sk_stI at h1 h2
  refine AW_run 80 rfl ?_
  refine AW_icle rfl (fun g => ?_) (fun g => ?_) (by unfold sk_in; omega)
  · have hw : sk_tok C (C 29 3) ≤ 12 := by
      apply Classical.byContradiction
      intro z
      have := w2 (by omega)
      omega
    rw [if_neg (by omega)] at h1 h2
    have ew : I 59 24 = sk_tok C (C 29 3) := by rw [a1, w1 hw]
    refine AW_run 80 rfl ?_
    refine AW_iald rfl rfl ⟨by omega, by omega⟩ (by decide) ?_
    refine AW_run 80 rfl ?_
    refine AW_icne rfl (fun g2 => ?_) (fun g2 => ?_) (by unfold sk_in; omega)
    · rw [if_neg (by omega)] at h1 h2
      have hMA := sk_MR_as hp ⟨hv, hm, hP⟩ (by omega) (sk_tok C (C 29 3))
      have fr1 := sk_asM_mfr (sk_tok C (C 29 3)) (C p 10) (C p 9 - 1) I h10.1
      have gA := (sk_gd_as hp hv (by omega) (sk_tok C (C 29 3))).1
      obtain ⟨q3, q4, q5, q6, q7, q8, q9, qp, q10, qo⟩ := sk_asI_r hp (sk_tok C (C 29 3)) C
      have q29 : sk_asI p (sk_tok C (C 29 3)) C 29 = C 29 := qo 29 (by rcases hp with rfl | rfl <;> omega) (by rcases hp with rfl | rfl <;> omega)
      have p29 : p ≠ 29 ∧ p + 3 ≠ 29 := by rcases hp with rfl | rfl <;> omega
      have hg2 := sk_gd_adv hp hMA.1 (by rw [q29, sk_tok_fp hp gA.2.1]; omega)
      rw [q29] at hg2
      have eN : sk_MT t n (sk_asI p (sk_tok C (C 29 3)) C) (sk_asM (sk_tok C (C 29 3)) (C p 10) (C p 9 - 1) I) := hMA.2.1
      obtain ⟨-, -, -, na4, -⟩ := sk_MT_tok hMA.1 eN
      have body : AW l E (d + (2 * k + 9)) 0 0 mX10_step 122 [some (vr 59), some (vi (11 - k)), some (vi (C p 10)), some (vi (200 + C p 10)), some (vi (sk_tok C (C 29 3)))] [vr 59] sk_G (sk_asM (sk_tok C (C 29 3)) (C p 10) (C p 9 - 1) I, L, sk_J cu sp io rp tp fp) Q := by
        generalize sk_asM (sk_tok C (C 29 3)) (C p 10) (C p 9 - 1) I = S at *
        refine AW_cV (M' := mX10_next) (d' := d + 5) rfl kkX10_223 lcX10_next rfl rfl rfl rfl rfl rfl (by omega) ?_
        refine c_M_next (d := d) eN.2.1.2.2.1 na4 (fun I' hI => ?_)
        have hMT := sk_MT_next hMA.1 eN hI
        rw [q29] at hMT
        have hMP := sk_MP_cg (C' := sk_uI (sk_asI p (sk_tok C (C 29 3)) C) 29 3 (C 29 3 + 1)) hMA.2.2 hI.1.2 (fun c hc => sk_uI_o hc) hp
        have q32 : sk_uI (sk_asI p (sk_tok C (C 29 3)) C) 29 3 (C 29 3 + 1) 32 = C 32 := by
          rw [sk_uI_o (by decide), qo 32 (by rcases hp with rfl | rfl <;> omega) (by rcases hp with rfl | rfl <;> omega)]
        have fr2 := sk_mfr_tr fr1 (sk_mfr_nx hI.1)
        have ed : d + (2 * k + 9) = (d + (2 * k + 2)) + 7 := by omega
        refine AW_run 0 rfl ?_
        rw [ed]
        refine c_M_nums hp (C p 10) (sk_tok C (C 29 3)) (11 - k) ⟨hg2.1, hMT, hMP⟩ ⟨h10.1, ?_⟩ ?_ ⟨hb.1, hw⟩ (fun e he I2 hJ => ?_) (fun x hx I2 hJ hfr => ?_)
        · rw [sk_uI_o p29.1, q10]; omega
        · rw [sk_uI_o p29.2, q3, sk_up_s]
        · rw [he] at h1
          have ed2 : d + (2 * k + 2) + 7 = (d + (2 * k + 6)) + 3 := by omega
          rw [ed2]
          exact c_M_rest_w _ _ _ ⟨hb.1, hw⟩ (by omega) (sk_MF_tr fr2 hJ q32) (fun I3 hK => h1 e rfl _ I3 (by omega) hK)
        · rw [hx] at h1 h2
          dsimp only at h1 h2
          have gx := sk_gd_rn hp hg2.1 hx
          have fr3 := sk_mfr_tr fr2 hfr
          have q32x := (sk_fp_32 hp gx.2.1).trans q32
          rw [← ed]
          refine c_M_rest k hk hp _ _ hJ (by omega) ⟨hb.1, hw⟩ hMB (fun e he I3 hK => ?_) (fun y hy I3 hK hfr2 => ?_)
          · rw [he] at h1
            exact h1 e rfl _ I3 (by omega) (sk_MF_tr fr3 hK q32x)
          · rw [hy] at h2
            exact h2 _ rfl I3 hK (sk_mfr_tr fr3 hfr2)
      have hk200 : sk_in (200 + C p 10) := by unfold sk_in; omega
      rw [← e66, ← e63, ← ew] at body
      refine AW_run 80 rfl ?_
      refine AW_iald rfl rfl ⟨by omega, by omega⟩ (by decide) ?_
      refine AW_run 80 rfl ?_
      refine AW_iald rfl rfl ⟨by omega, by omega⟩ (by decide) ?_
      refine AW_run 80 rfl ?_
      refine AW_iast rfl rfl ⟨by omega, by omega⟩ (by decide) ?_
      refine AW_run 80 rfl ?_
      refine AW_iast rfl rfl ⟨by omega, by omega⟩ (by decide) ?_
      refine AW_run 80 rfl ?_
      refine AW_iald rfl rfl ⟨by omega, by omega⟩ (by decide) ?_
      refine AW_run 80 rfl ?_
      refine AW_iast rfl rfl ⟨by omega, by omega⟩ (by decide) ?_
      refine AW_run 80 rfl ?_
      refine AW_iast rfl rfl ⟨by omega, by omega⟩ (by decide) ?_
      refine AW_run 80 rfl ?_
      refine AW_iast rfl rfl ⟨by omega, by omega⟩ (by decide) ?_
      refine AW_run 80 rfl ?_
      refine AW_iast rfl rfl ⟨by omega, by omega⟩ (by decide) ?_
      refine AW_run 80 rfl ?_
      refine AW_iast rfl rfl ⟨by omega, by omega⟩ (by decide) ?_
      refine AW_run 80 rfl ?_
      refine AW_iast rfl rfl ⟨by omega, by omega⟩ (by decide) ?_
      (refine AW_run 80 rfl ?_; (try simp only [sk_uI_s, sk_uI_o, sk_up_s, sk_up_o, sk_uL_s, sk_uL_o, ne_eq, Nat.reduceEqDiff, Nat.reduceAdd, Int.reduceEq, not_false_eq_true]))
      exact body
    · rw [if_pos (by omega)] at h1
      refine AW_run 80 rfl ?_
      refine AW_cV (M' := mX10_wrong) rfl kkX10_226 lcX10_wrong rfl rfl rfl rfl rfl rfl (Nat.le_refl _) ?_
      refine c_M_wrong 4 h26 ?_
      refine AW_run 80 rfl ?_
      exact AW_iret rfl rfl (h1 _ rfl 0 _ (by omega) (sk_MF_wr ⟨hv, hm, hP⟩ 4 (by omega)))
  · have hw : 12 < sk_tok C (C 29 3) := by
      apply Classical.byContradiction
      intro z
      have := w1 (by omega)
      omega
    rw [if_pos hw] at h1
    refine AW_run 80 rfl ?_
    refine AW_cV (M' := mX10_wrong) rfl kkX10_226 lcX10_wrong rfl rfl rfl rfl rfl rfl (Nat.le_refl _) ?_
    refine c_M_wrong 1 h26 ?_
    refine AW_run 80 rfl ?_
    exact AW_iret rfl rfl (h1 _ rfl 0 _ (by omega) (sk_MF_wr ⟨hv, hm, hP⟩ 1 (by omega)))
/-- the end of a block whose fault was found -/
theorem c_M_blk_w (h : sk_in (I 59 26)) (h0 : I 59 26 ≠ 0) (k : Int) (hq : Q (some (vi (-1))) sk_G (I, L, sk_J cu sp io rp tp fp)) : AW l E (d + 2) 0 0 mX10_block 33 [some (vr 59), some (vi k), none, none, none] [] sk_G (I, L, sk_J cu sp io rp tp fp) Q := by
  refine AW_run 80 rfl ?_
  refine AW_ifne rfl (fun g => ?_) (fun g => absurd g h0) h
  refine AW_run 80 rfl ?_
  refine AW_iald rfl rfl ⟨by omega, by omega⟩ (by decide) ?_
  refine AW_run 80 rfl ?_
  refine AW_iast rfl rfl ⟨by omega, by omega⟩ (by decide) ?_
  rw [sk_uI_id rfl]
  refine AW_run 80 rfl ?_
  refine AW_ifne rfl (fun g => ?_) (fun g => absurd g h0) h
  refine AW_run 80 rfl ?_
  refine AW_cV (M' := mX10_must) rfl kkX10_228 lcX10_must rfl rfl rfl rfl rfl rfl (Nat.le_refl _) ?_
  refine c_M_must_w h h0 _ ?_
  refine AW_run 80 rfl ?_
  exact AW_iret rfl rfl hq
theorem sk_MR_11 {xs : Int} (hp : sk_pg p) (h : sk_MR t n p xs C I) (v : Int) (hv : 0 ≤ v ∧ v ≤ 12) : sk_MR t n p xs (sk_uI C p 11 v) (sk_uI I 74 1 v) := by
  obtain ⟨hi, hm, hP⟩ := h
  have gd := sk_iv_11 hp hi v hv
  have o : ∀ c, c ≠ 74 → sk_uI I 74 1 v c = I c := fun c hc => sk_uI_o hc
  have q : ∀ c, c ≠ p → sk_uI C p 11 v c = C c := fun c hc => sk_uI_o hc
  have qp : ∀ j, j ≠ 11 → sk_uI C p 11 v p j = C p j := fun j hj => by rw [sk_uI_s, sk_up_o hj]
  refine ⟨gd.1, ?_, ?_⟩
  · obtain ⟨a, ⟨b1, b2, b3, b4, b5⟩, i, c1, c2⟩ := hm
    refine ⟨sk_tkn_fp hp a gd.2.1, ?_, i, by rw [q 29 (by rcases hp with rfl | rfl <;> omega)]; exact c1, ?_⟩
    · unfold sk_tm
      rw [o 59 (by decide), o 60 (by decide)]
      exact ⟨b1, b2, b3, b4, b5⟩
    · unfold sk_mat
      rw [o 59 (by decide)]
      exact c2
  · obtain ⟨⟨a1, a2, a3⟩, a4⟩ := hP
    unfold sk_MP sk_mr1
    rw [qp 9 (by decide), qp 10 (by decide), q (p + 3) (by omega), q (p + 4) (by omega), q (p + 5) (by omega), q (p + 6) (by omega), q (p + 7) (by omega), q (p + 8) (by omega), q (p + 9) (by omega), q 32 (by rcases hp with rfl | rfl <;> omega), q 33 (by rcases hp with rfl | rfl <;> omega), o 63 (by decide), o 66 (by decide), o 67 (by decide), o 68 (by decide), o 69 (by decide), o 70 (by decide), o 71 (by decide), o 72 (by decide), o 73 (by decide), o 76 (by decide)]
    refine ⟨⟨a1, a2, ?_⟩, a4⟩
    rw [sk_uI_s, sk_up_s, sk_uI_s, sk_up_s]
theorem c_M_loop (k : Nat) (hk : k + 1 ≤ 12) (hp : sk_pg p) (hMB : sk_MB l E d k t n p L (sk_J cu sp io rp tp fp)) : ∀ (m : Nat) (f la : Int) (C I : sk_SI), 201 ≤ m + C p 10 → sk_MR t n p (-1) C I → -1 ≤ f ∧ f ≤ 199 → -1 ≤ la ∧ la < C p 10 → (f = -1 ↔ la = -1) → (∀ e, sk_lpI (sk_stI (sk_blI p k) p) p m f la C = .inl e → ∀ v I', -1 ≤ v ∧ v ≤ 199 → sk_MF C I e I' → Q (some (vi v)) sk_G (I', L, sk_J cu sp io rp tp fp)) → (∀ x, sk_lpI (sk_stI (sk_blI p k) p) p m f la C = .inr x → ∀ I', sk_MR t n p (-1) x.2 I' → sk_mfr I I' → Q (some (vi x.1)) sk_G (I', L, sk_J cu sp io rp tp fp)) → AW l E (d + (2 * k + 10)) 0 0 mX10_block 78 [some (vr 59), some (vi (11 - k)), some (vi f), some (vi la), none] [vi (I 59 26)] sk_G (I, L, sk_J cu sp io rp tp fp) Q
  | 0, f, la, C, I, hm, h, hf, hla, hfl, h1, h2 => by
    have := h.1.2.2.2.1
    omega
  | m + 1, f, la, C, I, hm, h, hf, hla, hfl, h1, h2 => by
    obtain ⟨a1, a2, a3, a4, a5, a6⟩ := sk_MT_tok h.1 h.2.1
    have hb := sk_tok_b h.1.1 (C 29 3)
    have h26 := h.2.1.2.1.2.2.2.1
    have h10 := h.1.2.2.2.1
    have du := sk_du_17 _ hb.1 a5
    refine AW_ifne rfl (fun g => absurd h26 g) (fun g => ?_) (by rw [h26]; unfold sk_in; omega)
    refine AW_run 80 rfl ?_
    refine AW_iceq rfl (fun g => ?_) (fun g => ?_) (by unfold sk_in; omega)
    · rw [a1] at g
      have g := du.mp g
      refine AW_run 80 rfl ?_
      refine AW_cV (M' := mX10_must) (d' := d + 6) rfl kkX10_228 lcX10_must rfl rfl rfl rfl rfl rfl (by omega) ?_
      refine c_M_mustF (dc := 17) hp h sk_du_17 (by unfold sk_in; omega) (by omega) (fun e he I' hI => ?_) (fun x hx I' hI hfr => ?_)
      · unfold sk_tkI at he
        rw [if_pos g] at he
        cases he
      · have h2 := h2 (f, x.2) (by unfold sk_lpI; rw [if_pos g, (sk_tk_r hx).1]) I' hI hfr
        refine AW_run 80 rfl ?_
        exact AW_iret rfl rfl h2
    · rw [a1] at g
      have g : ¬ sk_tok C (C 29 3) = 17 := fun z => g (du.mpr z)
      unfold sk_lpI at h1 h2
      rw [if_neg g] at h1 h2
      refine AW_run 80 rfl ?_
      refine AW_cV (M' := mX10_step) (d' := d + (2 * k + 9)) rfl kkX10_231 lcX10_step rfl rfl rfl rfl rfl rfl (by omega) ?_
      refine c_M_rstep k (by omega) hp h hMB (fun e he v I' hv hI => ?_) (fun x hx I' hI hfr => ?_)
      · rw [he] at h1
        have h1 := h1 e rfl
        have fin : ∀ (f' la' : Int) (I2 : sk_SI), -1 ≤ f' ∧ f' ≤ 199 → sk_MF C I e I2 → AW l E (d + (2 * k + 10)) 0 0 mX10_block 78 [some (vr 59), some (vi (11 - k)), some (vi f'), some (vi la'), some (vi v)] [vi (I2 59 26)] sk_G (I2, L, sk_J cu sp io rp tp fp) Q := by
          intro f' la' I2 hf' hI2
          have h1 := h1 f' I2 hf' hI2
          have i1 := hI2.2.1
          have i2 := hI2.2.2.2.2
          have z1 : sk_in (I2 59 26) := by unfold sk_in; omega
          have z2 : I2 59 26 ≠ 0 := by omega
          refine AW_ifne rfl (fun g => ?_) (fun g => absurd g z2) z1
          refine AW_run 80 rfl ?_
          refine AW_cV (M' := mX10_must) (d' := d + 2) rfl kkX10_228 lcX10_must rfl rfl rfl rfl rfl rfl (by omega) ?_
          refine c_M_must_w (d := d + 1) z1 z2 _ ?_
          refine AW_run 80 rfl ?_
          exact AW_iret rfl rfl h1
        have tail : ∀ f' : Int, -1 ≤ f' ∧ f' ≤ 199 → AW l E (d + (2 * k + 10)) 0 0 mX10_block 111 [some (vr 59), some (vi (11 - k)), some (vi f'), some (vi la), some (vi v)] [vi (-1), vi la] sk_G (I', L, sk_J cu sp io rp tp fp) Q := by
          intro f' hf'
          refine AW_iceq rfl (fun g2 => ?_) (fun g2 => ?_) (by unfold sk_in; omega)
          · have fin := fin f' v I' hf' hI
            refine AW_run 80 rfl ?_
            exact fin
          · have hb2 : sk_in (200 + la) := by unfold sk_in; omega
            have fin := fin f' v _ hf' (sk_MF_row hI 71 (200 + la) v (by omega))
            refine AW_run 80 rfl ?_
            refine AW_iast rfl rfl ⟨by omega, by omega⟩ (by decide) ?_
            refine AW_run 80 rfl ?_
            exact fin
        refine AW_run 80 rfl ?_
        refine AW_icne rfl (fun g2 => ?_) (fun g2 => ?_) (by unfold sk_in; omega)
        · have tail := tail f hf
          refine AW_run 80 rfl ?_
          exact tail
        · have tail := tail v (by omega)
          refine AW_run 80 rfl ?_
          exact tail
      · rw [hx] at h1 h2
        dsimp only at h1 h2
        obtain ⟨gx, ex1, ex2⟩ := sk_gd_st hp (fun A u hA hu => (sk_gd_bl hp k (by omega) A u hA hu).1) h.1 hx
        have gx10 := gx.1.2.2.2.1
        have gle := gx.2.2.1
        have q32 := sk_fp_32 hp gx.2.1
        by_cases h0 : 0 ≤ la
        · rw [if_pos h0] at h1 h2
          have hb2 : sk_in (200 + la) := by unfold sk_in; omega
          have g7 := sk_gd_row hp gx.1 (p + 7) la x.1 (by omega)
          have e10 : sk_uI x.2 (p + 7) la x.1 p = x.2 p := sk_uI_o (by omega)
          have fr2 := sk_mfr_tr hfr (sk_mfr_row I' 71 (200 + la) x.1 (by omega))
          have ih := c_M_loop k hk hp hMB m f x.1 _ _ (by rw [e10]; omega) (sk_MR_row hp hI 7 (by omega) la x.1) hf (by rw [e10]; omega) (by omega) (fun e he v I2 hv hJ => h1 e he v I2 hv (sk_MF_tr fr2 hJ ((sk_fp_32 hp g7.2.1).trans q32))) (fun y hy I2 hJ hfr2 => h2 y hy I2 hJ (sk_mfr_tr fr2 hfr2))
          refine AW_run 80 rfl ?_
          refine AW_icne rfl (fun g2 => ?_) (fun g2 => by omega) (by unfold sk_in; omega)
          refine AW_run 80 rfl ?_
          refine AW_iceq rfl (fun g2 => by omega) (fun g2 => ?_) (by unfold sk_in; omega)
          refine AW_run 80 rfl ?_
          refine AW_iast rfl rfl ⟨by omega, by omega⟩ (by decide) ?_
          refine AW_run 80 rfl ?_
          exact AW_lk ih ⟨rfl, rfl, rfl, rfl, trivial⟩
        · rw [if_neg h0] at h1 h2
          have ih := c_M_loop k hk hp hMB m x.1 x.1 _ _ (by omega) hI (by omega) (by omega) (by omega) (fun e he v I2 hv hJ => h1 e he v I2 hv (sk_MF_tr hfr hJ q32)) (fun y hy I2 hJ hfr2 => h2 y hy I2 hJ (sk_mfr_tr hfr hfr2))
          refine AW_run 80 rfl ?_
          refine AW_icne rfl (fun g2 => by omega) (fun g2 => ?_) (by unfold sk_in; omega)
          refine AW_run 80 rfl ?_
          refine AW_iceq rfl (fun g2 => ?_) (fun g2 => by omega) (by unfold sk_in; omega)
          refine AW_run 80 rfl ?_
          exact AW_lk ih ⟨rfl, rfl, rfl, rfl, trivial⟩
end SKS4
section SKS5
variable {l : Launch} {E : sk_En} {d : Nat} {L : sk_SL} {cu sp io rp tp fp p : Nat} {t : Int → Int} {n : Int}
theorem c_M_block (hp : sk_pg p) : ∀ (k : Nat), k ≤ 12 → sk_MB l E d k t n p L (sk_J cu sp io rp tp fp)
  | 0, hk => by
    intro C I Q h h1 h2
    obtain ⟨a1, a2, a3, a4, a5, a6⟩ := sk_MT_tok h.1 h.2.1
    have hb := sk_tok_b h.1.1 (C 29 3)
    have h26 := h.2.1.2.1.2.2.2.1
    have du := sk_du_16 _ hb.1 a5
    have i26 : ∀ {e : Int × Int} {I'}, sk_MF C I e I' → sk_in (I' 59 26) ∧ I' 59 26 ≠ 0 := by
      intro e I' hI
      have := hI.2.1
      have := hI.2.2.2.2
      unfold sk_in
      omega
    unfold sk_blI at h1
    refine AW_run 80 rfl ?_
    refine AW_ifne rfl (fun g => absurd h26 g) (fun g => ?_) (by rw [h26]; unfold sk_in; omega)
    refine AW_run 80 rfl ?_
    refine AW_icne rfl (fun g2 => ?_) (fun g2 => ?_) (by unfold sk_in; omega)
    · refine AW_run 80 rfl ?_
      refine AW_cV (M' := mX10_must) (d' := d + 6) rfl kkX10_228 lcX10_must rfl rfl rfl rfl rfl rfl (by omega) ?_
      refine c_M_mustF (dc := 16) hp h sk_du_16 (by unfold sk_in; omega) (by omega) (fun e he I' hI => ?_) (fun x hx I' hI hfr => ?_)
      · rw [he] at h1
        exact c_M_blk_w (d := d + 6) (i26 hI).1 (i26 hI).2 _ (h1 e rfl (-1) I' (by omega) hI)
      · exact absurd (by rw [a1]; exact du.mpr (sk_tk_r hx).2) g2
    · rw [a1] at g2
      have g2 := du.mp g2
      have htk : sk_tkI 16 C = .inr (0, sk_uI C 29 3 (C 29 3 + 1)) := by unfold sk_tkI; rw [if_pos g2]
      rw [htk] at h1
      have e3 : sk_uI C 29 3 (C 29 3 + 1) 29 3 - 1 = C 29 3 := by rw [sk_uI_s, sk_up_s]; omega
      dsimp only at h1
      rw [e3] at h1
      have hMF := sk_MF_wr h 3 (by omega)
      have h1 := h1 _ rfl (-1) _ (by omega) hMF
      refine AW_run 80 rfl ?_
      refine AW_icne rfl (fun g3 => by omega) (fun g3 => ?_) (by unfold sk_in; omega)
      refine AW_run 80 rfl ?_
      refine AW_cV (M' := mX10_wrong) rfl kkX10_226 lcX10_wrong rfl rfl rfl rfl rfl rfl (Nat.le_refl _) ?_
      refine c_M_wrong 3 (by rw [h26]; unfold sk_in; omega) ?_
      generalize sk_mwr I 3 = S at *
      refine AW_run 80 rfl ?_
      refine AW_cV (M' := mX10_must) (d' := d + 6) rfl kkX10_228 lcX10_must rfl rfl rfl rfl rfl rfl (by omega) ?_
      refine c_M_must_w (d := d + 5) (i26 hMF).1 (i26 hMF).2 _ ?_
      exact c_M_blk_w (d := d + 6) (i26 hMF).1 (i26 hMF).2 _ h1
  | k + 1, hk => by
    intro C I Q h h1 h2
    have ih := c_M_block hp k (by omega)
    obtain ⟨a1, a2, a3, a4, a5, a6⟩ := sk_MT_tok h.1 h.2.1
    have hb := sk_tok_b h.1.1 (C 29 3)
    have h26 := h.2.1.2.1.2.2.2.1
    have i26 : ∀ {e : Int × Int} {I'}, sk_MF C I e I' → sk_in (I' 59 26) ∧ I' 59 26 ≠ 0 := by
      intro e I' hI
      have := hI.2.1
      have := hI.2.2.2.2
      unfold sk_in
      omega
    have ek : (12 : Int) - ((k + 1 : Nat) : Int) = 11 - k := by omega
    have ed : d + (2 * (k + 1) + 8) = d + (2 * k + 10) := by omega
    rw [ek, ed]
    unfold sk_blI at h1 h2
    have must : AW l E (d + (2 * k + 10)) 0 0 mX10_block 30 [some (vr 59), some (vi (11 - k)), none, none, none] [vi 21, vr 59] sk_G (I, L, sk_J cu sp io rp tp fp) Q := by
      refine AW_cV (M' := mX10_must) (d' := d + 6) rfl kkX10_228 lcX10_must rfl rfl rfl rfl rfl rfl (by omega) ?_
      refine c_M_mustF (dc := 16) hp h sk_du_16 (by unfold sk_in; omega) (by omega) (fun e he I' hI => ?_) (fun x hx I' hI hfr => ?_)
      · rw [he] at h1
        have ed2 : d + (2 * k + 10) = (d + (2 * k + 8)) + 2 := by omega
        rw [ed2]
        exact c_M_blk_w (i26 hI).1 (i26 hI).2 _ (h1 e rfl (-1) I' (by omega) hI)
      · rw [hx] at h1 h2
        dsimp only at h1 h2
        have gx := sk_gd_tk hp h.1 (by decide) hx
        have x11 := gx.1.2.2.2.2.2
        have x10 := gx.1.2.2.2.1
        have e74 : I' 74 1 = x.2 p 11 := hI.2.2.1.2.2
        have z26 := hI.2.1.2.1.2.2.2.1
        have hm : 0 ≤ max (x.2 p 11) (12 - (k : Int)) ∧ max (x.2 p 11) (12 - (k : Int)) ≤ 12 := by omega
        have g11 := sk_iv_11 hp gx.1 _ hm
        have hR := sk_MR_11 hp hI _ hm
        have fr1 := sk_mfr_tr hfr (sk_mfr_row I' 74 1 (max (x.2 p 11) (12 - (k : Int))) (by omega))
        have q32 := sk_fp_32 hp (sk_gd_tr gx g11).2.1
        have e10 : sk_uI x.2 p 11 (max (x.2 p 11) (12 - (k : Int))) p 10 = x.2 p 10 := by rw [sk_uI_s, sk_up_o (by decide)]
        have lp := c_M_loop (l := l) (E := E) (d := d) (L := L) (cu := cu) (sp := sp) (io := io) (rp := rp) (tp := tp) (fp := fp) (Q := Q) k hk hp ih 201 (-1) (-1) _ _ (by rw [e10]; omega) hR (by omega) (by rw [e10]; omega) (by omega) (fun e he v I2 hv hJ => h1 e he v I2 hv (sk_MF_tr fr1 hJ q32)) (fun y hy I2 hJ hfr2 => h2 y hy I2 hJ (sk_mfr_tr fr1 hfr2))
        refine AW_run 80 rfl ?_
        refine AW_ifne rfl (fun g => absurd z26 g) (fun g => ?_) (by rw [z26]; unfold sk_in; omega)
        refine AW_run 80 rfl ?_
        refine AW_iald rfl rfl ⟨by omega, by omega⟩ (by decide) ?_
        refine AW_run 80 rfl ?_
        refine AW_icle rfl (fun g2 => ?_) (fun g2 => ?_) (by unfold sk_in; omega) (by unfold sk_in; omega)
        · have emx : max (x.2 p 11) (12 - (k : Int)) = I' 74 1 := by omega
          rw [emx] at lp
          refine AW_run 80 rfl ?_
          refine AW_iald rfl rfl ⟨by omega, by omega⟩ (by decide) ?_
          refine AW_run 80 rfl ?_
          refine AW_iast rfl rfl ⟨by omega, by omega⟩ (by decide) ?_
          refine AW_run 80 rfl ?_
          exact lp
        · have emx : max (x.2 p 11) (12 - (k : Int)) = 11 - k + 1 := by omega
          rw [emx] at lp
          refine AW_run 80 rfl ?_
          refine AW_iast rfl rfl ⟨by omega, by omega⟩ (by decide) ?_
          refine AW_run 80 rfl ?_
          exact lp
    refine AW_run 80 rfl ?_
    refine AW_ifne rfl (fun g => absurd h26 g) (fun g => ?_) (by rw [h26]; unfold sk_in; omega)
    refine AW_run 80 rfl ?_
    refine AW_icne rfl (fun g2 => ?_) (fun g2 => ?_) (by unfold sk_in; omega)
    · refine AW_run 80 rfl ?_
      exact must
    · refine AW_run 80 rfl ?_
      refine AW_icne rfl (fun g3 => ?_) (fun g3 => by omega) (by unfold sk_in; omega)
      refine AW_run 80 rfl ?_
      exact must
end SKS5
