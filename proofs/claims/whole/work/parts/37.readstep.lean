/-! ===== Reader.readStep, by its function ===== -/
theorem sk_asI_29 {p : Nat} (hp : sk_pg p) (w : Int) (I : sk_SI) : sk_asI p w I 29 = I 29 := by
  unfold sk_asI
  have : (29 : Nat) ≠ p ∧ 29 ≠ p + 9 ∧ 29 ≠ p + 8 ∧ 29 ≠ p + 7 ∧ 29 ≠ p + 6 ∧ 29 ≠ p + 5 ∧ 29 ≠ p + 4 ∧ 29 ≠ p + 3 := by rcases hp with rfl | rfl <;> omega
  rw [sk_uI_o this.1, sk_uI_o this.2.1, sk_uI_o this.2.2.1, sk_uI_o this.2.2.2.1, sk_uI_o this.2.2.2.2.1, sk_uI_o this.2.2.2.2.2.1, sk_uI_o this.2.2.2.2.2.2.1, sk_uI_o this.2.2.2.2.2.2.2]
theorem sk_asI_5 (p : Nat) (w : Int) (I : sk_SI) : sk_asI p w I (p + 5) (I p 10) = -1 := by
  unfold sk_asI
  rw [sk_uI_o (by omega), sk_uI_o (by omega), sk_uI_o (by omega), sk_uI_o (by omega), sk_uI_o (by omega), sk_uI_s, sk_up_s]
theorem sk_asI_6 (p : Nat) (w : Int) (I : sk_SI) : sk_asI p w I (p + 6) (I p 10) = -1 := by
  unfold sk_asI
  rw [sk_uI_o (by omega), sk_uI_o (by omega), sk_uI_o (by omega), sk_uI_o (by omega), sk_uI_s, sk_up_s]
section SKR5
variable {l : Launch} {E : sk_En} {d : Nat} {I : sk_SI} {L : sk_SL} {cu sp rp tp fp : Nat} {Q : Option sk_V → List sk_Sh → sk_St → Prop}
theorem c_R_step (p k : Nat) (hp : sk_pg p) (hk : k ≤ 12) (h : sk_iv p I) (hRB : sk_RB l E d k p L (sk_J cu sp p rp tp fp)) (h1 : ∀ e, sk_stI (sk_blI p k) p I = .inl e → ∀ I', sk_flt p I e I' → Q (some (vi (-2))) sk_G (I', L, sk_J cu sp p rp tp fp)) (h2 : ∀ x, sk_stI (sk_blI p k) p I = .inr x → Q (some (vi x.1)) sk_G (x.2, L, sk_J cu sp p rp tp fp)) : AW l E (d + (3 * k + 8)) 0 0 mX3_readStep 0 [some (vr 29), some (vi (12 - k)), none, none] [] sk_G (I, L, sk_J cu sp p rp tp fp) Q := by
  have hp' := hp
  have hb := sk_tok_b h.1 (I 29 3)
  have hn := h.1.2.2.2
  have h10 := h.2.2.2.1
  generalize hw : sk_tok I (I 29 3) = w at hb
  have tail : w ≤ 12 → I p 10 < 200 → AW l E (d + (3 * k + 8)) 0 0 mX3_readStep 79 [some (vr 29), some (vi (12 - k)), some (vi w), some (vi (I p 10))] [vi (I p 10), vr p] sk_G (sk_uI (sk_asI p w I) 29 3 (I 29 3 + 1), L, sk_J cu sp p rp tp fp) Q := by
    intro g1 g2
    obtain ⟨ga, gb⟩ := sk_gd_as hp' h g2 w
    have e29 := sk_asI_29 hp' w I
    have gc := sk_gd_adv hp' ga.1 (by rw [e29, sk_tok_fp hp' ga.2.1, hw]; omega)
    rw [e29] at gc
    have gS := sk_gd_tr ga gc
    have p29 : p ≠ 29 := by rcases hp' with rfl | rfl <;> omega
    have e10 : sk_uI (sk_asI p w I) 29 3 (I 29 3 + 1) p 10 = I p 10 + 1 := by rw [sk_uI_o p29]; exact gb
    have e5 : sk_uI (sk_asI p w I) 29 3 (I 29 3 + 1) (p + 5) (I p 10) = -1 := by rw [sk_uI_o (by rcases hp' with rfl | rfl <;> omega)]; exact sk_asI_5 p w I
    have e6 : sk_uI (sk_asI p w I) 29 3 (I 29 3 + 1) (p + 6) (I p 10) = -1 := by rw [sk_uI_o (by rcases hp' with rfl | rfl <;> omega)]; exact sk_asI_6 p w I
    have e3 : sk_uI (sk_asI p w I) 29 3 (I 29 3 + 1) 29 3 = I 29 3 + 1 := by rw [sk_uI_s, sk_up_s]
    have hu : sk_stI (sk_blI p k) p I = (match sk_rnI p (I p 10) w (sk_uI (sk_asI p w I) 29 3 (I 29 3 + 1)) with
      | .inl e => .inl e
      | .inr x => match sk_rrI (sk_blI p k) p (I p 10) w x.2 with
        | .inl e => .inl e
        | .inr y => .inr (I p 10, y.2)) := by
      unfold sk_stI
      rw [hw, if_neg (by omega), if_neg (by omega)]
      all_goals rfl
    generalize sk_uI (sk_asI p w I) 29 3 (I 29 3 + 1) = S at *
    have hN := gS.1.2.1
    have hN2 := gS.1.1.2.1
    generalize I p 10 = s at *
    rcases hp with rfl | rfl <;>
    · refine AW_cV (M' := mX2_hasStep) rfl kkX3_100 lcX2_hasStep rfl rfl rfl rfl rfl rfl (Nat.le_refl _) ?_
      refine c_Pg_has _ hp' s (by unfold sk_in; omega) gS.1.2.2.2.1 (fun _ _ => ?_) (fun z => by omega)
      refine AW_run 80 rfl ?_
      first | refine AW_e1 rfl ?_ | refine AW_e0 rfl ?_ | refine AW_n1 rfl ?_ | refine AW_n0 rfl ?_
      refine AW_run 80 rfl ?_
      refine AW_cV (M' := mX3_readNumbers) rfl kkX3_112 lcX3_readNumbers rfl rfl rfl rfl rfl rfl (Nat.le_refl _) ?_
      refine c_R_numbers _ hp' s w (by omega) (by omega) gS.1.1 (by omega) e5 e6 (fun e he I' hI' => ?_) (fun x hx => ?_)
      · refine AW_run 80 rfl ?_
        first | refine AW_e1 rfl ?_ | refine AW_e0 rfl ?_ | refine AW_n1 rfl ?_ | refine AW_n0 rfl ?_
        refine AW_run 80 rfl ?_
        exact AW_iret rfl rfl (h1 e (by rw [hu, he]) I' (sk_flt_tr gS.2.1 hI'))
      · have gx := sk_gd_rn hp' gS.1 hx
        refine AW_run 80 rfl ?_
        first | refine AW_e1 rfl ?_ | refine AW_e0 rfl ?_ | refine AW_n1 rfl ?_ | refine AW_n0 rfl ?_
        refine AW_run 80 rfl ?_
        refine AW_cV (M' := mX3_readRest) (d' := d + (3 * k + 7)) rfl kkX3_115 lcX3_readRest rfl rfl rfl rfl rfl rfl (by omega) ?_
        refine c_R_rest _ k hp' hk s w (by omega) (by omega) gx.1 hRB (fun e he I' hI' => ?_) (fun y hy => ?_)
        · refine AW_run 80 rfl ?_
          first | refine AW_e1 rfl ?_ | refine AW_e0 rfl ?_ | refine AW_n1 rfl ?_ | refine AW_n0 rfl ?_
          refine AW_run 80 rfl ?_
          refine AW_iret rfl rfl (h1 e ?_ I' (sk_flt_tr (sk_fp_tr gS.2.1 gx.2.1) hI'))
          rw [hu, hx]
          dsimp only
          rw [he]
        · refine AW_run 80 rfl ?_
          first | refine AW_e1 rfl ?_ | refine AW_e0 rfl ?_ | refine AW_n1 rfl ?_ | refine AW_n0 rfl ?_
          refine AW_run 80 rfl ?_
          refine AW_iret rfl rfl (h2 (s, y.2) ?_)
          rw [hu, hx]
          dsimp only
          rw [hy]
  rcases hp with rfl | rfl <;>
  · refine AW_run 80 rfl ?_
    refine AW_cV (M' := mX8_tokenAt) rfl kkX3_46 lcX8_tokenAt rfl rfl rfl rfl rfl rfl (Nat.le_refl _) ?_
    refine c_T_tok _ h.1 (by unfold sk_in; omega) ?_
    rw [hw]
    refine AW_run 80 rfl ?_
    refine AW_iflt rfl (fun g => by omega) (fun g => ?_) (by unfold sk_in; omega)
    refine AW_run 80 rfl ?_
    refine AW_icle rfl (fun g1 => ?_) (fun g1 => ?_) (by unfold sk_in; omega)
    · refine AW_run 80 rfl ?_
      refine AW_iclt rfl (fun g2 => ?_) (fun g2 => ?_) (by unfold sk_in; omega)
      · refine AW_run 80 rfl ?_
        refine AW_cV (M' := mX2_addStep) rfl kkX3_109 lcX2_addStep rfl rfl rfl rfl rfl rfl (Nat.le_refl _) ?_
        refine c_Pg_addStep _ hp' w (by omega) ?_
        have t := tail g1 g2
        have e29 := sk_asI_29 hp' w I
        rw [← congrFun e29 3] at t
        refine AW_run 80 rfl ?_
        exact t
      · refine AW_run 80 rfl ?_
        refine AW_cV (M' := mX3_broken) rfl kkX3_69 lcX3_broken rfl rfl rfl rfl rfl rfl (Nat.le_refl _) ?_
        refine c_R_broken _ _ ?_
        exact AW_iret rfl rfl (h1 (4, I 29 3) (by unfold sk_stI; rw [hw, if_neg (by omega), if_pos (by omega)]) _ (sk_flt_bk _ hp' I 4 _))
    · refine AW_run 80 rfl ?_
      refine AW_cV (M' := mX3_broken) rfl kkX3_69 lcX3_broken rfl rfl rfl rfl rfl rfl (Nat.le_refl _) ?_
      refine c_R_broken _ _ ?_
      exact AW_iret rfl rfl (h1 (1, I 29 3) (by unfold sk_stI; rw [hw, if_pos (by omega)]) _ (sk_flt_bk _ hp' I 1 _))
end SKR5
