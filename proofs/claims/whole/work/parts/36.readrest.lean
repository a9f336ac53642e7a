/-! ===== Reader.readRest, over a reader of blocks ===== -/
/-- readBlock at k more blocks, by its function -/
def sk_RB (l : Launch) (E : sk_En) (d k p : Nat) (L : sk_SL) (J : sk_SR) : Prop := ∀ (I : sk_SI) (Q : Option sk_V → List sk_Sh → sk_St → Prop), sk_iv p I → (∀ e, sk_blI p k I = .inl e → ∀ I', sk_flt p I e I' → Q (some (vi (-2))) sk_G (I', L, J)) → (∀ x, sk_blI p k I = .inr x → Q (some (vi x.1)) sk_G (x.2, L, J)) → AW l E (d + (3 * k + 6)) 0 0 mX3_readBlock 0 [some (vr 29), some (vi (13 - k)), none, none, none, none] [] sk_G (I, L, J) Q
theorem sk_bs_b {w : Int} (h : 0 ≤ w ∧ w ≤ 12) : sk_bs w = 0 ∨ sk_bs w = 1 ∨ sk_bs w = 2 := by
  rcases (show w = 0 ∨ w = 1 ∨ w = 2 ∨ w = 3 ∨ w = 4 ∨ w = 5 ∨ w = 6 ∨ w = 7 ∨ w = 8 ∨ w = 9 ∨ w = 10 ∨ w = 11 ∨ w = 12 by omega) with rfl | rfl | rfl | rfl | rfl | rfl | rfl | rfl | rfl | rfl | rfl | rfl | rfl <;> decide
section SKR4
variable {l : Launch} {E : sk_En} {d : Nat} {I : sk_SI} {L : sk_SL} {cu sp rp tp fp : Nat} {Q : Option sk_V → List sk_Sh → sk_St → Prop}
theorem c_R_takeF (p : Nat) (hp : sk_pg p) {J : sk_SR} {io : Nat} (hJ : J = sk_J cu sp io rp tp fp) (due : Int) (h : sk_tv I) (hd : sk_in due) (h1 : ∀ e, sk_tkI due I = .inl e → ∀ I', sk_flt p I e I' → Q (some (vi 0)) sk_G (I', L, J)) (h2 : ∀ x, sk_tkI due I = .inr x → Q (some (vi 1)) sk_G (x.2, L, J)) : AW l E (d + 1) 0 0 mX3_take 0 [some (vr 29), some (vi due)] [] sk_G (I, L, J) Q := by
  subst hJ
  refine c_R_take due h hd (fun g => ?_) (fun g => ?_)
  · exact h2 (0, sk_uI I 29 3 (I 29 3 + 1)) (by unfold sk_tkI; rw [if_pos g])
  · exact h1 (1, I 29 3) (by unfold sk_tkI; rw [if_neg g]) _ (sk_flt_bk p hp I 1 _)
theorem c_R_rest (p k : Nat) (hp : sk_pg p) (hk : k ≤ 12) (s w : Int) (hs : 0 ≤ s ∧ s < 200) (hw : 0 ≤ w ∧ w ≤ 12) (h : sk_iv p I) (hRB : sk_RB l E d k p L (sk_J cu sp p rp tp fp)) (h1 : ∀ e, sk_rrI (sk_blI p k) p s w I = .inl e → ∀ I', sk_flt p I e I' → Q (some (vi 0)) sk_G (I', L, sk_J cu sp p rp tp fp)) (h2 : ∀ x, sk_rrI (sk_blI p k) p s w I = .inr x → Q (some (vi 1)) sk_G (x.2, L, sk_J cu sp p rp tp fp)) : AW l E (d + (3 * k + 7)) 0 0 mX3_readRest 0 [some (vr 29), some (vi s), some (vi w), some (vi (12 - k)), none] [] sk_G (I, L, sk_J cu sp p rp tp fp) Q := by
  have hbs := sk_bs_b hw
  have hp' := hp
  have ek : (12 - (k : Int)) + 1 = 13 - k := by omega
  have two : sk_bs w = 2 → ∀ x, sk_blI p k I = .inr x → ∀ due : Int, due = (if w = 11 then 14 else 13) → AW l E (d + (3 * k + 7)) 0 0 mX3_readRest 104 [some (vr 29), some (vi s), some (vi w), some (vi (12 - k)), some (vi (sk_bs w))] [vi due, vr 29] sk_G (sk_uI x.2 (p + 8) s x.1, L, sk_J cu sp p rp tp fp) Q := by
    intro hb2 x hx due hdue
    have g : ¬ sk_bs w = 0 := by omega
    obtain ⟨gd, gx1, gx2⟩ := sk_gd_bl hp' k hk I x h hx
    have gS := sk_gd_tr gd (sk_gd_row hp' gd.1 (p + 8) s x.1 (Or.inr (by omega)))
    rcases hp with rfl | rfl <;>
    · have hdi : sk_in due := by rw [hdue]; unfold sk_in; split <;> omega
      have hd20 : due ≠ 20 := by rw [hdue]; split <;> omega
      refine AW_cV (M' := mX3_take) rfl kkX3_62 lcX3_take rfl rfl rfl rfl rfl rfl (Nat.le_refl _) ?_
      refine c_R_takeF _ hp' rfl due gS.1.1 hdi (fun e he I' hI' => ?_) (fun y hy => ?_)
      · refine AW_run 80 rfl ?_
        first | refine AW_e1 rfl ?_ | refine AW_e0 rfl ?_ | refine AW_n1 rfl ?_ | refine AW_n0 rfl ?_
        refine AW_run 80 rfl ?_
        refine AW_zret rfl rfl (Or.inl rfl) (h1 e ?_ I' (sk_flt_tr gS.2.1 hI'))
        unfold sk_rrI
        rw [if_neg g, hx]
        dsimp only
        rw [if_neg (by omega), ← hdue, he]
      · have gy := sk_gd_tr gS (sk_gd_tk hp' gS.1 hd20 hy)
        refine AW_run 80 rfl ?_
        first | refine AW_e1 rfl ?_ | refine AW_e0 rfl ?_ | refine AW_n1 rfl ?_ | refine AW_n0 rfl ?_
        refine AW_run 80 rfl ?_
        rw [ek]
        refine AW_cV (M' := mX3_readBlock) (d' := d + (3 * k + 6)) rfl kkX3_79 lcX3_readBlock rfl rfl rfl rfl rfl rfl (by omega) ?_
        refine hRB y.2 _ gy.1 (fun e he I' hI' => ?_) (fun z hz => ?_)
        · have hQ := h1 e (by
            unfold sk_rrI
            rw [if_neg g, hx]
            dsimp only
            rw [if_neg (by omega), ← hdue, hy]
            dsimp only
            rw [he]) _ (sk_flt_pg hp' (sk_flt_tr gy.2.1 hI') _ s (-2) (Or.inr ⟨Nat.le_add_right _ 9, Nat.le_refl _⟩))
          refine AW_run 80 rfl ?_
          refine AW_iast rfl rfl ⟨by omega, by omega⟩ (by decide) ?_
          refine AW_run 80 rfl ?_
          refine AW_iald rfl rfl ⟨by omega, by omega⟩ (by decide) ?_
          (try simp only [sk_uI_s, sk_uI_o, sk_up_s, sk_up_o, sk_uL_s, sk_uL_o, ne_eq, Nat.reduceEqDiff, Nat.reduceAdd, Int.reduceEq, not_false_eq_true])
          refine AW_run 80 rfl ?_
          refine AW_iceq rfl (fun g3 => ?_) (fun g3 => by omega)
          refine AW_run 80 rfl ?_
          exact AW_zret rfl rfl (Or.inl rfl) hQ
        · obtain ⟨gz, gz1, gz2⟩ := sk_gd_bl hp' k hk y.2 z gy.1 hz
          have hz10 := gz.1.2.2.2.1
          have hQ := h2 (0, sk_uI z.2 _ s z.1) (by
            unfold sk_rrI
            rw [if_neg g, hx]
            dsimp only
            rw [if_neg (by omega), ← hdue, hy]
            dsimp only
            rw [hz])
          refine AW_run 80 rfl ?_
          refine AW_iast rfl rfl ⟨by omega, by omega⟩ (by decide) ?_
          refine AW_run 80 rfl ?_
          refine AW_iald rfl rfl ⟨by omega, by omega⟩ (by decide) ?_
          (try simp only [sk_uI_s, sk_uI_o, sk_up_s, sk_up_o, sk_uL_s, sk_uL_o, ne_eq, Nat.reduceEqDiff, Nat.reduceAdd, Int.reduceEq, not_false_eq_true])
          refine AW_run 80 rfl ?_
          refine AW_iceq rfl (fun g3 => by omega) (fun g3 => ?_) (by unfold sk_in; omega)
          refine AW_run 80 rfl ?_
          exact AW_zret rfl rfl (Or.inr rfl) hQ
  rcases hp with rfl | rfl <;>
  · refine AW_run 80 rfl ?_
    refine AW_gets rfl ?_
    refine AW_xlen rfl (by decide) ?_
    refine AW_within rfl kkX3_82 rfl (by omega) (fun w1 w2 => ?_) (fun w3 => by omega)
    refine AW_run 80 rfl ?_
    first | refine AW_e1 rfl ?_ | refine AW_e0 rfl ?_ | refine AW_n1 rfl ?_ | refine AW_n0 rfl ?_
    refine AW_gets rfl ?_
    refine AW_run 80 rfl ?_
    refine AW_xld (x := 2) rfl rfl ⟨hw.1, by omega⟩ ?_
    change AW l E (d + (3 * k + 7)) 0 0 mX3_readRest _ _ [vi (sk_bs w)] sk_G _ Q
    refine AW_run 80 rfl ?_
    refine AW_ifne rfl (fun g => ?_) (fun g => ?_) (by unfold sk_in; omega)
    · refine AW_run 80 rfl ?_
      rw [ek]
      refine AW_cV (M' := mX3_readBlock) (d' := d + (3 * k + 6)) rfl kkX3_79 lcX3_readBlock rfl rfl rfl rfl rfl rfl (by omega) ?_
      refine hRB I _ h (fun e he I' hI' => ?_) (fun x hx => ?_)
      · have hQ := h1 e (by unfold sk_rrI; rw [if_neg g, he]) _ (sk_flt_pg hp' hI' _ s (-2) (Or.inr ⟨Nat.le_add_right _ 8, by omega⟩))
        refine AW_run 80 rfl ?_
        refine AW_iast rfl rfl ⟨by omega, by omega⟩ (by decide) ?_
        refine AW_run 80 rfl ?_
        refine AW_iceq rfl (fun g2 => ?_) (fun g2 => ?_) (by unfold sk_in; omega)
        · refine AW_run 80 rfl ?_
          refine AW_iald rfl rfl ⟨by omega, by omega⟩ (by decide) ?_
          (try simp only [sk_uI_s, sk_uI_o, sk_up_s, sk_up_o, sk_uL_s, sk_uL_o, ne_eq, Nat.reduceEqDiff, Nat.reduceAdd, Int.reduceEq, not_false_eq_true])
          refine AW_run 80 rfl ?_
          refine AW_iceq rfl (fun g3 => ?_) (fun g3 => by omega)
          refine AW_run 80 rfl ?_
          exact AW_zret rfl rfl (Or.inl rfl) hQ
        · refine AW_run 80 rfl ?_
          refine AW_iald rfl rfl ⟨by omega, by omega⟩ (by decide) ?_
          (try simp only [sk_uI_s, sk_uI_o, sk_up_s, sk_up_o, sk_uL_s, sk_uL_o, ne_eq, Nat.reduceEqDiff, Nat.reduceAdd, Int.reduceEq, not_false_eq_true])
          refine AW_run 80 rfl ?_
          refine AW_icne rfl (fun g3 => by omega) (fun g3 => ?_)
          refine AW_run 80 rfl ?_
          refine AW_iald rfl rfl ⟨by omega, by omega⟩ (by decide) ?_
          (try simp only [sk_uI_s, sk_uI_o, sk_up_s, sk_up_o, sk_uL_s, sk_uL_o, ne_eq, Nat.reduceEqDiff, Nat.reduceAdd, Int.reduceEq, not_false_eq_true])
          refine AW_run 80 rfl ?_
          refine AW_iceq rfl (fun g3 => ?_) (fun g3 => by omega)
          refine AW_run 80 rfl ?_
          exact AW_zret rfl rfl (Or.inl rfl) hQ
      · obtain ⟨gd, gx1, gx2⟩ := sk_gd_bl hp' k hk I x h hx
        have hx10 := gd.1.2.2.2.1
        refine AW_run 80 rfl ?_
        refine AW_iast rfl rfl ⟨by omega, by omega⟩ (by decide) ?_
        refine AW_run 80 rfl ?_
        refine AW_iceq rfl (fun g2 => ?_) (fun g2 => ?_) (by unfold sk_in; omega)
        · have hQ := h2 (0, sk_uI x.2 _ s x.1) (by
            unfold sk_rrI
            rw [if_neg g, hx]
            dsimp only
            rw [if_pos g2])
          refine AW_run 80 rfl ?_
          refine AW_iald rfl rfl ⟨by omega, by omega⟩ (by decide) ?_
          (try simp only [sk_uI_s, sk_uI_o, sk_up_s, sk_up_o, sk_uL_s, sk_uL_o, ne_eq, Nat.reduceEqDiff, Nat.reduceAdd, Int.reduceEq, not_false_eq_true])
          refine AW_run 80 rfl ?_
          refine AW_iceq rfl (fun g3 => by omega) (fun g3 => ?_) (by unfold sk_in; omega)
          refine AW_run 80 rfl ?_
          exact AW_zret rfl rfl (Or.inr rfl) hQ
        · refine AW_run 80 rfl ?_
          refine AW_iald rfl rfl ⟨by omega, by omega⟩ (by decide) ?_
          (try simp only [sk_uI_s, sk_uI_o, sk_up_s, sk_up_o, sk_uL_s, sk_uL_o, ne_eq, Nat.reduceEqDiff, Nat.reduceAdd, Int.reduceEq, not_false_eq_true])
          refine AW_run 80 rfl ?_
          refine AW_icne rfl (fun g3 => ?_) (fun g3 => by omega) (by unfold sk_in; omega)
          refine AW_run 80 rfl ?_
          refine AW_icne rfl (fun g4 => ?_) (fun g4 => ?_) (by unfold sk_in; omega)
          · refine AW_run 80 rfl ?_
            exact two (by omega) x hx 13 (by rw [if_neg g4])
          · refine AW_run 80 rfl ?_
            exact two (by omega) x hx 14 (by rw [if_pos g4])
    · refine AW_run 80 rfl ?_
      refine AW_cV (M' := mX3_take) rfl kkX3_62 lcX3_take rfl rfl rfl rfl rfl rfl (Nat.le_refl _) ?_
      refine c_R_takeF _ hp' rfl 18 h.1 (by unfold sk_in; omega) (fun e he I' hI' => ?_) (fun x hx => ?_)
      · exact AW_zret rfl rfl (Or.inl rfl) (h1 e (by unfold sk_rrI; rw [if_pos g]; exact he) I' hI')
      · exact AW_zret rfl rfl (Or.inr rfl) (h2 x (by unfold sk_rrI; rw [if_pos g]; exact hx))
end SKR4
