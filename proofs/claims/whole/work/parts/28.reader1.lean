/-! ===== Reader: broken, take, readNumber; the model's wrong, must, numberTo ===== -/
/-- the token at a number -/
def sk_tok (I : sk_SI) (i : Int) : Int := if 0 ≤ i ∧ i < I 30 2 then I 31 i else 20
/-- the tokens are as they should be, and the reader stands somewhere -/
def sk_tv (I : sk_SI) : Prop := 0 ≤ I 30 2 ∧ I 30 2 ≤ 1201 ∧ (∀ i, 0 ≤ i → i < I 30 2 → 0 ≤ I 31 i ∧ I 31 i ≤ 1099) ∧ 0 ≤ I 29 3 ∧ I 29 3 ≤ 1300
def sk_bk (I : sk_SI) (k t : Int) : sk_SI := sk_uI (sk_uI I 29 5 k) 29 4 t
theorem sk_tok_b {I : sk_SI} (h : sk_tv I) (i : Int) : 0 ≤ sk_tok I i ∧ sk_tok I i ≤ 1099 := by
  unfold sk_tok
  split
  · rename_i hc; exact h.2.2.1 i hc.1 hc.2
  · omega
section SKR1
variable {l : Launch} {E : sk_En} {d : Nat} {I : sk_SI} {L : sk_SL} {cu sp io rp tp fp : Nat} {Q : Option sk_V → List sk_Sh → sk_St → Prop}
theorem c_T_tok (i : Int) (h : sk_tv I) (hi : sk_in i) (hq : Q (some (vi (sk_tok I i))) sk_G (I, L, sk_J cu sp io rp tp fp)) : AW l E d 0 0 mX8_tokenAt 0 [some (vr 30), some (vi i)] [] sk_G (I, L, sk_J cu sp io rp tp fp) Q := by
  unfold sk_tok at hq
  refine c_T_tokenAt i hi ⟨h.1, h.2.1⟩ (fun a b => ?_) (fun a => ?_)
  · rwa [if_pos ⟨a, b⟩] at hq
  · rwa [if_neg a] at hq
theorem c_R_broken (k t : Int) (hq : Q (some (vi (-2))) sk_G (sk_bk I k t, L, sk_J cu sp io rp tp fp)) : AW l E d 0 0 mX3_broken 0 [some (vr 29), some (vi k), some (vi t)] [] sk_G (I, L, sk_J cu sp io rp tp fp) Q := by
  refine AW_run 80 rfl ?_
  exact AW_iret rfl rfl hq
theorem c_R_take (due : Int) (h : sk_tv I) (hd : sk_in due) (hT : sk_tok I (I 29 3) = due → Q (some (vi 1)) sk_G (sk_uI I 29 3 (I 29 3 + 1), L, sk_J cu sp io rp tp fp)) (hF : sk_tok I (I 29 3) ≠ due → Q (some (vi 0)) sk_G (sk_bk I 1 (I 29 3), L, sk_J cu sp io rp tp fp)) : AW l E (d + 1) 0 0 mX3_take 0 [some (vr 29), some (vi due)] [] sk_G (I, L, sk_J cu sp io rp tp fp) Q := by
  have hb := sk_tok_b h (I 29 3)
  have h3 := h.2.2.2
  refine AW_run 80 rfl ?_
  refine AW_cV (M' := mX8_tokenAt) rfl kkX3_46 lcX8_tokenAt rfl rfl rfl rfl rfl rfl (Nat.le_refl _) ?_
  refine c_T_tok _ h (by unfold sk_in; omega) ?_
  refine AW_run 80 rfl ?_
  refine AW_iceq rfl (fun g => ?_) (fun g => ?_) (by unfold sk_in; omega)
  · refine AW_run 80 rfl ?_
    exact AW_zret rfl rfl (Or.inr rfl) (hT g)
  · refine AW_run 80 rfl ?_
    refine AW_cV (M' := mX3_broken) rfl kkX3_69 lcX3_broken rfl rfl rfl rfl rfl rfl (Nat.le_refl _) ?_
    refine c_R_broken _ _ ?_
    refine AW_run 80 rfl ?_
    exact AW_zret rfl rfl (Or.inl rfl) (hF g)
theorem c_R_num (most : Int) (h : sk_tv I) (hm : 0 ≤ most ∧ most ≤ 999) (h1 : sk_tok I (I 29 3) < 100 → Q (some (vi (-2))) sk_G (sk_bk I 1 (I 29 3), L, sk_J cu sp io rp tp fp)) (h2 : 100 + most < sk_tok I (I 29 3) → Q (some (vi (-2))) sk_G (sk_bk I 2 (I 29 3), L, sk_J cu sp io rp tp fp)) (h3 : 100 ≤ sk_tok I (I 29 3) → sk_tok I (I 29 3) ≤ 100 + most → Q (some (vi (sk_tok I (I 29 3) - 100))) sk_G (sk_uI I 29 3 (I 29 3 + 1), L, sk_J cu sp io rp tp fp)) : AW l E (d + 1) 0 0 mX3_readNumber 0 [some (vr 29), some (vi most), none] [] sk_G (I, L, sk_J cu sp io rp tp fp) Q := by
  have hb := sk_tok_b h (I 29 3)
  have h4 := h.2.2.2
  refine AW_run 80 rfl ?_
  refine AW_cV (M' := mX8_tokenAt) rfl kkX3_46 lcX8_tokenAt rfl rfl rfl rfl rfl rfl (Nat.le_refl _) ?_
  refine c_T_tok _ h (by unfold sk_in; omega) ?_
  refine AW_run 80 rfl ?_
  refine AW_ifge rfl (fun g => ?_) (fun g => ?_) (by unfold sk_in; omega)
  · refine AW_run 80 rfl ?_
    refine AW_icle rfl (fun g2 => ?_) (fun g2 => ?_) (by unfold sk_in; omega) (by unfold sk_in; omega)
    · refine AW_run 80 rfl ?_
      exact AW_iret rfl rfl (h3 (by omega) (by omega))
    · refine AW_run 80 rfl ?_
      refine AW_cV (M' := mX3_broken) rfl kkX3_69 lcX3_broken rfl rfl rfl rfl rfl rfl (Nat.le_refl _) ?_
      refine c_R_broken _ _ ?_
      exact AW_iret rfl rfl (h2 (by omega))
  · refine AW_run 80 rfl ?_
    refine AW_cV (M' := mX3_broken) rfl kkX3_69 lcX3_broken rfl rfl rfl rfl rfl rfl (Nat.le_refl _) ?_
    refine c_R_broken _ _ ?_
    exact AW_iret rfl rfl (h1 (by omega))
/-- a fault of the model: only the first counts -/
def sk_mwr (I : sk_SI) (k : Int) : sk_SI := if I 59 26 = 0 then sk_uI (sk_uI I 59 26 k) 59 27 (I 59 22) else I
theorem c_M_wrong (k : Int) (h : sk_in (I 59 26)) (hq : Q none sk_G (sk_mwr I k, L, sk_J cu sp io rp tp fp)) : AW l E d 0 0 mX10_wrong 0 [some (vr 59), some (vi k)] [] sk_G (I, L, sk_J cu sp io rp tp fp) Q := by
  unfold sk_mwr at hq
  refine AW_run 80 rfl ?_
  refine AW_ifne rfl (fun g => ?_) (fun g => ?_) h
  · rw [if_neg g] at hq
    exact AW_vret rfl rfl hq
  · rw [if_pos g] at hq
    (refine AW_run 80 rfl ?_; (try simp only [sk_uI_s, sk_uI_o, sk_up_s, sk_up_o, sk_uL_s, sk_uL_o, ne_eq, Nat.reduceEqDiff, Nat.reduceAdd, Int.reduceEq, not_false_eq_true]))
    exact AW_vret rfl rfl hq
theorem c_M_must (k : Int) (ht : sk_tm I) (hto : 0 ≤ I 59 23 ∧ I 59 23 ≤ I 59 21) (h : sk_in (I 59 26)) (hk : sk_in k) (h24 : sk_in (I 59 24)) (h1 : I 59 26 = 0 → I 59 24 = k → ∀ I', sk_nxs I I' → Q none sk_G (I', L, sk_J cu sp io rp tp fp)) (h2 : ¬ (I 59 26 = 0 ∧ I 59 24 = k) → Q none sk_G (sk_mwr I 1, L, sk_J cu sp io rp tp fp)) : AW l E (d + 6) 0 0 mX10_must 0 [some (vr 59), some (vi k)] [] sk_G (I, L, sk_J cu sp io rp tp fp) Q := by
  have bad : ¬ (I 59 26 = 0 ∧ I 59 24 = k) → AW l E (d + 6) 0 0 mX10_must 22 [some (vr 59), some (vi k)] [] sk_G (I, L, sk_J cu sp io rp tp fp) Q := by
    intro g
    refine AW_run 80 rfl ?_
    refine AW_cV (M' := mX10_wrong) rfl kkX10_226 lcX10_wrong rfl rfl rfl rfl rfl rfl (Nat.le_refl _) ?_
    refine c_M_wrong 1 h ?_
    exact AW_vret rfl rfl (h2 g)
  refine AW_run 80 rfl ?_
  refine AW_ifne rfl (fun g => ?_) (fun g => ?_) h
  · exact bad (by omega)
  · refine AW_run 80 rfl ?_
    refine AW_icne rfl (fun g2 => ?_) (fun g2 => ?_) h24 hk
    · exact bad (by omega)
    · refine AW_run 80 rfl ?_
      refine AW_cV (M' := mX10_next) rfl kkX10_223 lcX10_next rfl rfl rfl rfl rfl rfl (Nat.le_refl _) ?_
      refine c_M_next (d := d) ht hto (fun I' hI => ?_)
      refine AW_run 80 rfl ?_
      exact AW_vret rfl rfl (h1 g g2 I' hI)
theorem c_M_num (most : Int) (ht : sk_tm I) (hto : 0 ≤ I 59 23 ∧ I 59 23 ≤ I 59 21) (h : sk_in (I 59 26)) (hm : sk_in most) (h24 : sk_in (I 59 24)) (h25 : sk_in (I 59 25)) (h1 : I 59 26 = 0 → I 59 24 = 20 → I 59 25 ≤ most → ∀ I', sk_nxs I I' → Q (some (vi (I 59 25))) sk_G (I', L, sk_J cu sp io rp tp fp)) (h2 : ¬ (I 59 26 = 0 ∧ I 59 24 = 20 ∧ I 59 25 ≤ most) → Q (some (vi 0)) sk_G (sk_mwr I (if I 59 24 = 20 then 2 else 1), L, sk_J cu sp io rp tp fp)) : AW l E (d + 6) 0 0 mX10_numberTo 0 [some (vr 59), some (vi most), none] [] sk_G (I, L, sk_J cu sp io rp tp fp) Q := by
  have bad : ¬ (I 59 26 = 0 ∧ I 59 24 = 20 ∧ I 59 25 ≤ most) → AW l E (d + 6) 0 0 mX10_numberTo 35 [some (vr 59), some (vi most), none] [] sk_G (I, L, sk_J cu sp io rp tp fp) Q := by
    intro g
    have h2 := h2 g
    refine AW_run 80 rfl ?_
    refine AW_icne rfl (fun g2 => ?_) (fun g2 => ?_) h24
    · rw [if_neg g2] at h2
      refine AW_run 80 rfl ?_
      refine AW_cV (M' := mX10_wrong) rfl kkX10_226 lcX10_wrong rfl rfl rfl rfl rfl rfl (Nat.le_refl _) ?_
      refine c_M_wrong 1 h ?_
      refine AW_run 80 rfl ?_
      exact AW_iret rfl rfl h2
    · rw [if_pos g2] at h2
      refine AW_run 80 rfl ?_
      refine AW_cV (M' := mX10_wrong) rfl kkX10_226 lcX10_wrong rfl rfl rfl rfl rfl rfl (Nat.le_refl _) ?_
      refine c_M_wrong 2 h ?_
      refine AW_run 80 rfl ?_
      exact AW_iret rfl rfl h2
  refine AW_run 80 rfl ?_
  refine AW_ifne rfl (fun g => ?_) (fun g => ?_) h
  · exact bad (by omega)
  · refine AW_run 80 rfl ?_
    refine AW_icne rfl (fun g2 => ?_) (fun g2 => ?_) h24
    · exact bad (by omega)
    · refine AW_run 80 rfl ?_
      refine AW_icgt rfl (fun g3 => ?_) (fun g3 => ?_) h25 hm
      · exact bad (by omega)
      · refine AW_run 80 rfl ?_
        refine AW_cV (M' := mX10_next) rfl kkX10_223 lcX10_next rfl rfl rfl rfl rfl rfl (Nat.le_refl _) ?_
        refine c_M_next (d := d) ht hto (fun I' hI => ?_)
        refine AW_run 80 rfl ?_
        exact AW_iret rfl rfl (h1 g g2 (by omega) I' hI)
end SKR1
