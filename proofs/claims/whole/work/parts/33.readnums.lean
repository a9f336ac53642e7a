/-! ===== Reader.readNumbers, by its function ===== -/
section SKR3
variable {l : Launch} {E : sk_En} {d : Nat} {I : sk_SI} {L : sk_SL} {cu sp rp tp fp : Nat} {Q : Option sk_V → List sk_Sh → sk_St → Prop}
theorem c_R_numbers (p : Nat) (hp : sk_pg p) (s w : Int) (hs : 0 ≤ s ∧ s < 200) (hw : 0 ≤ w ∧ w ≤ 12) (h : sk_tv I) (hnow : I 29 3 ≤ 1290) (h5 : I (p + 5) s = -1) (h6 : I (p + 6) s = -1) (h1 : ∀ e, sk_rnI p s w I = .inl e → ∀ I', sk_flt p I e I' → Q (some (vi 0)) sk_G (I', L, sk_J cu sp p rp tp fp)) (h2 : ∀ x, sk_rnI p s w I = .inr x → Q (some (vi 1)) sk_G (x.2, L, sk_J cu sp p rp tp fp)) : AW l E (d + 2) 0 0 mX3_readNumbers 0 [some (vr 29), some (vi s), some (vi w)] [] sk_G (I, L, sk_J cu sp p rp tp fp) Q := by
  have hmf := sk_mf_b hw
  have hms := sk_ms_b hw
  have hp' := hp
  -- the end, where both are good
  have good : ∀ S : sk_SI, -1 ≤ S (p + 5) s ∧ S (p + 5) s ≤ 999 → -1 ≤ S (p + 6) s ∧ S (p + 6) s ≤ 999 → Q (some (vi 1)) sk_G (S, L, sk_J cu sp p rp tp fp) → AW l E (d + 2) 0 0 mX3_readNumbers 114 [some (vr 29), some (vi s), some (vi w)] [] sk_G (S, L, sk_J cu sp p rp tp fp) Q := by
    intro S a b hq
    rcases hp with rfl | rfl <;>
    · simp only [Nat.reduceAdd] at a b
      refine AW_run 80 rfl ?_
      refine AW_iald rfl rfl ⟨by omega, by omega⟩ (by decide) ?_
      refine AW_run 80 rfl ?_
      refine AW_iceq rfl (fun g => by omega) (fun g => ?_) (by unfold sk_in; omega)
      refine AW_run 80 rfl ?_
      refine AW_iald rfl rfl ⟨by omega, by omega⟩ (by decide) ?_
      refine AW_run 80 rfl ?_
      refine AW_iceq rfl (fun g => by omega) (fun g => ?_) (by unfold sk_in; omega)
      refine AW_run 80 rfl ?_
      exact AW_zret rfl rfl (Or.inr rfl) hq
  have bad : ∀ S : sk_SI, S (p + 5) s = -2 ∨ (-1 ≤ S (p + 5) s ∧ S (p + 5) s ≤ 999 ∧ S (p + 6) s = -2) → Q (some (vi 0)) sk_G (S, L, sk_J cu sp p rp tp fp) → AW l E (d + 2) 0 0 mX3_readNumbers 114 [some (vr 29), some (vi s), some (vi w)] [] sk_G (S, L, sk_J cu sp p rp tp fp) Q := by
    intro S a hq
    rcases hp with rfl | rfl <;>
    · simp only [Nat.reduceAdd] at a
      refine AW_run 80 rfl ?_
      refine AW_iald rfl rfl ⟨by omega, by omega⟩ (by decide) ?_
      refine AW_run 80 rfl ?_
      refine AW_iceq rfl (fun g => ?_) (fun g => ?_) (by unfold sk_in; omega)
      · refine AW_run 80 rfl ?_
        exact AW_zret rfl rfl (Or.inl rfl) hq
      · refine AW_run 80 rfl ?_
        refine AW_iald rfl rfl ⟨by omega, by omega⟩ (by decide) ?_
        refine AW_run 80 rfl ?_
        refine AW_iceq rfl (fun g => ?_) (fun g => by omega) (by unfold sk_in; omega)
        refine AW_run 80 rfl ?_
        exact AW_zret rfl rfl (Or.inl rfl) hq
  -- the second number
  have sec : ∀ S : sk_SI, sk_tv S → sk_fp p I S → -1 ≤ S (p + 5) s ∧ S (p + 5) s ≤ 999 → S (p + 6) s = -1 → sk_rnI p s w I = sk_n1I (sk_ms w) (p + 6) s S → AW l E (d + 2) 0 0 mX3_readNumbers 73 [some (vr 29), some (vi s), some (vi w)] [] sk_G (S, L, sk_J cu sp p rp tp fp) Q := by
    intro S hv hf a b hr
    have fin : ∀ c : Int, sk_ms w = -1 → AW l E (d + 2) 0 0 mX3_readNumbers 114 [some (vr 29), some (vi s), some (vi w)] [] sk_G (S, L, sk_J cu sp p rp tp fp) Q := by
      intro _ hc
      refine good S a (by omega) (h2 (0, S) ?_)
      rw [hr, sk_n1I, if_pos hc]
    rcases hp with rfl | rfl <;>
    · simp only [Nat.reduceAdd] at a b
      refine AW_run 80 rfl ?_
      refine AW_iald rfl rfl ⟨by omega, by omega⟩ (by decide) ?_
      refine AW_run 80 rfl ?_
      refine AW_iceq rfl (fun g => by omega) (fun g => ?_) (by unfold sk_in; omega)
      refine AW_gets rfl ?_
      refine AW_run 80 rfl ?_
      refine AW_xld (x := 1) rfl rfl ⟨hw.1, by omega⟩ ?_
      change AW l E (d + 2) 0 0 mX3_readNumbers _ _ [vi (sk_ms w)] sk_G _ Q
      refine AW_run 80 rfl ?_
      refine AW_iceq rfl (fun g2 => ?_) (fun g2 => ?_) (by unfold sk_in; omega)
      · exact fin 0 g2
      · refine AW_run 80 rfl ?_
        refine AW_gets rfl ?_
        refine AW_run 80 rfl ?_
        refine AW_xld (x := 1) rfl rfl ⟨hw.1, by omega⟩ ?_
        refine AW_cV (M' := mX3_readNumber) rfl kkX3_73 lcX3_readNumber rfl rfl rfl rfl rfl rfl (Nat.le_refl _) ?_
        refine c_R_numF (sk_ms w) hv (by omega) (fun e he => ?_) (fun x hx x1 x2 => ?_)
        · refine AW_run 80 rfl ?_
          refine AW_iast rfl rfl ⟨by omega, by omega⟩ (by decide) ?_
          refine bad _ (Or.inr ?_) (h1 e ?_ _ ?_)
          · simp only [Nat.reduceAdd]
            rw [sk_uI_o (by decide), sk_uI_s, sk_up_s, sk_bk_o _ _ _ _ (by decide)]
            exact ⟨a.1, a.2, rfl⟩
          · rw [hr, sk_n1I, if_neg g2, he]
          · exact sk_flt_pg hp' (sk_flt_tr hf (sk_flt_bk _ hp' S e.1 e.2)) _ _ _ (by omega)
        · obtain ⟨q1, q2, q3, q4⟩ := sk_nuI_r hx
          refine AW_run 80 rfl ?_
          refine AW_iast rfl rfl ⟨by omega, by omega⟩ (by decide) ?_
          refine good _ ?_ ?_ (h2 (0, sk_uI x.2 _ s x.1) ?_)
          · simp only [Nat.reduceAdd]
            rw [sk_uI_o (by decide), q1, sk_uI_o (by decide)]
            exact a
          · simp only [Nat.reduceAdd]
            rw [sk_uI_s, sk_up_s]
            omega
          · rw [hr, sk_n1I, if_neg g2, hx]
  have hf0 : sk_fp p I (sk_uI I 33 s (I 29 3)) := sk_fp_pg p hp I 33 s _ (Or.inl rfl)
  have hv0 : sk_tv (sk_uI I 33 s (I 29 3)) := sk_tv_fp hp h hf0 (by rw [sk_uI_o (by decide)]; exact h.2.2.2)
  have h29 := h.2.2.2
  rcases hp with rfl | rfl <;>
  · simp only [Nat.reduceAdd] at h5 h6
    refine AW_run 80 rfl ?_
    refine AW_gets rfl ?_
    refine AW_xlen rfl (by decide) ?_
    refine AW_within rfl kkX3_82 rfl (by omega) (fun w1 w2 => ?_) (fun w3 => by omega)
    refine AW_run 80 rfl ?_
    first | refine AW_e1 rfl ?_ | refine AW_e0 rfl ?_ | refine AW_n1 rfl ?_ | refine AW_n0 rfl ?_
    refine AW_run 80 rfl ?_
    refine AW_gets rfl ?_
    refine AW_xlen rfl (by decide) ?_
    refine AW_within rfl kkX3_82 rfl (by omega) (fun w1 w2 => ?_) (fun w3 => by omega)
    refine AW_run 80 rfl ?_
    first | refine AW_e1 rfl ?_ | refine AW_e0 rfl ?_ | refine AW_n1 rfl ?_ | refine AW_n0 rfl ?_
    refine AW_run 80 rfl ?_
    refine AW_within rfl kkX3_82 rfl (by omega) (fun w1 w2 => ?_) (fun w3 => by omega)
    refine AW_run 80 rfl ?_
    first | refine AW_e1 rfl ?_ | refine AW_e0 rfl ?_ | refine AW_n1 rfl ?_ | refine AW_n0 rfl ?_
    refine AW_run 80 rfl ?_
    refine AW_iast rfl rfl ⟨by omega, by omega⟩ (by decide) ?_
    refine AW_gets rfl ?_
    refine AW_run 80 rfl ?_
    refine AW_xld (x := 0) rfl rfl ⟨hw.1, by omega⟩ ?_
    change AW l E (d + 2) 0 0 mX3_readNumbers _ _ [vi (sk_mf w)] sk_G _ Q
    refine AW_run 80 rfl ?_
    refine AW_iceq rfl (fun g2 => ?_) (fun g2 => ?_) (by unfold sk_in; omega)
    · refine sec _ hv0 hf0 ?_ ?_ ?_
      · simp only [Nat.reduceAdd]; rw [sk_uI_o (by decide)]; omega
      · simp only [Nat.reduceAdd]; rw [sk_uI_o (by decide)]; exact h6
      · rw [sk_rnI, sk_n1I, if_pos g2]
    · refine AW_run 80 rfl ?_
      refine AW_gets rfl ?_
      refine AW_run 80 rfl ?_
      refine AW_xld (x := 0) rfl rfl ⟨hw.1, by omega⟩ ?_
      refine AW_cV (M' := mX3_readNumber) rfl kkX3_73 lcX3_readNumber rfl rfl rfl rfl rfl rfl (Nat.le_refl _) ?_
      refine c_R_numF (sk_mf w) hv0 (by omega) (fun e he => ?_) (fun x hx x1 x2 => ?_)
      · refine AW_run 80 rfl ?_
        refine AW_iast rfl rfl ⟨by omega, by omega⟩ (by decide) ?_
        have hQ := h1 e (by rw [sk_rnI, sk_n1I, if_neg g2, he]) _ (sk_flt_pg hp' (sk_flt_tr hf0 (sk_flt_bk _ hp' (sk_uI I 33 s (I 29 3)) e.1 e.2)) _ s (-2) (Or.inr ⟨Nat.le_add_right _ 5, by omega⟩))
        have hB := bad _ (Or.inl (by rw [sk_uI_s, sk_up_s])) hQ
        refine AW_run 80 rfl ?_
        refine AW_iald rfl rfl ⟨by omega, by omega⟩ (by decide) ?_
        (try simp only [sk_uI_s, sk_uI_o, sk_up_s, sk_up_o, sk_uL_s, sk_uL_o, ne_eq, Nat.reduceEqDiff, Nat.reduceAdd, Int.reduceEq, not_false_eq_true])
        refine AW_run 80 rfl ?_
        refine AW_iceq rfl (fun g => ?_) (fun g => by omega)
        exact hB
      · obtain ⟨q1, q2, q3, q4⟩ := sk_nuI_r hx
        have hx' : x = (x.1, x.2) := rfl
        rw [q1] at hx'
        refine AW_run 80 rfl ?_
        refine AW_iast rfl rfl ⟨by omega, by omega⟩ (by decide) ?_
        refine sec _ ?_ ?_ ?_ ?_ ?_
        · refine sk_tv_fp hp' hv0 (sk_fp_tr (by rw [q1]; exact sk_fp_29 _ hp' _ 3 _ (by omega)) (sk_fp_pg _ hp' x.2 _ s x.1 (Or.inr ⟨Nat.le_add_right _ 5, by omega⟩))) ?_
          rw [sk_uI_o (by decide), q1, sk_uI_s, sk_up_s, sk_uI_o (by decide)]
          omega
        · exact sk_fp_tr hf0 (sk_fp_tr (by rw [q1]; exact sk_fp_29 _ hp' _ 3 _ (by omega)) (sk_fp_pg _ hp' x.2 _ s x.1 (Or.inr ⟨Nat.le_add_right _ 5, by omega⟩)))
        · simp only [Nat.reduceAdd]; rw [sk_uI_s, sk_up_s]; omega
        · simp only [Nat.reduceAdd]; rw [sk_uI_o (by decide), q1, sk_uI_o (by decide), sk_uI_o (by decide)]; exact h6
        · rw [sk_rnI, sk_n1I, if_neg g2, hx]
end SKR3
