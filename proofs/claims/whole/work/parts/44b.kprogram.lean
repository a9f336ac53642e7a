section SKR9b
variable {l : Launch} {E : sk_En} {d : Nat} {L : sk_SL} {cu sp io rp tp fp : Nat} {Q : Option sk_V → List sk_Sh → sk_St → Prop}
theorem c_K_program (I : sk_SI) (hs : sk_pg sp) (ht : sk_tp I) (h1 : ∀ e, sk_riI sp (sk_ri0 sp I) = .inl e → ∀ I', sk_flt sp (sk_ri0 sp I) e I' → Q (some (vi (-100 - I' 32 e.2))) sk_G (sk_uI (sk_uI I' 29 6 (I' 32 e.2)) 1 1 0, L, sk_J cu sp sp rp tp fp)) (h2 : ∀ x, sk_riI sp (sk_ri0 sp I) = .inr x → Q (some (vi (x.2 sp 9))) sk_G (sk_uI (sk_uI (sk_uI (sk_uI x.2 29 6 0) 1 1 0) 34 8 0) 48 15 0, L, sk_J sp cu sp rp tp fp)) : AW l E (d + 45) 0 0 mX9_program 0 [some (vr 0), none, none] [] sk_G (I, L, sk_J cu sp io rp tp fp) Q := by
  obtain ⟨w0, w1, w2, w3, w4⟩ := sk_ri0_wf hs ht
  have f11 : ∀ I', sk_fp sp (sk_ri0 sp I) I' → I' 1 = I 1 ∧ I' 32 = sk_ri0 sp I 32 := by
    intro I' hf
    refine ⟨?_, hf.1 32 (by decide) (by decide) (by rcases hs with rfl | rfl <;> omega)⟩
    rw [hf.1 1 (by decide) (by decide) (by rcases hs with rfl | rfl <;> omega), w1 1 (by decide) (by decide) (by decide) (by decide) (by rcases hs with rfl | rfl <;> omega)]
  refine AW_run 80 rfl ?_
  refine AW_cV (M' := mX3_readInto) (d' := d + 44) rfl kkX9_89 lcX3_readInto rfl rfl rfl rfl rfl rfl (by omega) ?_
  refine c_R_into sp hs I ht (fun e he I' hI' => ?_) (fun x hx => ?_)
  · have hq := h1 e he I' hI'
    obtain ⟨e1, e32⟩ := f11 I' hI'.1
    have fb := (sk_wf_ri hs w0).1 e he
    have hmx : max (0 : Int) (min 0 (sk_uI I' 29 6 (I' 32 e.2) 1 1)) = 0 := by omega
    refine AW_run 80 rfl ?_
    refine AW_cV (M' := mX4_cutTo) (d' := d + 44) rfl kkX9_86 lcX4_cutTo rfl rfl rfl rfl rfl rfl (by omega) ?_
    refine c_Row_cut (d := d + 43) 1 1200 (by unfold sk_row; omega) 0 (by unfold sk_in; omega) (by (try simp only [sk_uI_s, sk_uI_o, sk_up_s, sk_up_o, sk_uL_s, sk_uL_o, ne_eq, Nat.reduceEqDiff, Nat.reduceAdd, Int.reduceEq, not_false_eq_true]); rw [e1]; exact ht.2.1) (by (try simp only [sk_uI_s, sk_uI_o, sk_up_s, sk_up_o, sk_uL_s, sk_uL_o, ne_eq, Nat.reduceEqDiff, Nat.reduceAdd, Int.reduceEq, not_false_eq_true]); rw [e1]; exact ht.1) ?_
    rw [hmx]
    refine AW_run 80 rfl ?_
    first | refine AW_e1 rfl ?_ | refine AW_e0 rfl ?_ | refine AW_n1 rfl ?_ | refine AW_n0 rfl ?_
    refine AW_run 80 rfl ?_
    exact AW_iret rfl rfl hq
  · have hq := h2 x hx
    obtain ⟨v1, v2, v3, v4⟩ := (sk_wf_ri hs w0).2 x hx
    obtain ⟨e1, e32⟩ := f11 x.2 v2
    have hmx : max (0 : Int) (min 0 (sk_uI x.2 29 6 0 1 1)) = 0 := by omega
    refine AW_run 80 rfl ?_
    refine AW_cV (M' := mX4_cutTo) (d' := d + 44) rfl kkX9_86 lcX4_cutTo rfl rfl rfl rfl rfl rfl (by omega) ?_
    refine c_Row_cut (d := d + 43) 1 1200 (by unfold sk_row; omega) 0 (by unfold sk_in; omega) (by (try simp only [sk_uI_s, sk_uI_o, sk_up_s, sk_up_o, sk_uL_s, sk_uL_o, ne_eq, Nat.reduceEqDiff, Nat.reduceAdd, Int.reduceEq, not_false_eq_true]); rw [e1]; exact ht.2.1) (by (try simp only [sk_uI_s, sk_uI_o, sk_up_s, sk_up_o, sk_uL_s, sk_uL_o, ne_eq, Nat.reduceEqDiff, Nat.reduceAdd, Int.reduceEq, not_false_eq_true]); rw [e1]; exact ht.1) ?_
    rw [hmx]
    refine AW_run 80 rfl ?_
    first | refine AW_e1 rfl ?_ | refine AW_e0 rfl ?_ | refine AW_n1 rfl ?_ | refine AW_n0 rfl ?_
    refine AW_run 80 rfl ?_
    rw [sk_J_cur, sk_J_spr]
    refine AW_putZ rfl rfl (Or.inl rfl) ?_
    refine AW_run 80 rfl ?_
    refine AW_putZ rfl rfl (Or.inl rfl) ?_
    rcases hs with rfl | rfl <;>
    · (refine AW_run 80 rfl ?_; (try simp only [sk_uI_s, sk_uI_o, sk_up_s, sk_up_o, sk_uL_s, sk_uL_o, ne_eq, Nat.reduceEqDiff, Nat.reduceAdd, Int.reduceEq, not_false_eq_true]))
      exact AW_iret rfl rfl hq
end SKR9b
