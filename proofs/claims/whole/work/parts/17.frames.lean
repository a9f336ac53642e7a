/-! ===== Frames, Stacks ===== -/
section SKC3
variable {l : Launch} {E : sk_En} {d : Nat} {I : sk_SI} {L : sk_SL} {cu sp io rp tp fp : Nat} {Q : Option sk_V → List sk_Sh → sk_St → Prop}
theorem c_Fr_clear (hq : Q none sk_G (sk_uI I 35 5 0, L, sk_J cu sp io rp tp fp)) : AW l E d 0 0 mX1_clear 0 [some (vr 35)] [] sk_G (I, L, sk_J cu sp io rp tp fp) Q := by
  refine AW_run 80 rfl ?_
  exact AW_vret rfl rfl hq
theorem c_Fr_empty (hd : 0 ≤ I 35 5 ∧ I 35 5 ≤ 480) (hT : I 35 5 = 0 → Q (some (vi 1)) sk_G (I, L, sk_J cu sp io rp tp fp)) (hF : 0 < I 35 5 → Q (some (vi 0)) sk_G (I, L, sk_J cu sp io rp tp fp)) : AW l E d 0 0 mX1_isEmpty 0 [some (vr 35)] [] sk_G (I, L, sk_J cu sp io rp tp fp) Q := by
  refine AW_run 80 rfl ?_
  refine AW_ifgt rfl (fun h => ?_) (fun h => ?_)
  · refine AW_run 80 rfl ?_
    exact AW_zret rfl rfl (Or.inl rfl) (hF (by omega))
  · refine AW_run 80 rfl ?_
    exact AW_zret rfl rfl (Or.inr rfl) (hT (by omega))
theorem c_Fr_push (r o n s : Int) (hd : 0 ≤ I 35 5 ∧ I 35 5 < 480) (hq : Q none sk_G (sk_uI (sk_uI (sk_uI (sk_uI (sk_uI (sk_uI I 36 (I 35 5) r) 37 (I 35 5) o) 38 (I 35 5) n) 39 (I 35 5) s) 40 (I 35 5) 0) 35 5 (I 35 5 + 1), L, sk_J cu sp io rp tp fp)) : AW l E d 0 0 mX1_push 0 [some (vr 35), some (vi r), some (vi o), some (vi n), some (vi s)] [] sk_G (I, L, sk_J cu sp io rp tp fp) Q := by
  refine AW_run 80 rfl ?_
  refine AW_iflt rfl (fun h => ?_) (fun h => ?_)
  · omega
  · refine AW_run 80 rfl ?_
    refine AW_icge rfl (fun h2 => ?_) (fun h2 => ?_)
    · omega
    · (refine AW_run 80 rfl ?_; (try simp only [sk_uI_s, sk_uI_o, sk_up_s, sk_up_o, sk_uL_s, sk_uL_o, ne_eq, Nat.reduceEqDiff, Nat.reduceAdd, Int.reduceEq, not_false_eq_true]))
      refine AW_iast rfl rfl ⟨by omega, by omega⟩ (by decide) ?_
      (refine AW_run 80 rfl ?_; (try simp only [sk_uI_s, sk_uI_o, sk_up_s, sk_up_o, sk_uL_s, sk_uL_o, ne_eq, Nat.reduceEqDiff, Nat.reduceAdd, Int.reduceEq, not_false_eq_true]))
      refine AW_iast rfl rfl ⟨by omega, by omega⟩ (by decide) ?_
      (refine AW_run 80 rfl ?_; (try simp only [sk_uI_s, sk_uI_o, sk_up_s, sk_up_o, sk_uL_s, sk_uL_o, ne_eq, Nat.reduceEqDiff, Nat.reduceAdd, Int.reduceEq, not_false_eq_true]))
      refine AW_iast rfl rfl ⟨by omega, by omega⟩ (by decide) ?_
      (refine AW_run 80 rfl ?_; (try simp only [sk_uI_s, sk_uI_o, sk_up_s, sk_up_o, sk_uL_s, sk_uL_o, ne_eq, Nat.reduceEqDiff, Nat.reduceAdd, Int.reduceEq, not_false_eq_true]))
      refine AW_iast rfl rfl ⟨by omega, by omega⟩ (by decide) ?_
      (refine AW_run 80 rfl ?_; (try simp only [sk_uI_s, sk_uI_o, sk_up_s, sk_up_o, sk_uL_s, sk_uL_o, ne_eq, Nat.reduceEqDiff, Nat.reduceAdd, Int.reduceEq, not_false_eq_true]))
      refine AW_iast rfl rfl ⟨by omega, by omega⟩ (by decide) ?_
      (refine AW_run 80 rfl ?_; (try simp only [sk_uI_s, sk_uI_o, sk_up_s, sk_up_o, sk_uL_s, sk_uL_o, ne_eq, Nat.reduceEqDiff, Nat.reduceAdd, Int.reduceEq, not_false_eq_true]))
      exact AW_vret rfl rfl hq
theorem c_Fr_pop (hd : 0 < I 35 5 ∧ I 35 5 ≤ 480) (hq : Q none sk_G (sk_uI I 35 5 (I 35 5 - 1), L, sk_J cu sp io rp tp fp)) : AW l E d 0 0 mX1_pop 0 [some (vr 35)] [] sk_G (I, L, sk_J cu sp io rp tp fp) Q := by
  refine AW_run 80 rfl ?_
  refine AW_ifle rfl (fun h => ?_) (fun h => ?_)
  · omega
  · refine AW_run 80 rfl ?_
    exact AW_vret rfl rfl hq
theorem c_Fr_role (hd : 0 < I 35 5 ∧ I 35 5 ≤ 480) (hq : Q (some (vi (I 36 (I 35 5 - 1)))) sk_G (I, L, sk_J cu sp io rp tp fp)) : AW l E d 0 0 mX1_topRole 0 [some (vr 35)] [] sk_G (I, L, sk_J cu sp io rp tp fp) Q := by
  refine AW_run 80 rfl ?_
  refine AW_ifle rfl (fun h => ?_) (fun h => ?_)
  · omega
  · refine AW_run 80 rfl ?_
    refine AW_iald rfl rfl ⟨by omega, by omega⟩ (by decide) ?_
    refine AW_run 80 rfl ?_
    exact AW_iret rfl rfl hq
theorem c_Fr_opener (hd : 0 < I 35 5 ∧ I 35 5 ≤ 480) (hq : Q (some (vi (I 37 (I 35 5 - 1)))) sk_G (I, L, sk_J cu sp io rp tp fp)) : AW l E d 0 0 mX1_topOpener 0 [some (vr 35)] [] sk_G (I, L, sk_J cu sp io rp tp fp) Q := by
  refine AW_run 80 rfl ?_
  refine AW_ifle rfl (fun h => ?_) (fun h => ?_)
  · omega
  · refine AW_run 80 rfl ?_
    refine AW_iald rfl rfl ⟨by omega, by omega⟩ (by decide) ?_
    refine AW_run 80 rfl ?_
    exact AW_iret rfl rfl hq
theorem c_Fr_next (hd : 0 < I 35 5 ∧ I 35 5 ≤ 480) (hq : Q (some (vi (I 38 (I 35 5 - 1)))) sk_G (I, L, sk_J cu sp io rp tp fp)) : AW l E d 0 0 mX1_topNext 0 [some (vr 35)] [] sk_G (I, L, sk_J cu sp io rp tp fp) Q := by
  refine AW_run 80 rfl ?_
  refine AW_ifle rfl (fun h => ?_) (fun h => ?_)
  · omega
  · refine AW_run 80 rfl ?_
    refine AW_iald rfl rfl ⟨by omega, by omega⟩ (by decide) ?_
    refine AW_run 80 rfl ?_
    exact AW_iret rfl rfl hq
/-- of no frame: NONE -/
theorem c_Fr_stack (hd : 0 ≤ I 35 5 ∧ I 35 5 ≤ 480) (hT : 0 < I 35 5 → Q (some (vi (I 39 (I 35 5 - 1)))) sk_G (I, L, sk_J cu sp io rp tp fp)) (hF : I 35 5 = 0 → Q (some (vi (-1))) sk_G (I, L, sk_J cu sp io rp tp fp)) : AW l E d 0 0 mX1_topStack 0 [some (vr 35)] [] sk_G (I, L, sk_J cu sp io rp tp fp) Q := by
  refine AW_run 80 rfl ?_
  refine AW_ifle rfl (fun h => ?_) (fun h => ?_)
  · refine AW_run 80 rfl ?_
    exact AW_iret rfl rfl (hF (by omega))
  · refine AW_run 80 rfl ?_
    refine AW_iald rfl rfl ⟨by omega, by omega⟩ (by decide) ?_
    refine AW_run 80 rfl ?_
    exact AW_iret rfl rfl (hT (by omega))
theorem c_Fr_times (hd : 0 < I 35 5 ∧ I 35 5 ≤ 480) (hq : Q (some (vi (I 40 (I 35 5 - 1)))) sk_G (I, L, sk_J cu sp io rp tp fp)) : AW l E d 0 0 mX1_topTimesLeft 0 [some (vr 35)] [] sk_G (I, L, sk_J cu sp io rp tp fp) Q := by
  refine AW_run 80 rfl ?_
  refine AW_ifle rfl (fun h => ?_) (fun h => ?_)
  · omega
  · refine AW_run 80 rfl ?_
    refine AW_iald rfl rfl ⟨by omega, by omega⟩ (by decide) ?_
    refine AW_run 80 rfl ?_
    exact AW_iret rfl rfl hq
theorem c_Fr_goTo (s : Int) (hd : 0 < I 35 5 ∧ I 35 5 ≤ 480) (hq : Q none sk_G (sk_uI I 38 (I 35 5 - 1) s, L, sk_J cu sp io rp tp fp)) : AW l E d 0 0 mX1_goTo 0 [some (vr 35), some (vi s)] [] sk_G (I, L, sk_J cu sp io rp tp fp) Q := by
  refine AW_run 80 rfl ?_
  refine AW_ifle rfl (fun h => ?_) (fun h => ?_)
  · omega
  · refine AW_run 80 rfl ?_
    refine AW_iast rfl rfl ⟨by omega, by omega⟩ (by decide) ?_
    refine AW_run 80 rfl ?_
    exact AW_vret rfl rfl hq
theorem c_Fr_setTimes (s : Int) (hd : 0 < I 35 5 ∧ I 35 5 ≤ 480) (hq : Q none sk_G (sk_uI I 40 (I 35 5 - 1) s, L, sk_J cu sp io rp tp fp)) : AW l E d 0 0 mX1_setTimesLeft 0 [some (vr 35), some (vi s)] [] sk_G (I, L, sk_J cu sp io rp tp fp) Q := by
  refine AW_run 80 rfl ?_
  refine AW_ifle rfl (fun h => ?_) (fun h => ?_)
  · omega
  · refine AW_run 80 rfl ?_
    refine AW_iast rfl rfl ⟨by omega, by omega⟩ (by decide) ?_
    refine AW_run 80 rfl ?_
    exact AW_vret rfl rfl hq
theorem c_St_clear (p : Nat) (hq : Q none sk_G (sk_uI I 45 4 0, L, sk_J cu sp io rp p fp)) : AW l E d 0 0 mX7_clear 0 [some (vr 45), some (vr p)] [] sk_G (I, L, sk_J cu sp io rp tp fp) Q := by
  refine AW_run 80 rfl ?_
  rw [sk_J_sp]
  exact AW_vret rfl rfl hq
theorem c_St_add (a b : Int) (hd : 0 ≤ I 45 4 ∧ I 45 4 < 3021) (hq : Q (some (vi (I 45 4))) sk_G (sk_uI (sk_uI (sk_uI I 46 (I 45 4) a) 47 (I 45 4) b) 45 4 (I 45 4 + 1), L, sk_J cu sp io rp tp fp)) : AW l E (d + 1) 0 0 mX7_add 0 [some (vr 45), some (vi a), some (vi b)] [] sk_G (I, L, sk_J cu sp io rp tp fp) Q := by
  refine AW_run 80 rfl ?_
  refine AW_within rfl kkX7_34 rfl (by omega) (fun w1 w2 => ?_) (fun w3 => ?_)
  · refine AW_run 80 rfl ?_
    first | refine AW_e1 rfl ?_ | refine AW_e0 rfl ?_ | refine AW_n1 rfl ?_ | refine AW_n0 rfl ?_
    (refine AW_run 80 rfl ?_; (try simp only [sk_uI_s, sk_uI_o, sk_up_s, sk_up_o, sk_uL_s, sk_uL_o, ne_eq, Nat.reduceEqDiff, Nat.reduceAdd, Int.reduceEq, not_false_eq_true]))
    refine AW_iast rfl rfl ⟨by omega, by omega⟩ (by decide) ?_
    (refine AW_run 80 rfl ?_; (try simp only [sk_uI_s, sk_uI_o, sk_up_s, sk_up_o, sk_uL_s, sk_uL_o, ne_eq, Nat.reduceEqDiff, Nat.reduceAdd, Int.reduceEq, not_false_eq_true]))
    refine AW_iast rfl rfl ⟨by omega, by omega⟩ (by decide) ?_
    (refine AW_run 80 rfl ?_; (try simp only [sk_uI_s, sk_uI_o, sk_up_s, sk_up_o, sk_uL_s, sk_uL_o, ne_eq, Nat.reduceEqDiff, Nat.reduceAdd, Int.reduceEq, not_false_eq_true]))
    refine AW_top (show _ = I 45 4 by omega) ?_
    exact AW_iret rfl rfl hq
  · omega
theorem c_St_meth (m b : Int) (hd : 0 ≤ I 45 4 ∧ I 45 4 < 3021) (hq : Q (some (vi (I 45 4))) sk_G (sk_uI (sk_uI (sk_uI I 46 (I 45 4) (-1 - m)) 47 (I 45 4) b) 45 4 (I 45 4 + 1), L, sk_J cu sp io rp tp fp)) : AW l E (d + 2) 0 0 mX7_withMethod 0 [some (vr 45), some (vi m), some (vi b)] [] sk_G (I, L, sk_J cu sp io rp tp fp) Q := by
  refine AW_run 80 rfl ?_
  refine AW_cV (M' := mX7_add) rfl kkX7_30 lcX7_add rfl rfl rfl rfl rfl rfl (Nat.le_refl _) ?_
  refine c_St_add (d := d) _ _ hd ?_
  exact AW_iret rfl rfl hq
theorem c_St_block (s b : Int) (hd : 0 ≤ I 45 4 ∧ I 45 4 < 3021) (hq : Q (some (vi (I 45 4))) sk_G (sk_uI (sk_uI (sk_uI I 46 (I 45 4) s) 47 (I 45 4) b) 45 4 (I 45 4 + 1), L, sk_J cu sp io rp tp fp)) : AW l E (d + 2) 0 0 mX7_withBlock 0 [some (vr 45), some (vi s), some (vi b)] [] sk_G (I, L, sk_J cu sp io rp tp fp) Q := by
  refine AW_run 80 rfl ?_
  refine AW_cV (M' := mX7_add) rfl kkX7_30 lcX7_add rfl rfl rfl rfl rfl rfl (Nat.le_refl _) ?_
  refine c_St_add (d := d) _ _ hd ?_
  exact AW_iret rfl rfl hq
end SKC3
