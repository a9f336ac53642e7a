/-! ===== the model's run: its small methods ===== -/
def sk_mop (k st f t : Int) (I : sk_SI) : sk_SI := sk_uI (sk_uI (sk_uI (sk_uI (sk_uI (sk_uI (sk_uI I 83 (I 59 37) k) 84 (I 59 37) st) 85 (I 59 37) (I 59 35)) 86 (I 59 37) (if st = -1 then -1 else I 71 st)) 87 (I 59 37) t) 59 37 (I 59 37 + 1)) 59 43 f
def sk_men (k o a b : Int) (I : sk_SI) : sk_SI := sk_uI (sk_uI (sk_uI (sk_uI (sk_uI (sk_uI (sk_uI I 59 29 (I 59 29 + 1)) 77 (I 59 29) k) 78 (I 59 29) o) 79 (I 59 29) a) 80 (I 59 29) b) 81 (I 59 29) (I 59 35)) 59 35 (I 59 29)
def sk_mcl (I : sk_SI) : sk_SI := sk_uI (sk_uI (sk_uI (sk_uI I 59 37 (I 59 37 - 1)) 59 35 (I 85 (I 59 37 - 1))) 59 43 (I 86 (I 59 37 - 1))) 59 44 (I 59 44 - (if I 83 (I 59 37 - 1) = 20 then 1 else 0))
def sk_msy (v : Int) (I : sk_SI) : sk_SI := sk_uI (sk_uI I 90 (I 59 58) v) 59 58 (I 59 58 + 1)
def sk_mom (I : sk_SI) : sk_SI := sk_uI (sk_uI I 59 44 (I 59 44 + 1)) 59 54 (max (I 59 54) (I 59 44 + 1))
def sk_momI (s m : Int) (I : sk_SI) : sk_SI := sk_mom (sk_men 20 (I 64 m) (-1) (-1) (sk_mop 20 s (I 65 m) 0 I))
section SKY1
variable {l : Launch} {E : sk_En} {d : Nat} {I : sk_SI} {L : sk_SL} {cu sp io rp tp fp : Nat} {Q : Option sk_V → List sk_Sh → sk_St → Prop}
theorem c_M_enter (k o a b : Int) (he : 0 ≤ I 59 29 ∧ I 59 29 < 3100) (hq : Q none sk_G (sk_men k o a b I, L, sk_J cu sp io rp tp fp)) : AW l E d 0 0 mX10_enter 0 [some (vr 59), some (vi k), some (vi o), some (vi a), some (vi b), none] [] sk_G (I, L, sk_J cu sp io rp tp fp) Q := by
  unfold sk_men at hq
  refine AW_run 80 rfl ?_
  refine AW_iast rfl rfl ⟨by omega, by omega⟩ (by decide) ?_
  (refine AW_run 80 rfl ?_; (try simp only [sk_uI_s, sk_uI_o, sk_up_s, sk_up_o, sk_uL_s, sk_uL_o, ne_eq, Nat.reduceEqDiff, Nat.reduceAdd, Int.reduceEq, not_false_eq_true]))
  refine AW_iast rfl rfl ⟨by omega, by omega⟩ (by decide) ?_
  (refine AW_run 80 rfl ?_; (try simp only [sk_uI_s, sk_uI_o, sk_up_s, sk_up_o, sk_uL_s, sk_uL_o, ne_eq, Nat.reduceEqDiff, Nat.reduceAdd, Int.reduceEq, not_false_eq_true]))
  refine AW_iast rfl rfl ⟨by omega, by omega⟩ (by decide) ?_
  (refine AW_run 80 rfl ?_; (try simp only [sk_uI_s, sk_uI_o, sk_up_s, sk_up_o, sk_uL_s, sk_uL_o, ne_eq, Nat.reduceEqDiff, Nat.reduceAdd, Int.reduceEq, not_false_eq_true]))
  refine AW_iast rfl rfl ⟨by omega, by omega⟩ (by decide) ?_
  (refine AW_run 80 rfl ?_; (try simp only [sk_uI_s, sk_uI_o, sk_up_s, sk_up_o, sk_uL_s, sk_uL_o, ne_eq, Nat.reduceEqDiff, Nat.reduceAdd, Int.reduceEq, not_false_eq_true]))
  refine AW_iast rfl rfl ⟨by omega, by omega⟩ (by decide) ?_
  (refine AW_run 80 rfl ?_; (try simp only [sk_uI_s, sk_uI_o, sk_up_s, sk_up_o, sk_uL_s, sk_uL_o, ne_eq, Nat.reduceEqDiff, Nat.reduceAdd, Int.reduceEq, not_false_eq_true]))
  exact AW_vret rfl rfl hq
theorem c_M_open (k st f t : Int) (ho : 0 ≤ I 59 37 ∧ I 59 37 < 600) (hs : -1 ≤ st ∧ st < 400) (hq : Q none sk_G (sk_mop k st f t I, L, sk_J cu sp io rp tp fp)) : AW l E d 0 0 mX10_open 0 [some (vr 59), some (vi k), some (vi st), some (vi f), some (vi t)] [] sk_G (I, L, sk_J cu sp io rp tp fp) Q := by
  unfold sk_mop at hq
  refine AW_run 80 rfl ?_
  refine AW_iast rfl rfl ⟨by omega, by omega⟩ (by decide) ?_
  (refine AW_run 80 rfl ?_; (try simp only [sk_uI_s, sk_uI_o, sk_up_s, sk_up_o, sk_uL_s, sk_uL_o, ne_eq, Nat.reduceEqDiff, Nat.reduceAdd, Int.reduceEq, not_false_eq_true]))
  refine AW_iast rfl rfl ⟨by omega, by omega⟩ (by decide) ?_
  (refine AW_run 80 rfl ?_; (try simp only [sk_uI_s, sk_uI_o, sk_up_s, sk_up_o, sk_uL_s, sk_uL_o, ne_eq, Nat.reduceEqDiff, Nat.reduceAdd, Int.reduceEq, not_false_eq_true]))
  refine AW_iast rfl rfl ⟨by omega, by omega⟩ (by decide) ?_
  (refine AW_run 80 rfl ?_; (try simp only [sk_uI_s, sk_uI_o, sk_up_s, sk_up_o, sk_uL_s, sk_uL_o, ne_eq, Nat.reduceEqDiff, Nat.reduceAdd, Int.reduceEq, not_false_eq_true]))
  refine AW_icne rfl (fun g => ?_) (fun g => ?_) (by unfold sk_in; omega)
  · rw [if_neg g] at hq
    refine AW_run 80 rfl ?_
    refine AW_iald rfl rfl ⟨by omega, by omega⟩ (by decide) ?_
    (try simp only [sk_uI_s, sk_uI_o, sk_up_s, sk_up_o, sk_uL_s, sk_uL_o, ne_eq, Nat.reduceEqDiff, Nat.reduceAdd, Int.reduceEq, not_false_eq_true])
    refine AW_iast rfl rfl ⟨by omega, by omega⟩ (by decide) ?_
    (refine AW_run 80 rfl ?_; (try simp only [sk_uI_s, sk_uI_o, sk_up_s, sk_up_o, sk_uL_s, sk_uL_o, ne_eq, Nat.reduceEqDiff, Nat.reduceAdd, Int.reduceEq, not_false_eq_true]))
    refine AW_iast rfl rfl ⟨by omega, by omega⟩ (by decide) ?_
    (refine AW_run 80 rfl ?_; (try simp only [sk_uI_s, sk_uI_o, sk_up_s, sk_up_o, sk_uL_s, sk_uL_o, ne_eq, Nat.reduceEqDiff, Nat.reduceAdd, Int.reduceEq, not_false_eq_true]))
    exact AW_vret rfl rfl hq
  · rw [if_pos g] at hq
    refine AW_run 80 rfl ?_
    refine AW_iast rfl rfl ⟨by omega, by omega⟩ (by decide) ?_
    (refine AW_run 80 rfl ?_; (try simp only [sk_uI_s, sk_uI_o, sk_up_s, sk_up_o, sk_uL_s, sk_uL_o, ne_eq, Nat.reduceEqDiff, Nat.reduceAdd, Int.reduceEq, not_false_eq_true]))
    refine AW_iast rfl rfl ⟨by omega, by omega⟩ (by decide) ?_
    (refine AW_run 80 rfl ?_; (try simp only [sk_uI_s, sk_uI_o, sk_up_s, sk_up_o, sk_uL_s, sk_uL_o, ne_eq, Nat.reduceEqDiff, Nat.reduceAdd, Int.reduceEq, not_false_eq_true]))
    exact AW_vret rfl rfl hq
theorem c_M_close (ho : 0 < I 59 37 ∧ I 59 37 ≤ 600) (hk : sk_in (I 83 (I 59 37 - 1))) (hq : Q none sk_G (sk_mcl I, L, sk_J cu sp io rp tp fp)) : AW l E d 0 0 mX10_close 0 [some (vr 59)] [] sk_G (I, L, sk_J cu sp io rp tp fp) Q := by
  unfold sk_mcl at hq
  (refine AW_run 80 rfl ?_; (try simp only [sk_uI_s, sk_uI_o, sk_up_s, sk_up_o, sk_uL_s, sk_uL_o, ne_eq, Nat.reduceEqDiff, Nat.reduceAdd, Int.reduceEq, not_false_eq_true]))
  refine AW_iald rfl rfl ⟨by omega, by omega⟩ (by decide) ?_
  (refine AW_run 80 rfl ?_; (try simp only [sk_uI_s, sk_uI_o, sk_up_s, sk_up_o, sk_uL_s, sk_uL_o, ne_eq, Nat.reduceEqDiff, Nat.reduceAdd, Int.reduceEq, not_false_eq_true]))
  refine AW_iald rfl rfl ⟨by omega, by omega⟩ (by decide) ?_
  (refine AW_run 80 rfl ?_; (try simp only [sk_uI_s, sk_uI_o, sk_up_s, sk_up_o, sk_uL_s, sk_uL_o, ne_eq, Nat.reduceEqDiff, Nat.reduceAdd, Int.reduceEq, not_false_eq_true]))
  refine AW_iald rfl rfl ⟨by omega, by omega⟩ (by decide) ?_
  (refine AW_run 80 rfl ?_; (try simp only [sk_uI_s, sk_uI_o, sk_up_s, sk_up_o, sk_uL_s, sk_uL_o, ne_eq, Nat.reduceEqDiff, Nat.reduceAdd, Int.reduceEq, not_false_eq_true]))
  refine AW_icne rfl (fun g => ?_) (fun g => ?_) hk
  · rw [if_neg g] at hq
    (refine AW_run 80 rfl ?_; (try simp only [sk_uI_s, sk_uI_o, sk_up_s, sk_up_o, sk_uL_s, sk_uL_o, ne_eq, Nat.reduceEqDiff, Nat.reduceAdd, Int.reduceEq, not_false_eq_true]))
    exact AW_vret rfl rfl hq
  · rw [if_pos g] at hq
    (refine AW_run 80 rfl ?_; (try simp only [sk_uI_s, sk_uI_o, sk_up_s, sk_up_o, sk_uL_s, sk_uL_o, ne_eq, Nat.reduceEqDiff, Nat.reduceAdd, Int.reduceEq, not_false_eq_true]))
    exact AW_vret rfl rfl hq
theorem c_M_say (v : Int) (ho : 0 ≤ I 59 58 ∧ I 59 58 < 3100) (hq : Q none sk_G (sk_msy v I, L, sk_J cu sp io rp tp fp)) : AW l E d 0 0 mX10_say 0 [some (vr 59), some (vi v)] [] sk_G (I, L, sk_J cu sp io rp tp fp) Q := by
  unfold sk_msy at hq
  refine AW_run 80 rfl ?_
  refine AW_iast rfl rfl ⟨by omega, by omega⟩ (by decide) ?_
  (refine AW_run 80 rfl ?_; (try simp only [sk_uI_s, sk_uI_o, sk_up_s, sk_up_o, sk_uL_s, sk_uL_o, ne_eq, Nat.reduceEqDiff, Nat.reduceAdd, Int.reduceEq, not_false_eq_true]))
  exact AW_vret rfl rfl hq
theorem c_M_om (s m : Int) (ho : 0 ≤ I 59 37 ∧ I 59 37 < 600) (hs : -1 ≤ s ∧ s < 400) (hm : 0 ≤ m ∧ m < 20) (he : 0 ≤ I 59 29 ∧ I 59 29 < 3100) (h44 : 0 ≤ I 59 44 ∧ I 59 44 ≤ 40) (h54 : 0 ≤ I 59 54 ∧ I 59 54 ≤ 40) (hq : Q none sk_G (sk_momI s m I, L, sk_J cu sp io rp tp fp)) : AW l E (d + 1) 0 0 mX10_openMethod 0 [some (vr 59), some (vi s), some (vi m)] [] sk_G (I, L, sk_J cu sp io rp tp fp) Q := by
  unfold sk_momI at hq
  have o64 : sk_mop 20 s (I 65 m) 0 I 64 m = I 64 m := by unfold sk_mop; (try simp only [sk_uI_s, sk_uI_o, sk_up_s, sk_up_o, sk_uL_s, sk_uL_o, ne_eq, Nat.reduceEqDiff, Nat.reduceAdd, Int.reduceEq, not_false_eq_true])
  have o29 : sk_mop 20 s (I 65 m) 0 I 59 29 = I 59 29 := by unfold sk_mop; (try simp only [sk_uI_s, sk_uI_o, sk_up_s, sk_up_o, sk_uL_s, sk_uL_o, ne_eq, Nat.reduceEqDiff, Nat.reduceAdd, Int.reduceEq, not_false_eq_true])
  refine AW_run 80 rfl ?_
  refine AW_iald rfl rfl ⟨by omega, by omega⟩ (by decide) ?_
  refine AW_run 80 rfl ?_
  refine AW_cV (M' := mX10_open) rfl kkX10_269 lcX10_open rfl rfl rfl rfl rfl rfl (Nat.le_refl _) ?_
  refine c_M_open _ _ _ _ ho hs ?_
  have n44 : sk_men 20 (I 64 m) (-1) (-1) (sk_mop 20 s (I 65 m) 0 I) 59 44 = I 59 44 := by unfold sk_men sk_mop; (try simp only [sk_uI_s, sk_uI_o, sk_up_s, sk_up_o, sk_uL_s, sk_uL_o, ne_eq, Nat.reduceEqDiff, Nat.reduceAdd, Int.reduceEq, not_false_eq_true])
  have n54 : sk_men 20 (I 64 m) (-1) (-1) (sk_mop 20 s (I 65 m) 0 I) 59 54 = I 59 54 := by unfold sk_men sk_mop; (try simp only [sk_uI_s, sk_uI_o, sk_up_s, sk_up_o, sk_uL_s, sk_uL_o, ne_eq, Nat.reduceEqDiff, Nat.reduceAdd, Int.reduceEq, not_false_eq_true])
  refine AW_run 80 rfl ?_
  refine AW_iald rfl rfl ⟨by omega, by omega⟩ (by decide) ?_
  rw [o64]
  refine AW_run 80 rfl ?_
  refine AW_cV (M' := mX10_enter) rfl kkX10_273 lcX10_enter rfl rfl rfl rfl rfl rfl (Nat.le_refl _) ?_
  refine c_M_enter _ _ _ _ (by rw [o29]; exact he) ?_
  unfold sk_mom at hq
  generalize sk_men 20 (I 64 m) (-1) (-1) (sk_mop 20 s (I 65 m) 0 I) = T at *
  (refine AW_run 80 rfl ?_; (try simp only [sk_uI_s, sk_uI_o, sk_up_s, sk_up_o, sk_uL_s, sk_uL_o, ne_eq, Nat.reduceEqDiff, Nat.reduceAdd, Int.reduceEq, not_false_eq_true]))
  refine AW_icle rfl (fun g => ?_) (fun g => ?_) (by rw [n44]; unfold sk_in; omega) (by rw [n54]; unfold sk_in; omega)
  · rw [show max (T 59 54) (T 59 44 + 1) = T 59 54 by omega] at hq
    (refine AW_run 80 rfl ?_; (try simp only [sk_uI_s, sk_uI_o, sk_up_s, sk_up_o, sk_uL_s, sk_uL_o, ne_eq, Nat.reduceEqDiff, Nat.reduceAdd, Int.reduceEq, not_false_eq_true]))
    exact AW_vret rfl rfl hq
  · rw [show max (T 59 54) (T 59 44 + 1) = T 59 44 + 1 by omega] at hq
    (refine AW_run 80 rfl ?_; (try simp only [sk_uI_s, sk_uI_o, sk_up_s, sk_up_o, sk_uL_s, sk_uL_o, ne_eq, Nat.reduceEqDiff, Nat.reduceAdd, Int.reduceEq, not_false_eq_true]))
    exact AW_vret rfl rfl hq
end SKY1
