/-! ===== Runner's small methods ===== -/
def sk_fpu (r o n s : Int) (I : sk_SI) : sk_SI := sk_uI (sk_uI (sk_uI (sk_uI (sk_uI (sk_uI I 36 (I 35 5) r) 37 (I 35 5) o) 38 (I 35 5) n) 39 (I 35 5) s) 40 (I 35 5) 0) 35 5 (I 35 5 + 1)
def sk_ent (e b : Int) (I : sk_SI) : sk_SI := sk_uI (sk_uI (sk_uI I 46 (I 45 4) e) 47 (I 45 4) b) 45 4 (I 45 4 + 1)
def sk_nte (v : Int) (I : sk_SI) : sk_SI := sk_uI (sk_uI I 6 (I 5 1) v) 5 1 (I 5 1 + 1)
def sk_bmp (j : Int) (I : sk_SI) : sk_SI := sk_uI I 44 j (I 44 j + 1)
def sk_cl0 (I : sk_SI) : sk_SI := if I 36 (I 35 5 - 1) = 0 then sk_uI I 34 12 (I 34 12 - 1) else I
def sk_clI (I : sk_SI) : sk_SI := sk_uI (sk_cl0 I) 35 5 (I 35 5 - 1)
def sk_om1 (I : sk_SI) : sk_SI := sk_uI (sk_uI I 34 12 (I 34 12 + 1)) 44 4 (max (I 44 4) (I 34 12 + 1))
def sk_omI (p : Nat) (m st : Int) (I : sk_SI) : sk_SI := if 40 ≤ I 34 12 then sk_uI I 34 13 2 else sk_fpu 0 (-1) (I (p + 2) m) (I 45 4) (sk_ent (-1 - m) st (sk_om1 I))
def sk_poI (m b : Int) (I : sk_SI) : sk_SI := if I 34 10 < 21 then sk_uI (sk_uI (sk_uI I 42 (I 34 10) m) 43 (I 34 10) b) 34 10 (I 34 10 + 1) else sk_uI I 34 13 3
def sk_bjI (p : Nat) (I : sk_SI) : sk_SI := if I 44 1 < I 34 10 then sk_omI p (I 42 (I 44 1)) (I 43 (I 44 1)) (sk_uI (sk_bmp 1 I) 34 12 0) else sk_uI I 34 13 0
def sk_ebI (p : Nat) (I : sk_SI) : sk_SI := if I 36 (I 35 5 - 1) = 2 ∧ 0 < I 40 (I 35 5 - 1) then sk_uI (sk_uI I 40 (I 35 5 - 1) (I 40 (I 35 5 - 1) - 1)) 38 (I 35 5 - 1) (I (p + 8) (I 37 (I 35 5 - 1))) else sk_clI I
def sk_flL (p : Nat) : Nat → sk_SI → sk_SI
  | 0, I => sk_bmp 3 I
  | n + 1, I => if I 35 5 = 0 then sk_bmp 3 I else if I 36 (I 35 5 - 1) = 1 then sk_fpu 3 (I 37 (I 35 5 - 1)) (I (p + 9) (I 37 (I 35 5 - 1))) (if 0 < I 35 5 - 1 then I 39 (I 35 5 - 1 - 1) else -1) (sk_clI I) else sk_flL p n (sk_clI I)
def sk_flI (p : Nat) (s o : Int) (I : sk_SI) : sk_SI := sk_flL p 480 (sk_bmp 2 (sk_nte (10000 + 1000 * (o + 1) + s) I))
def sk_gbL : Nat → sk_SI → sk_SI
  | 0, I => I
  | n + 1, I => if I 36 (I 35 5 - 1) = 0 then I else sk_gbL n (sk_clI I)
def sk_gbI (I : sk_SI) : sk_SI := sk_clI (sk_gbL 480 I)
theorem sk_cl0_o (I : sk_SI) (c : Nat) (h : c ≠ 34) : sk_cl0 I c = I c := by
  unfold sk_cl0
  split
  · exact sk_uI_o h
  · rfl
theorem sk_clI_o (I : sk_SI) (c : Nat) (h : c ≠ 34) (h2 : c ≠ 35) : sk_clI I c = I c := by
  unfold sk_clI
  rw [sk_uI_o h2, sk_cl0_o I c h]
theorem sk_clI_d (I : sk_SI) : sk_clI I 35 5 = I 35 5 - 1 := by unfold sk_clI; rw [sk_uI_s, sk_up_s]
section SKX1
variable {l : Launch} {E : sk_En} {d : Nat} {I : sk_SI} {L : sk_SL} {cu sp io tp fp p : Nat} {Q : Option sk_V → List sk_Sh → sk_St → Prop}
theorem c_X_close (hd : 0 < I 35 5 ∧ I 35 5 ≤ 480) (hr : sk_in (I 36 (I 35 5 - 1))) (hq : Q none sk_G (sk_clI I, L, sk_J cu sp io p tp fp)) : AW l E (d + 1) 0 0 mX6_closeBlock 0 [some (vr 34)] [] sk_G (I, L, sk_J cu sp io p tp fp) Q := by
  unfold sk_clI sk_cl0 at hq
  refine AW_run 80 rfl ?_
  refine AW_cV (M' := mX1_topRole) rfl kkX6_151 lcX1_topRole rfl rfl rfl rfl rfl rfl (Nat.le_refl _) ?_
  refine c_Fr_role hd ?_
  refine AW_run 80 rfl ?_
  refine AW_ifne rfl (fun g => ?_) (fun g => ?_) hr
  · rw [if_neg g] at hq
    refine AW_run 80 rfl ?_
    refine AW_cV (M' := mX1_pop) rfl kkX6_166 lcX1_pop rfl rfl rfl rfl rfl rfl (Nat.le_refl _) ?_
    refine c_Fr_pop hd ?_
    refine AW_run 80 rfl ?_
    exact AW_vret rfl rfl hq
  · rw [if_pos g] at hq
    refine AW_run 80 rfl ?_
    refine AW_cV (M' := mX1_pop) rfl kkX6_166 lcX1_pop rfl rfl rfl rfl rfl rfl (Nat.le_refl _) ?_
    refine c_Fr_pop (by (try simp only [sk_uI_s, sk_uI_o, sk_up_s, sk_up_o, sk_uL_s, sk_uL_o, ne_eq, Nat.reduceEqDiff, Nat.reduceAdd, Int.reduceEq, not_false_eq_true]); exact hd) ?_
    (try simp only [sk_uI_s, sk_uI_o, sk_up_s, sk_up_o, sk_uL_s, sk_uL_o, ne_eq, Nat.reduceEqDiff, Nat.reduceAdd, Int.reduceEq, not_false_eq_true])
    refine AW_run 80 rfl ?_
    exact AW_vret rfl rfl hq
theorem c_X_om (hp : sk_pg p) (m st : Int) (hm : 0 ≤ m ∧ m < I p 9) (h9 : I p 9 ≤ 20) (h12 : 0 ≤ I 34 12 ∧ I 34 12 ≤ 40) (h4 : 0 ≤ I 44 4 ∧ I 44 4 ≤ 40) (hd : I 34 12 < 40 → 0 ≤ I 35 5 ∧ I 35 5 < 480) (hz : 0 ≤ I 45 4 ∧ I 45 4 < 3021) (hq : Q none sk_G (sk_omI p m st I, L, sk_J cu sp io p tp fp)) : AW l E (d + 3) 0 0 mX6_openMethod 0 [some (vr 34), some (vi m), some (vi st)] [] sk_G (I, L, sk_J cu sp io p tp fp) Q := by
  unfold sk_omI at hq
  have hp' := hp
  refine AW_run 80 rfl ?_
  refine AW_iclt rfl (fun g => ?_) (fun g => ?_) (by unfold sk_in; omega)
  · rw [if_neg (by omega)] at hq
    have hd := hd (by omega)
    unfold sk_fpu sk_ent sk_om1 at hq
    refine AW_run 80 rfl ?_
    refine AW_iald rfl rfl ⟨by omega, by omega⟩ (by decide) ?_
    (try simp only [sk_uI_s, sk_uI_o, sk_up_s, sk_up_o, sk_uL_s, sk_uL_o, ne_eq, Nat.reduceEqDiff, Nat.reduceAdd, Int.reduceEq, not_false_eq_true])
    (refine AW_run 80 rfl ?_; (try simp only [sk_uI_s, sk_uI_o, sk_up_s, sk_up_o, sk_uL_s, sk_uL_o, ne_eq, Nat.reduceEqDiff, Nat.reduceAdd, Int.reduceEq, not_false_eq_true]))
    refine AW_max rfl kw_pX6_128 (by omega) rfl (by unfold sk_in; omega) (by unfold sk_in; omega) ?_
    refine AW_run 80 rfl ?_
    refine AW_iast rfl rfl ⟨by omega, by omega⟩ (by decide) ?_
    rcases hp with rfl | rfl <;>
    · refine AW_run 80 rfl ?_
      refine AW_cV (M' := mX2_startOf) rfl kkX6_134 lcX2_startOf rfl rfl rfl rfl rfl rfl (Nat.le_refl _) ?_
      refine c_Pg_start _ hp' m (by unfold sk_in; omega) (by (try simp only [sk_uI_s, sk_uI_o, sk_up_s, sk_up_o, sk_uL_s, sk_uL_o, ne_eq, Nat.reduceEqDiff, Nat.reduceAdd, Int.reduceEq, not_false_eq_true]); omega) (fun _ _ => ?_) (fun z => absurd ⟨hm.1, by (try simp only [sk_uI_s, sk_uI_o, sk_up_s, sk_up_o, sk_uL_s, sk_uL_o, ne_eq, Nat.reduceEqDiff, Nat.reduceAdd, Int.reduceEq, not_false_eq_true]); exact hm.2⟩ z)
      (try simp only [sk_uI_s, sk_uI_o, sk_up_s, sk_up_o, sk_uL_s, sk_uL_o, ne_eq, Nat.reduceEqDiff, Nat.reduceAdd, Int.reduceEq, not_false_eq_true])
      refine AW_run 80 rfl ?_
      refine AW_cV (M' := mX7_withMethod) rfl kkX6_138 lcX7_withMethod rfl rfl rfl rfl rfl rfl (Nat.le_refl _) ?_
      refine c_St_meth m st (by (try simp only [sk_uI_s, sk_uI_o, sk_up_s, sk_up_o, sk_uL_s, sk_uL_o, ne_eq, Nat.reduceEqDiff, Nat.reduceAdd, Int.reduceEq, not_false_eq_true]); omega) ?_
      (try simp only [sk_uI_s, sk_uI_o, sk_up_s, sk_up_o, sk_uL_s, sk_uL_o, ne_eq, Nat.reduceEqDiff, Nat.reduceAdd, Int.reduceEq, not_false_eq_true])
      refine AW_run 80 rfl ?_
      refine AW_cV (M' := mX1_push) rfl kkX6_141 lcX1_push rfl rfl rfl rfl rfl rfl (Nat.le_refl _) ?_
      refine c_Fr_push _ _ _ _ (by (try simp only [sk_uI_s, sk_uI_o, sk_up_s, sk_up_o, sk_uL_s, sk_uL_o, ne_eq, Nat.reduceEqDiff, Nat.reduceAdd, Int.reduceEq, not_false_eq_true]); omega) ?_
      simp only [sk_uI_s, sk_uI_o, sk_up_s, sk_up_o, ne_eq, Nat.reduceEqDiff, Nat.reduceAdd, Int.reduceEq, not_false_eq_true] at hq ⊢
      refine AW_run 80 rfl ?_
      exact AW_vret rfl rfl hq
  · rw [if_pos (by omega)] at hq
    refine AW_run 80 rfl ?_
    exact AW_vret rfl rfl hq
theorem c_X_po (m b : Int) (h10 : 0 ≤ I 34 10 ∧ I 34 10 ≤ 21) (hq : Q none sk_G (sk_poI m b I, L, sk_J cu sp io p tp fp)) : AW l E (d + 1) 0 0 mX6_putOff 0 [some (vr 34), some (vi m), some (vi b)] [] sk_G (I, L, sk_J cu sp io p tp fp) Q := by
  unfold sk_poI at hq
  refine AW_run 80 rfl ?_
  refine AW_within rfl kkX6_118 rfl (by omega) (fun w1 w2 => ?_) (fun w3 => ?_)
  · rw [if_pos w2] at hq
    refine AW_run 80 rfl ?_
    first | refine AW_e1 rfl ?_ | refine AW_e0 rfl ?_ | refine AW_n1 rfl ?_ | refine AW_n0 rfl ?_
    refine AW_run 80 rfl ?_
    refine AW_iast rfl rfl ⟨by omega, by omega⟩ (by decide) ?_
    (refine AW_run 80 rfl ?_; (try simp only [sk_uI_s, sk_uI_o, sk_up_s, sk_up_o, sk_uL_s, sk_uL_o, ne_eq, Nat.reduceEqDiff, Nat.reduceAdd, Int.reduceEq, not_false_eq_true]))
    refine AW_iast rfl rfl ⟨by omega, by omega⟩ (by decide) ?_
    (refine AW_run 80 rfl ?_; (try simp only [sk_uI_s, sk_uI_o, sk_up_s, sk_up_o, sk_uL_s, sk_uL_o, ne_eq, Nat.reduceEqDiff, Nat.reduceAdd, Int.reduceEq, not_false_eq_true]))
    exact AW_vret rfl rfl hq
  · rw [if_neg (by omega)] at hq
    refine AW_run 80 rfl ?_
    first | refine AW_e1 rfl ?_ | refine AW_e0 rfl ?_ | refine AW_n1 rfl ?_ | refine AW_n0 rfl ?_
    refine AW_run 80 rfl ?_
    exact AW_vret rfl rfl hq
theorem c_X_bj (hp : sk_pg p) (h44 : 0 ≤ I 44 1 ∧ I 44 1 ≤ 21) (h10 : 0 ≤ I 34 10 ∧ I 34 10 ≤ 21) (hm : I 44 1 < I 34 10 → 0 ≤ I 42 (I 44 1) ∧ I 42 (I 44 1) < I p 9) (h9 : I p 9 ≤ 20) (h4 : 0 ≤ I 44 4 ∧ I 44 4 ≤ 40) (hd : 0 ≤ I 35 5 ∧ I 35 5 < 480) (hz : I 44 1 < I 34 10 → 0 ≤ I 45 4 ∧ I 45 4 < 3021) (hq : Q none sk_G (sk_bjI p I, L, sk_J cu sp io p tp fp)) : AW l E (d + 4) 0 0 mX6_beginJob 0 [some (vr 34), none] [] sk_G (I, L, sk_J cu sp io p tp fp) Q := by
  unfold sk_bjI at hq
  refine AW_run 80 rfl ?_
  refine AW_iald rfl rfl ⟨by omega, by omega⟩ (by decide) ?_
  refine AW_run 80 rfl ?_
  refine AW_within rfl kkX6_118 rfl (by omega) (fun w1 w2 => ?_) (fun w3 => ?_)
  · rw [if_pos w2] at hq
    unfold sk_bmp at hq
    have hm := hm w2
    have hz := hz w2
    have p9 : sk_uI (sk_uI I 44 1 (I 44 1 + 1)) 34 12 0 p = I p := by rw [sk_uI_o (by rcases hp with rfl | rfl <;> omega), sk_uI_o (by rcases hp with rfl | rfl <;> omega)]
    refine AW_run 80 rfl ?_
    first | refine AW_e1 rfl ?_ | refine AW_e0 rfl ?_ | refine AW_n1 rfl ?_ | refine AW_n0 rfl ?_
    refine AW_run 80 rfl ?_
    refine AW_iald rfl rfl ⟨by omega, by omega⟩ (by decide) ?_
    refine AW_run 80 rfl ?_
    refine AW_iast rfl rfl ⟨by omega, by omega⟩ (by decide) ?_
    refine AW_run 80 rfl ?_
    refine AW_iald rfl rfl ⟨by omega, by omega⟩ (by decide) ?_
    (try simp only [sk_uI_s, sk_uI_o, sk_up_s, sk_up_o, sk_uL_s, sk_uL_o, ne_eq, Nat.reduceEqDiff, Nat.reduceAdd, Int.reduceEq, not_false_eq_true])
    refine AW_run 80 rfl ?_
    refine AW_iald rfl rfl ⟨by omega, by omega⟩ (by decide) ?_
    (try simp only [sk_uI_s, sk_uI_o, sk_up_s, sk_up_o, sk_uL_s, sk_uL_o, ne_eq, Nat.reduceEqDiff, Nat.reduceAdd, Int.reduceEq, not_false_eq_true])
    refine AW_run 80 rfl ?_
    refine AW_cV (M' := mX6_openMethod) rfl kkX6_125 lcX6_openMethod rfl rfl rfl rfl rfl rfl (Nat.le_refl _) ?_
    refine c_X_om hp _ _ (by rw [p9]; exact hm) (by rw [p9]; exact h9) (by (try simp only [sk_uI_s, sk_uI_o, sk_up_s, sk_up_o, sk_uL_s, sk_uL_o, ne_eq, Nat.reduceEqDiff, Nat.reduceAdd, Int.reduceEq, not_false_eq_true]); omega) (by (try simp only [sk_uI_s, sk_uI_o, sk_up_s, sk_up_o, sk_uL_s, sk_uL_o, ne_eq, Nat.reduceEqDiff, Nat.reduceAdd, Int.reduceEq, not_false_eq_true]); omega) (fun _ => by (try simp only [sk_uI_s, sk_uI_o, sk_up_s, sk_up_o, sk_uL_s, sk_uL_o, ne_eq, Nat.reduceEqDiff, Nat.reduceAdd, Int.reduceEq, not_false_eq_true]); exact hd) (by (try simp only [sk_uI_s, sk_uI_o, sk_up_s, sk_up_o, sk_uL_s, sk_uL_o, ne_eq, Nat.reduceEqDiff, Nat.reduceAdd, Int.reduceEq, not_false_eq_true]); exact hz) ?_
    refine AW_run 80 rfl ?_
    exact AW_vret rfl rfl hq
  · rw [if_neg (by omega)] at hq
    refine AW_run 80 rfl ?_
    first | refine AW_e1 rfl ?_ | refine AW_e0 rfl ?_ | refine AW_n1 rfl ?_ | refine AW_n0 rfl ?_
    refine AW_run 80 rfl ?_
    exact AW_vret rfl rfl hq
theorem c_X_eb (hp : sk_pg p) (hd : 0 < I 35 5 ∧ I 35 5 ≤ 480) (hr : 0 ≤ I 36 (I 35 5 - 1) ∧ I 36 (I 35 5 - 1) ≤ 3) (ht : I 36 (I 35 5 - 1) = 2 → sk_in (I 40 (I 35 5 - 1)) ∧ 0 ≤ I 37 (I 35 5 - 1) ∧ I 37 (I 35 5 - 1) < I p 10) (h10 : 0 ≤ I p 10 ∧ I p 10 ≤ 200) (hq : Q none sk_G (sk_ebI p I, L, sk_J cu sp io p tp fp)) : AW l E (d + 2) 0 0 mX6_endBlock 0 [some (vr 34), none, none] [] sk_G (I, L, sk_J cu sp io p tp fp) Q := by
  have hp' := hp
  unfold sk_ebI at hq
  have clo : ¬ (I 36 (I 35 5 - 1) = 2 ∧ 0 < I 40 (I 35 5 - 1)) → ∀ x y : Int, AW l E (d + 2) 0 0 mX6_endBlock 72 [some (vr 34), some (vi x), some (vi y)] [vr 34] sk_G (I, L, sk_J cu sp io p tp fp) Q := by
    intro hn x y
    rw [if_neg hn] at hq
    refine AW_cV (M' := mX6_closeBlock) rfl kkX6_163 lcX6_closeBlock rfl rfl rfl rfl rfl rfl (Nat.le_refl _) ?_
    refine c_X_close hd (by unfold sk_in; omega) ?_
    refine AW_run 80 rfl ?_
    exact AW_vret rfl rfl hq
  refine AW_run 80 rfl ?_
  refine AW_cV (M' := mX1_topOpener) rfl kkX6_145 lcX1_topOpener rfl rfl rfl rfl rfl rfl (Nat.le_refl _) ?_
  refine c_Fr_opener hd ?_
  refine AW_run 80 rfl ?_
  refine AW_cV (M' := mX1_topTimesLeft) rfl kkX6_148 lcX1_topTimesLeft rfl rfl rfl rfl rfl rfl (Nat.le_refl _) ?_
  refine c_Fr_times hd ?_
  refine AW_run 80 rfl ?_
  refine AW_cV (M' := mX1_topRole) rfl kkX6_151 lcX1_topRole rfl rfl rfl rfl rfl rfl (Nat.le_refl _) ?_
  refine c_Fr_role hd ?_
  refine AW_run 80 rfl ?_
  refine AW_icne rfl (fun g => ?_) (fun g => ?_) (by unfold sk_in; omega)
  · have clo := clo (fun z => g z.1)
    refine AW_run 80 rfl ?_
    exact clo _ _
  · obtain ⟨t1, t2⟩ := ht g
    refine AW_run 80 rfl ?_
    refine AW_ifle rfl (fun g2 => ?_) (fun g2 => ?_) t1
    · have clo := clo (fun z => by omega)
      refine AW_run 80 rfl ?_
      exact clo _ _
    · rw [if_pos ⟨g, by omega⟩] at hq
      rcases hp with rfl | rfl <;>
      · refine AW_run 80 rfl ?_
        refine AW_cV (M' := mX2_hasStep) rfl kkX6_75 lcX2_hasStep rfl rfl rfl rfl rfl rfl (Nat.le_refl _) ?_
        refine c_Pg_has _ hp' _ (by unfold sk_in; omega) h10 (fun _ _ => ?_) (fun z => absurd t2 z)
        refine AW_run 80 rfl ?_
        first | refine AW_e1 rfl ?_ | refine AW_e0 rfl ?_ | refine AW_n1 rfl ?_ | refine AW_n0 rfl ?_
        refine AW_run 80 rfl ?_
        refine AW_cV (M' := mX1_setTimesLeft) rfl kkX6_154 lcX1_setTimesLeft rfl rfl rfl rfl rfl rfl (Nat.le_refl _) ?_
        refine c_Fr_setTimes _ hd ?_
        refine AW_run 80 rfl ?_
        refine AW_iald rfl rfl ⟨by omega, by omega⟩ (by decide) ?_
        (try simp only [sk_uI_s, sk_uI_o, sk_up_s, sk_up_o, sk_uL_s, sk_uL_o, ne_eq, Nat.reduceEqDiff, Nat.reduceAdd, Int.reduceEq, not_false_eq_true])
        refine AW_run 80 rfl ?_
        refine AW_cV (M' := mX1_goTo) rfl kkX6_160 lcX1_goTo rfl rfl rfl rfl rfl rfl (Nat.le_refl _) ?_
        refine c_Fr_goTo _ (by (try simp only [sk_uI_s, sk_uI_o, sk_up_s, sk_up_o, sk_uL_s, sk_uL_o, ne_eq, Nat.reduceEqDiff, Nat.reduceAdd, Int.reduceEq, not_false_eq_true]); exact hd) ?_
        (try simp only [sk_uI_s, sk_uI_o, sk_up_s, sk_up_o, sk_uL_s, sk_uL_o, ne_eq, Nat.reduceEqDiff, Nat.reduceAdd, Int.reduceEq, not_false_eq_true])
        refine AW_run 80 rfl ?_
        exact AW_vret rfl rfl hq
end SKX1
