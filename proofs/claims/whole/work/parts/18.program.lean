/-! ===== Program ===== -/
section SKC4
variable {l : Launch} {E : sk_En} {d : Nat} {I : sk_SI} {L : sk_SL} {cu sp io rp tp fp : Nat} {Q : Option sk_V → List sk_Sh → sk_St → Prop}
/-- one of the two programs; its arrays are the nine cells behind it -/
def sk_pg (p : Nat) : Prop := p = 9 ∨ p = 19
theorem c_Pg_clear (p : Nat) (hp : sk_pg p) (hq : Q none sk_G (sk_uI (sk_uI (sk_uI I p 9 0) p 10 0) p 11 0, L, sk_J cu sp io rp tp fp)) : AW l E d 0 0 mX2_clear 0 [some (vr p)] [] sk_G (I, L, sk_J cu sp io rp tp fp) Q := by
  rcases hp with rfl | rfl <;>
  · refine AW_run 80 rfl ?_
    exact AW_vret rfl rfl hq
theorem c_Pg_owner (p : Nat) (hp : sk_pg p) (m : Int) (hm : sk_in m) (hn : 0 ≤ I p 9 ∧ I p 9 ≤ 20) (hT : 0 ≤ m → m < I p 9 → Q (some (vi (I (p + 1) m))) sk_G (I, L, sk_J cu sp io rp tp fp)) (hF : ¬ (0 ≤ m ∧ m < I p 9) → Q (some (vi (-1))) sk_G (I, L, sk_J cu sp io rp tp fp)) : AW l E (d + 1) 0 0 mX2_ownerOf 0 [some (vr p), some (vi m)] [] sk_G (I, L, sk_J cu sp io rp tp fp) Q := by
  rcases hp with rfl | rfl <;>
  · refine AW_run 80 rfl ?_
    refine AW_within rfl kkX2_49 rfl (by omega) (fun w1 w2 => ?_) (fun w3 => ?_)
    · refine AW_run 80 rfl ?_
      first | refine AW_e1 rfl ?_ | refine AW_e0 rfl ?_ | refine AW_n1 rfl ?_ | refine AW_n0 rfl ?_
      refine AW_run 80 rfl ?_
      refine AW_iald rfl rfl ⟨by omega, by omega⟩ (by decide) ?_
      refine AW_run 80 rfl ?_
      exact AW_iret rfl rfl (hT w1 w2)
    · refine AW_run 80 rfl ?_
      first | refine AW_e1 rfl ?_ | refine AW_e0 rfl ?_ | refine AW_n1 rfl ?_ | refine AW_n0 rfl ?_
      refine AW_run 80 rfl ?_
      exact AW_iret rfl rfl (hF w3)
theorem c_Pg_start (p : Nat) (hp : sk_pg p) (m : Int) (hm : sk_in m) (hn : 0 ≤ I p 9 ∧ I p 9 ≤ 20) (hT : 0 ≤ m → m < I p 9 → Q (some (vi (I (p + 2) m))) sk_G (I, L, sk_J cu sp io rp tp fp)) (hF : ¬ (0 ≤ m ∧ m < I p 9) → Q (some (vi (-1))) sk_G (I, L, sk_J cu sp io rp tp fp)) : AW l E (d + 1) 0 0 mX2_startOf 0 [some (vr p), some (vi m)] [] sk_G (I, L, sk_J cu sp io rp tp fp) Q := by
  rcases hp with rfl | rfl <;>
  · refine AW_run 80 rfl ?_
    refine AW_within rfl kkX2_49 rfl (by omega) (fun w1 w2 => ?_) (fun w3 => ?_)
    · refine AW_run 80 rfl ?_
      first | refine AW_e1 rfl ?_ | refine AW_e0 rfl ?_ | refine AW_n1 rfl ?_ | refine AW_n0 rfl ?_
      refine AW_run 80 rfl ?_
      refine AW_iald rfl rfl ⟨by omega, by omega⟩ (by decide) ?_
      refine AW_run 80 rfl ?_
      exact AW_iret rfl rfl (hT w1 w2)
    · refine AW_run 80 rfl ?_
      first | refine AW_e1 rfl ?_ | refine AW_e0 rfl ?_ | refine AW_n1 rfl ?_ | refine AW_n0 rfl ?_
      refine AW_run 80 rfl ?_
      exact AW_iret rfl rfl (hF w3)
theorem c_Pg_has (p : Nat) (hp : sk_pg p) (s : Int) (hs : sk_in s) (hn : 0 ≤ I p 10 ∧ I p 10 ≤ 200) (hT : 0 ≤ s → s < I p 10 → Q (some (vi 1)) sk_G (I, L, sk_J cu sp io rp tp fp)) (hF : ¬ (0 ≤ s ∧ s < I p 10) → Q (some (vi 0)) sk_G (I, L, sk_J cu sp io rp tp fp)) : AW l E (d + 1) 0 0 mX2_hasStep 0 [some (vr p), some (vi s)] [] sk_G (I, L, sk_J cu sp io rp tp fp) Q := by
  rcases hp with rfl | rfl <;>
  · refine AW_run 80 rfl ?_
    refine AW_within rfl kkX2_49 rfl (by omega) (fun w1 w2 => ?_) (fun w3 => ?_)
    · refine AW_run 80 rfl ?_
      exact AW_zret rfl rfl (Or.inr rfl) (hT w1 w2)
    · refine AW_run 80 rfl ?_
      exact AW_zret rfl rfl (Or.inl rfl) (hF w3)
def sk_eqc (f : Int → Int) (w : Int) : Int → Int := fun i => if f i = w then 1 else 0
theorem sk_eqc_b (f : Int → Int) (w : Int) (i : Int) : 0 ≤ sk_eqc f w i ∧ sk_eqc f w i ≤ 1 := by
  unfold sk_eqc
  split <;> omega
theorem c_Pg_count (p : Nat) (hp : sk_pg p) (w : Int) (hw : sk_in w) (hn : 0 ≤ I p 10 ∧ I p 10 ≤ 200) (hI : ∀ i, 0 ≤ i → i < I p 10 → sk_in (I (p + 3) i)) (hq : Q (some (vi (sk_sum (sk_eqc (I (p + 3)) w) (I p 10).toNat))) sk_G (I, L, sk_J cu sp io rp tp fp)) : AW l E d 0 0 mX2_countOf 0 [some (vr p), some (vi w), none, none] [] sk_G (I, L, sk_J cu sp io rp tp fp) Q := by
  rcases hp with rfl | rfl
  · have key : ∀ (m : Nat) (i : Int), 0 ≤ i → i + m = I 9 10 → AW l E d 0 0 mX2_countOf 9 [some (vr 9), some (vi w), some (vi (sk_sum (sk_eqc (I 12) w) i.toNat)), some (vi i)] [vi (I 9 10), vi i] sk_G (I, L, sk_J cu sp io rp tp fp) Q := by
      intro m
      induction m with
      | zero =>
        intro i h0 hi
        refine AW_icge rfl (fun h => ?_) (fun h => ?_)
        · refine AW_run 80 rfl ?_
          rw [show i = I 9 10 by omega]
          exact AW_iret rfl rfl hq
        · omega
      | succ m ih =>
        intro i h0 hi
        refine AW_icge rfl (fun h => ?_) (fun h => ?_)
        · omega
        · refine AW_run 80 rfl ?_
          refine AW_iald rfl rfl ⟨by omega, by omega⟩ (by decide) ?_
          refine AW_run 80 rfl ?_
          refine AW_icne rfl (fun h2 => ?_) (fun h2 => ?_) (hI i h0 (by omega)) hw
          · refine AW_run 80 rfl ?_
            exact AW_lk (ih (i + 1) (by omega) (by omega)) ⟨rfl, rfl, by rw [sk_sum_s _ h0, sk_eqc, if_neg h2], rfl, trivial⟩
          · refine AW_run 80 rfl ?_
            exact AW_lk (ih (i + 1) (by omega) (by omega)) ⟨rfl, rfl, by rw [sk_sum_s _ h0, sk_eqc, if_pos h2], rfl, trivial⟩
    refine AW_run 80 rfl ?_
    exact key (I 9 10).toNat 0 (by omega) (by omega)
  · have key : ∀ (m : Nat) (i : Int), 0 ≤ i → i + m = I 19 10 → AW l E d 0 0 mX2_countOf 9 [some (vr 19), some (vi w), some (vi (sk_sum (sk_eqc (I 22) w) i.toNat)), some (vi i)] [vi (I 19 10), vi i] sk_G (I, L, sk_J cu sp io rp tp fp) Q := by
      intro m
      induction m with
      | zero =>
        intro i h0 hi
        refine AW_icge rfl (fun h => ?_) (fun h => ?_)
        · refine AW_run 80 rfl ?_
          rw [show i = I 19 10 by omega]
          exact AW_iret rfl rfl hq
        · omega
      | succ m ih =>
        intro i h0 hi
        refine AW_icge rfl (fun h => ?_) (fun h => ?_)
        · omega
        · refine AW_run 80 rfl ?_
          refine AW_iald rfl rfl ⟨by omega, by omega⟩ (by decide) ?_
          refine AW_run 80 rfl ?_
          refine AW_icne rfl (fun h2 => ?_) (fun h2 => ?_) (hI i h0 (by omega)) hw
          · refine AW_run 80 rfl ?_
            exact AW_lk (ih (i + 1) (by omega) (by omega)) ⟨rfl, rfl, by rw [sk_sum_s _ h0, sk_eqc, if_neg h2], rfl, trivial⟩
          · refine AW_run 80 rfl ?_
            exact AW_lk (ih (i + 1) (by omega) (by omega)) ⟨rfl, rfl, by rw [sk_sum_s _ h0, sk_eqc, if_pos h2], rfl, trivial⟩
    refine AW_run 80 rfl ?_
    exact key (I 19 10).toNat 0 (by omega) (by omega)
/-- how many steps of a word -/
def sk_nw2 (I : sk_SI) (p : Nat) (w : Int) : Int := sk_sum (sk_eqc (I (p + 3)) w) (I p 10).toNat
theorem sk_nw2_b (I : sk_SI) (p : Nat) (w : Int) (h : I p 10 ≤ 200) : 0 ≤ sk_nw2 I p w ∧ sk_nw2 I p w ≤ 200 := by
  have := sk_sum_b _ (sk_eqc_b (I (p + 3)) w) (I p 10).toNat
  unfold sk_nw2
  omega
theorem c_Pg_plain (p : Nat) (hp : sk_pg p) (hn : 0 ≤ I p 10 ∧ I p 10 ≤ 200) (hI : ∀ i, 0 ≤ i → i < I p 10 → sk_in (I (p + 3) i)) (hT : sk_nw2 I p 4 + sk_nw2 I p 5 + sk_nw2 I p 6 = 0 → Q (some (vi 1)) sk_G (I, L, sk_J cu sp io rp tp fp)) (hF : sk_nw2 I p 4 + sk_nw2 I p 5 + sk_nw2 I p 6 ≠ 0 → Q (some (vi 0)) sk_G (I, L, sk_J cu sp io rp tp fp)) : AW l E (d + 1) 0 0 mX2_canBeForetold 0 [some (vr p)] [] sk_G (I, L, sk_J cu sp io rp tp fp) Q := by
  have b4 := sk_nw2_b I p 4 hn.2
  have b5 := sk_nw2_b I p 5 hn.2
  have b6 := sk_nw2_b I p 6 hn.2
  rcases hp with rfl | rfl <;>
  · refine AW_run 80 rfl ?_
    refine AW_cV (M' := mX2_countOf) rfl kkX2_53 lcX2_countOf rfl rfl rfl rfl rfl rfl (Nat.le_refl _) ?_
    refine c_Pg_count _ (by first | exact Or.inl rfl | exact Or.inr rfl) 4 (by unfold sk_in; omega) hn hI ?_
    refine AW_run 80 rfl ?_
    refine AW_cV (M' := mX2_countOf) rfl kkX2_53 lcX2_countOf rfl rfl rfl rfl rfl rfl (Nat.le_refl _) ?_
    refine c_Pg_count _ (by first | exact Or.inl rfl | exact Or.inr rfl) 5 (by unfold sk_in; omega) hn hI ?_
    refine AW_run 80 rfl ?_
    refine AW_cV (M' := mX2_countOf) rfl kkX2_53 lcX2_countOf rfl rfl rfl rfl rfl rfl (Nat.le_refl _) ?_
    refine c_Pg_count _ (by first | exact Or.inl rfl | exact Or.inr rfl) 6 (by unfold sk_in; omega) hn hI ?_
    refine AW_run 80 rfl ?_
    unfold sk_nw2 at *
    refine AW_ifne rfl (fun h => ?_) (fun h => ?_)
    · refine AW_run 80 rfl ?_
      exact AW_zret rfl rfl (Or.inl rfl) (hF h)
    · refine AW_run 80 rfl ?_
      exact AW_zret rfl rfl (Or.inr rfl) (hT h)
theorem c_Pg_addMethod (p : Nat) (hp : sk_pg p) (o : Int) (hn : 0 ≤ I p 9 ∧ I p 9 < 20) (hq : Q (some (vi (I p 9))) sk_G (sk_uI (sk_uI (sk_uI I (p + 1) (I p 9) o) (p + 2) (I p 9) (-1)) p 9 (I p 9 + 1), L, sk_J cu sp io rp tp fp)) : AW l E (d + 1) 0 0 mX2_addMethod 0 [some (vr p), some (vi o), none] [] sk_G (I, L, sk_J cu sp io rp tp fp) Q := by
  rcases hp with rfl | rfl <;>
  · refine AW_run 80 rfl ?_
    refine AW_within rfl kkX2_49 rfl (by omega) (fun w1 w2 => ?_) (fun w3 => ?_)
    · refine AW_run 80 rfl ?_
      first | refine AW_e1 rfl ?_ | refine AW_e0 rfl ?_ | refine AW_n1 rfl ?_ | refine AW_n0 rfl ?_
      refine AW_run 80 rfl ?_
      refine AW_iast rfl rfl ⟨by omega, by omega⟩ (by decide) ?_
      (refine AW_run 80 rfl ?_; (try simp only [sk_uI_s, sk_uI_o, sk_up_s, sk_up_o, sk_uL_s, sk_uL_o, ne_eq, Nat.reduceEqDiff, Nat.reduceAdd, Int.reduceEq, not_false_eq_true]))
      refine AW_iast rfl rfl ⟨by omega, by omega⟩ (by decide) ?_
      (refine AW_run 80 rfl ?_; (try simp only [sk_uI_s, sk_uI_o, sk_up_s, sk_up_o, sk_uL_s, sk_uL_o, ne_eq, Nat.reduceEqDiff, Nat.reduceAdd, Int.reduceEq, not_false_eq_true]))
      exact AW_iret rfl rfl hq
    · omega
theorem c_Pg_addStep (p : Nat) (hp : sk_pg p) (w : Int) (hn : 0 ≤ I p 10 ∧ I p 10 < 200) (hq : Q (some (vi (I p 10))) sk_G (sk_uI (sk_uI (sk_uI (sk_uI (sk_uI (sk_uI (sk_uI (sk_uI I (p + 3) (I p 10) w) (p + 4) (I p 10) (I p 9 - 1)) (p + 5) (I p 10) (-1)) (p + 6) (I p 10) (-1)) (p + 7) (I p 10) (-1)) (p + 8) (I p 10) (-1)) (p + 9) (I p 10) (-1)) p 10 (I p 10 + 1), L, sk_J cu sp io rp tp fp)) : AW l E (d + 1) 0 0 mX2_addStep 0 [some (vr p), some (vi w), none] [] sk_G (I, L, sk_J cu sp io rp tp fp) Q := by
  rcases hp with rfl | rfl <;>
  · refine AW_run 80 rfl ?_
    refine AW_within rfl kkX2_49 rfl (by omega) (fun w1 w2 => ?_) (fun w3 => ?_)
    · refine AW_run 80 rfl ?_
      first | refine AW_e1 rfl ?_ | refine AW_e0 rfl ?_ | refine AW_n1 rfl ?_ | refine AW_n0 rfl ?_
      refine AW_run 80 rfl ?_
      refine AW_iast rfl rfl ⟨by omega, by omega⟩ (by decide) ?_
      (refine AW_run 80 rfl ?_; (try simp only [sk_uI_s, sk_uI_o, sk_up_s, sk_up_o, sk_uL_s, sk_uL_o, ne_eq, Nat.reduceEqDiff, Nat.reduceAdd, Int.reduceEq, not_false_eq_true]))
      refine AW_iast rfl rfl ⟨by omega, by omega⟩ (by decide) ?_
      (refine AW_run 80 rfl ?_; (try simp only [sk_uI_s, sk_uI_o, sk_up_s, sk_up_o, sk_uL_s, sk_uL_o, ne_eq, Nat.reduceEqDiff, Nat.reduceAdd, Int.reduceEq, not_false_eq_true]))
      refine AW_iast rfl rfl ⟨by omega, by omega⟩ (by decide) ?_
      (refine AW_run 80 rfl ?_; (try simp only [sk_uI_s, sk_uI_o, sk_up_s, sk_up_o, sk_uL_s, sk_uL_o, ne_eq, Nat.reduceEqDiff, Nat.reduceAdd, Int.reduceEq, not_false_eq_true]))
      refine AW_iast rfl rfl ⟨by omega, by omega⟩ (by decide) ?_
      (refine AW_run 80 rfl ?_; (try simp only [sk_uI_s, sk_uI_o, sk_up_s, sk_up_o, sk_uL_s, sk_uL_o, ne_eq, Nat.reduceEqDiff, Nat.reduceAdd, Int.reduceEq, not_false_eq_true]))
      refine AW_iast rfl rfl ⟨by omega, by omega⟩ (by decide) ?_
      (refine AW_run 80 rfl ?_; (try simp only [sk_uI_s, sk_uI_o, sk_up_s, sk_up_o, sk_uL_s, sk_uL_o, ne_eq, Nat.reduceEqDiff, Nat.reduceAdd, Int.reduceEq, not_false_eq_true]))
      refine AW_iast rfl rfl ⟨by omega, by omega⟩ (by decide) ?_
      (refine AW_run 80 rfl ?_; (try simp only [sk_uI_s, sk_uI_o, sk_up_s, sk_up_o, sk_uL_s, sk_uL_o, ne_eq, Nat.reduceEqDiff, Nat.reduceAdd, Int.reduceEq, not_false_eq_true]))
      refine AW_iast rfl rfl ⟨by omega, by omega⟩ (by decide) ?_
      (refine AW_run 80 rfl ?_; (try simp only [sk_uI_s, sk_uI_o, sk_up_s, sk_up_o, sk_uL_s, sk_uL_o, ne_eq, Nat.reduceEqDiff, Nat.reduceAdd, Int.reduceEq, not_false_eq_true]))
      exact AW_iret rfl rfl hq
    · omega
end SKC4
