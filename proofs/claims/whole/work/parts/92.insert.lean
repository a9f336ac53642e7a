/-! ===== Foresight.insert ===== -/
theorem sf_cI_o {I : sk_SI} {c k : Nat} {f : Int → Int} (h : k ≠ c) : sk_cI I c f k = I k := by
  unfold sk_cI
  rw [if_neg h]
theorem sf_cI_s {I : sk_SI} {c : Nat} {f : Int → Int} : sk_cI I c f c = f := by
  unfold sk_cI
  rw [if_pos rfl]
def sf_fL (c : Nat) (a b : Int) (v : Int64) (L : sk_SL) : sk_SL := fun k j => if k = c then (if a ≤ j ∧ j < b then v else L k j) else L k j
theorem sf_fL_o {c : Nat} {a b : Int} {v : Int64} {L : sk_SL} {k : Nat} (h : k ≠ c) : sf_fL c a b v L k = L k := by
  funext j
  unfold sf_fL
  rw [if_neg h]
theorem sf_fL_s {c : Nat} {a b : Int} {v : Int64} {L : sk_SL} (j : Int) : sf_fL c a b v L c j = if a ≤ j ∧ j < b then v else L c j := by
  unfold sf_fL
  rw [if_pos rfl]
theorem sf_fL_0 (c : Nat) (a : Int) (v : Int64) (L : sk_SL) : sf_fL c a a v L = L := by
  funext k j
  by_cases h : k = c
  · subst h; rw [sf_fL_s, if_neg (by omega)]
  · rw [sf_fL_o h]
theorem sf_fL_1 (c : Nat) (a i : Int) (v : Int64) (L : sk_SL) (hi : a ≤ i) : sk_uL (sf_fL c a i v L) c i v = sf_fL c a (i + 1) v L := by
  funext k j
  by_cases h : k = c
  · subst h
    rw [sk_uL_s, sf_fL_s]
    by_cases e : j = i
    · subst e; rw [sk_upL_s, if_pos (by omega)]
    · rw [sk_upL_o e, sf_fL_s]
      by_cases g : a ≤ j ∧ j < i
      · rw [if_pos g, if_pos (by omega)]
      · rw [if_neg g, if_neg (by omega)]
  · rw [sk_uL_o h, sf_fL_o h, sf_fL_o h]
def sf_iI (m pl : Int) (I : sk_SI) : sk_SI := sk_uI (sk_uI (sk_uI (sk_uI (sk_uI (sk_uI (sk_cI I 54 (sk_cp (I 54) (I 54) pl (pl + 1) (I 48 12 - pl))) 54 pl (I 48 12)) 49 (I 48 12) m) 51 (I 48 12) 0) 52 (I 48 12) 1) 55 m (I 55 m + 1)) 48 12 (I 48 12 + 1)
def sf_iL (dp n : Int) (L : sk_SL) : sk_SL := sf_fL 53 (n * 5) ((n + 1) * 5) 0 (sk_cL L 50 (sk_cp (L 56) (L 50) (dp * 8) (n * 8) 8))
section SKF6
variable {l : Launch} {E : sk_En} {d : Nat} {I : sk_SI} {L : sk_SL} {cu sp io rp tp p : Nat} {Q : Option sk_V → List sk_Sh → sk_St → Prop} {TT : Int → sk_Tb}
theorem c_rangeC (n a b : Int) (ha : 0 ≤ a) (hab : a ≤ b) (hb : b ≤ n) (hn : n ≤ 100000) (J : sk_SR) (hq : Q none sk_G (I, L, J)) : AW l E d 0 0 mJ7_rangeCheck_23922 0 [some (vi n), some (vi a), some (vi b)] [] sk_G (I, L, J) Q := by
  refine AW_run 80 rfl ?_
  refine AW_icle rfl (fun g => ?_) (fun g => by omega) (by unfold sk_in; omega) (by unfold sk_in; omega)
  refine AW_run 80 rfl ?_
  refine AW_ifge rfl (fun g => ?_) (fun g => by omega) (by unfold sk_in; omega)
  refine AW_run 80 rfl ?_
  refine AW_icle rfl (fun g => ?_) (fun g => by omega) (by unfold sk_in; omega) (by unfold sk_in; omega)
  exact AW_vret rfl rfl hq
theorem c_fillR (a b : Int) (v : Int64) (L : sk_SL) (J : sk_SR) (ha : 0 ≤ a) (hab : a ≤ b) (hb : b ≤ 1500) (hq : Q none sk_G (I, sf_fL 53 a b v L, J)) : AW l E (d + 1) 0 0 mJ7_fill_bad5a 0 [some (vr 53), some (vi a), some (vi b), some (vl v), none, none] [] sk_G (I, L, J) Q := by
  have lp : ∀ (k : Nat) (i : Int), a ≤ i → i + k = b → AW l E (d + 1) 0 0 mJ7_fill_bad5a 13 [some (vr 53), some (vi a), some (vi b), some (vl v), none, some (vi i)] [vi b, vi i] sk_G (I, sf_fL 53 a i v L, J) Q := by
    intro k
    induction k with
    | zero =>
      intro i i0 hi
      have : i = b := by omega
      subst this
      refine AW_icge rfl (fun g => ?_) (fun g => by omega) (by unfold sk_in; omega) (by unfold sk_in; omega)
      exact AW_vret rfl rfl hq
    | succ k ih =>
      intro i i0 hi
      have ih2 := ih (i + 1) (by omega) (by omega)
      rw [← sf_fL_1 53 a i v L i0] at ih2
      refine AW_icge rfl (fun g => by omega) (fun g => ?_) (by unfold sk_in; omega) (by unfold sk_in; omega)
      refine AW_run 80 rfl ?_
      refine AW_last rfl rfl ⟨by omega, by omega⟩ (by decide) ?_
      refine AW_run 80 rfl ?_
      exact ih2
  have lp := lp (b - a).toNat a (by omega) (by omega)
  rw [sf_fL_0] at lp
  refine AW_run 80 rfl ?_
  refine AW_cS (M' := mJ7_rangeCheck_23922) rfl kkJ7_13 lcJ7_rangeCheck_23922 rfl rfl rfl (Nat.le_refl _) ?_
  refine c_rangeC 1500 a b ha hab hb (by omega) _ ?_
  refine AW_run 80 rfl ?_
  exact lp
theorem c_F_insert (m dp pl : Int) (hn : 0 ≤ I 48 12 ∧ I 48 12 < 300) (hpl : 0 ≤ pl ∧ pl ≤ I 48 12) (hd : 0 ≤ dp ∧ dp ≤ 12) (hm : 0 ≤ m ∧ m < 20) (hq : Q (some (vi (I 48 12))) sk_G (sf_iI m pl I, sf_iL dp (I 48 12) L, sk_J cu sp io rp tp p)) : AW l E (d + 2) 0 0 mX0_insert 0 [some (vr 48), some (vi m), some (vi dp), some (vi pl), none] [] sk_G (I, L, sk_J cu sp io rp tp p) Q := by
  have o1 : (1 : Int) = 0 ∨ (1 : Int) = 1 := Or.inr rfl
  unfold sf_iI sf_iL at hq
  generalize hN : I 48 12 = N at *
  refine AW_run 80 rfl ?_
  rw [hN]
  refine AW_within rfl kkX0_103 rfl (by omega) (fun w1 w2 => ?_) (fun w3 => by omega)
  refine AW_run 80 rfl ?_
  first | refine AW_e1 rfl ?_ | refine AW_e0 rfl ?_ | refine AW_n1 rfl ?_ | refine AW_n0 rfl ?_
  refine AW_run 80 rfl ?_
  rw [hN]
  refine AW_within rfl kkX0_103 rfl (by omega) (fun w1 w2 => ?_) (fun w3 => by omega)
  refine AW_run 80 rfl ?_
  first | refine AW_e1 rfl ?_ | refine AW_e0 rfl ?_ | refine AW_n1 rfl ?_ | refine AW_n0 rfl ?_
  refine AW_run 80 rfl ?_
  refine AW_within rfl kkX0_103 rfl (by omega) (fun w1 w2 => ?_) (fun w3 => by omega)
  refine AW_run 80 rfl ?_
  first | refine AW_e1 rfl ?_ | refine AW_e0 rfl ?_ | refine AW_n1 rfl ?_ | refine AW_n0 rfl ?_
  refine AW_run 80 rfl ?_
  refine AW_within rfl kkX0_103 rfl (by omega) (fun w1 w2 => ?_) (fun w3 => by omega)
  refine AW_run 80 rfl ?_
  first | refine AW_e1 rfl ?_ | refine AW_e0 rfl ?_ | refine AW_n1 rfl ?_ | refine AW_n0 rfl ?_
  refine AW_run 80 rfl ?_
  rw [hN]
  refine AW_acI rfl kw_pX0_84 (by omega) rfl rfl rfl (by omega) (by omega) (by omega) (by omega) (by omega) (by decide) (by decide) ?_
  refine AW_run 80 rfl ?_
  refine AW_iast rfl rfl ⟨by omega, by omega⟩ (by decide) ?_
  refine AW_run 80 rfl ?_
  refine AW_acL rfl kw_pX0_84 (by omega) rfl rfl rfl (by omega) (by omega) (by omega) (by omega) (by omega) (by decide) (by decide) ?_
  refine AW_run 80 rfl ?_
  refine AW_iast rfl rfl ⟨by omega, by omega⟩ (by decide) ?_
  refine AW_run 80 rfl ?_
  refine AW_iast rfl rfl ⟨by omega, by omega⟩ (by decide) ?_
  refine AW_run 80 rfl ?_
  refine AW_zast rfl rfl ⟨by omega, by omega⟩ (by decide) (o1) ?_
  refine AW_run 80 rfl ?_
  refine AW_cS (M' := mJ7_fill_bad5a) (d' := d + 1) rfl kkX0_193 lcJ7_fill_bad5a rfl rfl rfl (Nat.le_refl _) ?_
  refine c_fillR _ _ _ _ _ (by omega) (by omega) (by omega) ?_
  refine AW_run 80 rfl ?_
  refine AW_iald rfl rfl ⟨by omega, by omega⟩ (by decide) ?_
  refine AW_run 80 rfl ?_
  refine AW_iast rfl rfl ⟨by omega, by omega⟩ (by decide) ?_
  refine AW_run 80 rfl ?_
  simp only [sk_uI_s, sk_uI_o, sk_up_s, sk_up_o, sf_cI_o, ne_eq, Nat.reduceEqDiff, Nat.reduceAdd, Int.reduceEq, not_false_eq_true]
  rw [hN]
  exact AW_iret rfl rfl hq
end SKF6
