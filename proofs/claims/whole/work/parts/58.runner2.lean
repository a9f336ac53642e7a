/-! ===== what holds while a program runs; fail, goBack ===== -/
/-- one frame -/
def sk_f1 (n : Int) (D p8 : Int → Int) (z : Int) (lv mc : Int → Int) (i ro op nx st tm : Int) : Prop :=
  (1 ≤ lv i ∧ lv i ≤ 12) ∧ (1 ≤ mc i ∧ mc i ≤ 40) ∧ i + 1 ≤ 12 * (mc i - 1) + lv i ∧ (nx = -1 ∨ (0 ≤ nx ∧ nx < n ∧ D nx = lv i)) ∧ (0 ≤ st ∧ st < z) ∧ (0 ≤ ro ∧ ro ≤ 3) ∧ (ro = 0 → lv i = 1 ∧ ((i = 0 ∧ mc i = 1) ∨ (0 < i ∧ mc i = mc (i - 1) + 1))) ∧ (ro ≠ 0 → 0 < i ∧ lv i = lv (i - 1) + 1 ∧ mc i = mc (i - 1)) ∧ (ro = 1 ∨ ro = 2 → 0 ≤ op ∧ op < n ∧ D op + 1 = lv i) ∧ (ro = 2 → 0 ≤ tm ∧ tm ≤ 99 ∧ p8 op ≠ -1)
def sk_FV (p : Nat) (D lv mc : Int → Int) (I : sk_SI) : Prop := 0 ≤ I 35 5 ∧ ∀ i, 0 ≤ i → i < I 35 5 → sk_f1 (I p 10) D (I (p + 8)) (I 45 4) lv mc i (I 36 i) (I 37 i) (I 38 i) (I 39 i) (I 40 i)
def sk_V4 (mc : Int → Int) (I : sk_SI) : Prop := 0 < I 35 5 → I 34 12 = mc (I 35 5 - 1)
def sk_JV (p : Nat) (I : sk_SI) : Prop := (0 ≤ I 34 10 ∧ I 34 10 ≤ 21) ∧ ∀ j, 0 ≤ j → j < I 34 10 → (0 ≤ I 42 j ∧ I 42 j < I p 9) ∧ (-1 ≤ I 43 j ∧ I 43 j < I 45 4)
def sk_SV (I : sk_SI) : Prop := ∀ k, 0 ≤ k → k < 4 → -1 ≤ I 41 k ∧ I 41 k < I 45 4
def sk_TV (a b : Int) (I : sk_SI) : Prop := (0 ≤ I 44 0 ∧ I 44 0 ≤ I 34 11) ∧ (0 ≤ I 44 1 ∧ I 44 1 ≤ I 34 10) ∧ (0 ≤ I 44 4 ∧ I 44 4 ≤ 40) ∧ (0 ≤ I 44 5 ∧ I 44 5 ≤ I 3 1) ∧ (0 ≤ I 5 1 ∧ I 5 1 + b ≤ I 44 0) ∧ (0 ≤ I 45 4 ∧ I 45 4 + a ≤ I 44 0 + I 44 1)
/-- what doesn't change in a run -/
def sk_XS (p : Nat) (D : Int → Int) (I : sk_SI) : Prop := sk_pv p D I ∧ sk_ru I ∧ (0 ≤ I 3 1 ∧ I 3 1 ≤ 400) ∧ (∀ i, 0 ≤ i → i < I 3 1 → 0 ≤ I 4 i ∧ I 4 i ≤ 1) ∧ (0 ≤ I 34 11 ∧ I 34 11 ≤ 3000)
def sk_XV (p : Nat) (D lv mc : Int → Int) (a b : Int) (I : sk_SI) : Prop := sk_XS p D I ∧ sk_FV p D lv mc I ∧ sk_V4 mc I ∧ sk_ev p I ∧ sk_JV p I ∧ sk_SV I ∧ sk_TV a b I
/-- the depth is at most 480 -/
theorem sk_FV_d {p : Nat} {D lv mc : Int → Int} {I : sk_SI} (h : sk_FV p D lv mc I) : 0 ≤ I 35 5 ∧ I 35 5 ≤ 480 := by
  refine ⟨h.1, ?_⟩
  by_cases hz : I 35 5 = 0
  · omega
  · have h0 := h.1
    obtain ⟨a1, a2, a3, -⟩ := h.2 (I 35 5 - 1) (by omega) (by omega)
    omega
section SKX2
variable {l : Launch} {E : sk_En} {d : Nat} {L : sk_SL} {cu sp io tp fp p : Nat} {Q : Option sk_V → List sk_Sh → sk_St → Prop}
theorem c_X_open (I : sk_SI) (s n st : Int) (hd : 0 ≤ I 35 5 ∧ I 35 5 < 480) (hq : Q none sk_G (sk_fpu 3 s n st I, L, sk_J cu sp io p tp fp)) : AW l E (d + 1) 0 0 mX6_open 0 [some (vr 34), some (vi s), some (vi n), some (vi st)] [] sk_G (I, L, sk_J cu sp io p tp fp) Q := by
  unfold sk_fpu at hq
  refine AW_run 80 rfl ?_
  refine AW_cV (M' := mX1_push) rfl kkX6_141 lcX1_push rfl rfl rfl rfl rfl rfl (Nat.le_refl _) ?_
  refine c_Fr_push _ _ _ _ hd ?_
  refine AW_run 80 rfl ?_
  exact AW_vret rfl rfl hq
theorem c_X_fail_lp (hp : sk_pg p) (s o : Int) : ∀ (n : Nat) (I : sk_SI), n ≤ 480 → (0 ≤ I 35 5 ∧ I 35 5 ≤ n) → (0 ≤ I p 10 ∧ I p 10 ≤ 200) → (∀ i, 0 ≤ i → i < I 35 5 → (0 ≤ I 36 i ∧ I 36 i ≤ 3) ∧ (I 36 i = 1 → 0 ≤ I 37 i ∧ I 37 i < I p 10)) → Q none sk_G (sk_flL p n I, L, sk_J cu sp io p tp fp) → AW l E (d + 2) 0 0 mX6_fail 35 [some (vr 34), some (vi s), some (vi o), some (vi n), none, none] [vi n] sk_G (I, L, sk_J cu sp io p tp fp) Q
  | 0, I, hn, hd, h10, hF, hq => by
    unfold sk_flL sk_bmp at hq
    refine AW_ifle rfl (fun g => ?_) (fun g => absurd (Int.le_refl 0) g)
    refine AW_run 80 rfl ?_
    refine AW_iald rfl rfl ⟨by omega, by omega⟩ (by decide) ?_
    refine AW_run 80 rfl ?_
    refine AW_iast rfl rfl ⟨by omega, by omega⟩ (by decide) ?_
    refine AW_run 80 rfl ?_
    exact AW_vret rfl rfl hq
  | n + 1, I, hn, hd, h10, hF, hq => by
    have ein : ((n + 1 : Nat) : Int) + -1 = n := by omega
    refine AW_ifle rfl (fun g => by omega) (fun g => ?_) (by unfold sk_in; omega)
    unfold sk_flL at hq
    refine AW_run 80 rfl ?_
    refine AW_cV (M' := mX1_isEmpty) rfl kkX6_64 lcX1_isEmpty rfl rfl rfl rfl rfl rfl (Nat.le_refl _) ?_
    refine c_Fr_empty (by omega) (fun g2 => ?_) (fun g2 => ?_)
    · rw [if_pos g2] at hq
      unfold sk_bmp at hq
      refine AW_run 80 rfl ?_
      first | refine AW_e1 rfl ?_ | refine AW_e0 rfl ?_ | refine AW_n1 rfl ?_ | refine AW_n0 rfl ?_
      refine AW_run 80 rfl ?_
      refine AW_iald rfl rfl ⟨by omega, by omega⟩ (by decide) ?_
      refine AW_run 80 rfl ?_
      refine AW_iast rfl rfl ⟨by omega, by omega⟩ (by decide) ?_
      refine AW_run 80 rfl ?_
      exact AW_vret rfl rfl hq
    · rw [if_neg (by omega)] at hq
      obtain ⟨r1, r2⟩ := hF (I 35 5 - 1) (by omega) (by omega)
      have hd2 : 0 < I 35 5 ∧ I 35 5 ≤ 480 := by omega
      have po : ∀ k, k ≤ 9 → sk_clI I (p + k) = I (p + k) := fun k hk => sk_clI_o I _ (by rcases hp with rfl | rfl <;> omega) (by rcases hp with rfl | rfl <;> omega)
      have po0 : sk_clI I p = I p := po 0 (by omega)
      have c35 := sk_clI_d I
      have c36 : sk_clI I 36 = I 36 := sk_clI_o I 36 (by decide) (by decide)
      have c37 : sk_clI I 37 = I 37 := sk_clI_o I 37 (by decide) (by decide)
      have c39 : sk_clI I 39 = I 39 := sk_clI_o I 39 (by decide) (by decide)
      refine AW_run 80 rfl ?_
      first | refine AW_e1 rfl ?_ | refine AW_e0 rfl ?_ | refine AW_n1 rfl ?_ | refine AW_n0 rfl ?_
      refine AW_run 80 rfl ?_
      refine AW_cV (M' := mX1_topRole) rfl kkX6_151 lcX1_topRole rfl rfl rfl rfl rfl rfl (Nat.le_refl _) ?_
      refine c_Fr_role hd2 ?_
      refine AW_run 80 rfl ?_
      refine AW_cV (M' := mX1_topOpener) rfl kkX6_145 lcX1_topOpener rfl rfl rfl rfl rfl rfl (Nat.le_refl _) ?_
      refine c_Fr_opener hd2 ?_
      refine AW_run 80 rfl ?_
      refine AW_cV (M' := mX6_closeBlock) rfl kkX6_163 lcX6_closeBlock rfl rfl rfl rfl rfl rfl (Nat.le_refl _) ?_
      refine c_X_close hd2 (by unfold sk_in; omega) ?_
      refine AW_run 80 rfl ?_
      refine AW_icne rfl (fun g3 => ?_) (fun g3 => ?_) (by unfold sk_in; omega)
      · rw [if_neg g3] at hq
        have ih := c_X_fail_lp hp s o n (sk_clI I) (by omega) (by rw [c35]; omega) (by rw [po0]; exact h10) (fun i i0 i1 => by rw [c36, c37, po0]; rw [c35] at i1; exact hF i i0 (by omega)) hq
        refine AW_run 80 rfl ?_
        rw [ein]
        exact AW_lk ih ⟨rfl, rfl, rfl, rfl, trivial⟩
      · rw [if_pos g3] at hq
        have r2 := r2 g3
        have hin : sk_in (I 37 (I 35 5 - 1)) := by unfold sk_in; omega
        have hp' := hp
        have po9 := po 9 (by omega)
        have fin : ∀ st : Int, st = (if 0 < I 35 5 - 1 then I 39 (I 35 5 - 1 - 1) else -1) → AW l E (d + 2) 0 0 mX6_fail 108 [some (vr 34), some (vi s), some (vi o), some (vi ((n + 1 : Nat) : Int)), some (vi (I 36 (I 35 5 - 1))), some (vi (I 37 (I 35 5 - 1)))] [vi st, vi (I (p + 9) (I 37 (I 35 5 - 1))), vi (I 37 (I 35 5 - 1)), vr 34] sk_G (sk_clI I, L, sk_J cu sp io p tp fp) Q := by
          intro st hst
          rw [← hst] at hq
          refine AW_cV (M' := mX6_open) rfl kkX6_194 lcX6_open rfl rfl rfl rfl rfl rfl (Nat.le_refl _) ?_
          refine c_X_open _ _ _ _ (by rw [c35]; omega) ?_
          refine AW_run 80 rfl ?_
          exact AW_vret rfl rfl hq
        have fin := fin _ rfl
        rw [← po9] at fin
        rcases hp with rfl | rfl <;>
        · refine AW_run 80 rfl ?_
          refine AW_cV (M' := mX2_hasStep) rfl kkX6_75 lcX2_hasStep rfl rfl rfl rfl rfl rfl (Nat.le_refl _) ?_
          refine c_Pg_has _ hp' _ hin (by rw [po0]; exact h10) (fun _ _ => ?_) (fun z => absurd (by rw [po0]; exact r2) z)
          refine AW_run 80 rfl ?_
          first | refine AW_e1 rfl ?_ | refine AW_e0 rfl ?_ | refine AW_n1 rfl ?_ | refine AW_n0 rfl ?_
          refine AW_run 80 rfl ?_
          refine AW_iald rfl rfl ⟨by omega, by omega⟩ (by decide) ?_
          refine AW_run 80 rfl ?_
          refine AW_cV (M' := mX1_topStack) rfl kkX6_175 lcX1_topStack rfl rfl rfl rfl rfl rfl (Nat.le_refl _) ?_
          refine c_Fr_stack (by rw [c35]; omega) (fun g4 => ?_) (fun g4 => ?_)
          · rw [c35] at g4
            rw [if_pos g4, ← c39, ← c35] at fin
            refine AW_run 80 rfl ?_
            exact fin
          · rw [c35] at g4
            rw [if_neg (by omega)] at fin
            refine AW_run 80 rfl ?_
            exact fin
theorem c_X_fail (hp : sk_pg p) (I : sk_SI) (s o : Int) (h5 : 0 ≤ I 5 1 ∧ I 5 1 < 3000) (hd : 0 ≤ I 35 5 ∧ I 35 5 ≤ 480) (h10 : 0 ≤ I p 10 ∧ I p 10 ≤ 200) (hF : ∀ i, 0 ≤ i → i < I 35 5 → (0 ≤ I 36 i ∧ I 36 i ≤ 3) ∧ (I 36 i = 1 → 0 ≤ I 37 i ∧ I 37 i < I p 10)) (hq : Q none sk_G (sk_flI p s o I, L, sk_J cu sp io p tp fp)) : AW l E (d + 2) 0 0 mX6_fail 0 [some (vr 34), some (vi s), some (vi o), none, none, none] [] sk_G (I, L, sk_J cu sp io p tp fp) Q := by
  have lp := c_X_fail_lp (l := l) (E := E) (d := d) (L := L) (cu := cu) (sp := sp) (io := io) (tp := tp) (fp := fp) (Q := Q) hp s o 480 (sk_bmp 2 (sk_nte (10000 + 1000 * (o + 1) + s) I)) (by omega) (by unfold sk_bmp sk_nte; (try simp only [sk_uI_s, sk_uI_o, sk_up_s, sk_up_o, sk_uL_s, sk_uL_o, ne_eq, Nat.reduceEqDiff, Nat.reduceAdd, Int.reduceEq, not_false_eq_true]); exact hd) (by unfold sk_bmp sk_nte; rw [sk_uI_o (by rcases hp with rfl | rfl <;> omega), sk_uI_o (by rcases hp with rfl | rfl <;> omega), sk_uI_o (by rcases hp with rfl | rfl <;> omega)]; exact h10) (fun i i0 i1 => by
    unfold sk_bmp sk_nte at i1 ⊢
    rw [sk_uI_o (show p ≠ 44 by rcases hp with rfl | rfl <;> omega), sk_uI_o (show p ≠ 5 by rcases hp with rfl | rfl <;> omega), sk_uI_o (show p ≠ 6 by rcases hp with rfl | rfl <;> omega)]
    simp only [sk_uI_s, sk_uI_o, ne_eq, Nat.reduceEqDiff, not_false_eq_true] at i1 ⊢
    exact hF i i0 i1) hq
  unfold sk_bmp sk_nte at lp
  refine AW_run 80 rfl ?_
  refine AW_cV (M' := mX4_add) (d' := d + 1) rfl kkX6_206 lcX4_add rfl rfl rfl rfl rfl rfl (by omega) ?_
  refine c_Row_add (d := d) 5 3000 (by unfold sk_row; omega) _ h5.1 h5.2 ?_
  refine AW_run 80 rfl ?_
  refine AW_iald rfl rfl ⟨by omega, by omega⟩ (by decide) ?_
  refine AW_run 80 rfl ?_
  refine AW_iast rfl rfl ⟨by omega, by omega⟩ (by decide) ?_
  refine AW_run 80 rfl ?_
  exact lp
theorem c_X_gb_lp : ∀ (n : Nat) (I : sk_SI), n ≤ 480 → (1 ≤ I 35 5 ∧ I 35 5 ≤ n) → (∀ i, 0 ≤ i → i < I 35 5 → 0 ≤ I 36 i ∧ I 36 i ≤ 3) → I 36 0 = 0 → Q none sk_G (sk_clI (sk_gbL n I), L, sk_J cu sp io p tp fp) → AW l E (d + 2) 0 0 mX6_goBack 5 [some (vr 34), some (vi n)] [vi n] sk_G (I, L, sk_J cu sp io p tp fp) Q
  | 0, I, hn, hd, hF, h0, hq => by omega
  | n + 1, I, hn, hd, hF, h0, hq => by
    have ein : ((n + 1 : Nat) : Int) + -1 = n := by omega
    have r1 := hF (I 35 5 - 1) (by omega) (by omega)
    have hd2 : 0 < I 35 5 ∧ I 35 5 ≤ 480 := by omega
    unfold sk_gbL at hq
    refine AW_ifle rfl (fun g => by omega) (fun g => ?_) (by unfold sk_in; omega)
    refine AW_run 80 rfl ?_
    refine AW_cV (M' := mX1_topRole) rfl kkX6_151 lcX1_topRole rfl rfl rfl rfl rfl rfl (Nat.le_refl _) ?_
    refine c_Fr_role hd2 ?_
    refine AW_run 80 rfl ?_
    refine AW_ifeq rfl (fun g2 => ?_) (fun g2 => ?_) (by unfold sk_in; omega)
    · rw [if_pos g2] at hq
      refine AW_run 80 rfl ?_
      refine AW_cV (M' := mX6_closeBlock) rfl kkX6_163 lcX6_closeBlock rfl rfl rfl rfl rfl rfl (Nat.le_refl _) ?_
      refine c_X_close hd2 (by unfold sk_in; omega) ?_
      refine AW_run 80 rfl ?_
      exact AW_vret rfl rfl hq
    · rw [if_neg g2] at hq
      have c35 := sk_clI_d I
      have c36 : sk_clI I 36 = I 36 := sk_clI_o I 36 (by decide) (by decide)
      have hd3 : 1 ≤ I 35 5 - 1 := by
        apply Classical.byContradiction
        intro z
        have : I 35 5 - 1 = 0 := by omega
        rw [this] at g2
        exact g2 h0
      have ih := c_X_gb_lp n (sk_clI I) (by omega) (by rw [c35]; omega) (fun i i0 i1 => by rw [c36]; rw [c35] at i1; exact hF i i0 (by omega)) (by rw [c36]; exact h0) hq
      refine AW_run 80 rfl ?_
      refine AW_cV (M' := mX6_closeBlock) rfl kkX6_163 lcX6_closeBlock rfl rfl rfl rfl rfl rfl (Nat.le_refl _) ?_
      refine c_X_close hd2 (by unfold sk_in; omega) ?_
      refine AW_run 80 rfl ?_
      rw [ein]
      exact ih
theorem c_X_gb (I : sk_SI) (hd : 1 ≤ I 35 5 ∧ I 35 5 ≤ 480) (hF : ∀ i, 0 ≤ i → i < I 35 5 → 0 ≤ I 36 i ∧ I 36 i ≤ 3) (h0 : I 36 0 = 0) (hq : Q none sk_G (sk_gbI I, L, sk_J cu sp io p tp fp)) : AW l E (d + 2) 0 0 mX6_goBack 0 [some (vr 34), none] [] sk_G (I, L, sk_J cu sp io p tp fp) Q := by
  have lp := c_X_gb_lp (l := l) (E := E) (d := d) (L := L) (cu := cu) (sp := sp) (io := io) (p := p) (tp := tp) (fp := fp) (Q := Q) 480 I (by omega) (by omega) hF h0 hq
  refine AW_run 80 rfl ?_
  exact lp
end SKX2
