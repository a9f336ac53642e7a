/-! ===== Arrays.fill, Runner.beginTurn, execute ===== -/
def sk_fil (c : Nat) (i v : Int) (I : sk_SI) : sk_SI := fun k j => if k = c then (if 0 ≤ j ∧ j < i then v else I k j) else I k j
theorem sk_fil_o {c : Nat} {i v : Int} {I : sk_SI} {k : Nat} (h : k ≠ c) : sk_fil c i v I k = I k := by
  funext j
  unfold sk_fil
  rw [if_neg h]
theorem sk_fil_s {c : Nat} {i v : Int} {I : sk_SI} (j : Int) : sk_fil c i v I c j = if 0 ≤ j ∧ j < i then v else I c j := by
  unfold sk_fil
  rw [if_pos rfl]
theorem sk_fil_0 (c : Nat) (v : Int) (I : sk_SI) : sk_fil c 0 v I = I := by
  funext k j
  by_cases h : k = c
  · subst h; rw [sk_fil_s, if_neg (by omega)]
  · rw [sk_fil_o h]
theorem sk_fil_1 (c : Nat) (i v : Int) (I : sk_SI) (hi : 0 ≤ i) : sk_uI (sk_fil c i v I) c i v = sk_fil c (i + 1) v I := by
  funext k j
  by_cases h : k = c
  · subst h
    rw [sk_uI_s, sk_fil_s]
    by_cases e : j = i
    · subst e; rw [sk_up_s, if_pos (by omega)]
    · rw [sk_up_o e, sk_fil_s]
      by_cases g : 0 ≤ j ∧ j < i
      · rw [if_pos g, if_pos (by omega)]
      · rw [if_neg g, if_neg (by omega)]
  · rw [sk_uI_o h, sk_fil_o h, sk_fil_o h]
section SKX5
variable {l : Launch} {E : sk_En} {d : Nat} {L : sk_SL} {cu sp io rp tp fp p : Nat} {Q : Option sk_V → List sk_Sh → sk_St → Prop} {D lv mc : Int → Int}
theorem c_fill (c n : Nat) (hc : (c = 41 ∧ n = 4) ∨ (c = 44 ∧ n = 8) ∨ (c = 55 ∧ n = 20) ∨ (c = 57 ∧ n = 200) ∨ (c = 58 ∧ n = 200)) (v : Int) (I : sk_SI) (J : sk_SR) (hq : Q none sk_G (sk_fil c n v I, L, J)) : AW l E d 0 0 mJ7_fill_53178 0 [some (vr c), some (vi v), none, none] [] sk_G (I, L, J) Q := by
  have lp : ∀ (k : Nat) (i : Int), 0 ≤ i → i + k = n → AW l E d 0 0 mJ7_fill_53178 7 [some (vr c), some (vi v), some (vi i), some (vi n)] [vi n, vi i] sk_G (sk_fil c i v I, L, J) Q := by
    intro k
    induction k with
    | zero =>
      intro i i0 hi
      have : i = n := by omega
      subst this
      have hn : (n : Int) ≤ 200 := by omega
      refine AW_icge rfl (fun g => ?_) (fun g => by omega) (by unfold sk_in; omega) (by unfold sk_in; omega)
      exact AW_vret rfl rfl hq
    | succ k ih =>
      intro i i0 hi
      have hn : (n : Int) ≤ 200 := by omega
      have ih2 := ih (i + 1) (by omega) (by omega)
      rw [← sk_fil_1 c i v I i0] at ih2
      refine AW_icge rfl (fun g => by omega) (fun g => ?_) (by unfold sk_in; omega) (by unfold sk_in; omega)
      rcases hc with ⟨rfl, rfl⟩ | ⟨rfl, rfl⟩ | ⟨rfl, rfl⟩ | ⟨rfl, rfl⟩ | ⟨rfl, rfl⟩ <;>
      · refine AW_run 80 rfl ?_
        refine AW_iast rfl rfl ⟨by omega, by omega⟩ (by decide) ?_
        refine AW_run 80 rfl ?_
        exact ih2
  have lp := lp n 0 (by omega) (by omega)
  rw [sk_fil_0] at lp
  rcases hc with ⟨rfl, rfl⟩ | ⟨rfl, rfl⟩ | ⟨rfl, rfl⟩ | ⟨rfl, rfl⟩ | ⟨rfl, rfl⟩ <;>
  · refine AW_run 80 rfl ?_
    exact lp
theorem c_X_bt (hp : sk_pg p) (I : sk_SI) (hX : sk_XV p D lv mc 0 0 I) (hd : 0 < I 35 5) (s : Int) (hs : s = I 38 (I 35 5 - 1)) (hs2 : 0 ≤ s ∧ s < I p 10) (hq : Q none sk_G (sk_btI p s I, L, sk_J cu sp io p p fp)) : AW l E (d + 5) 0 0 mX6_beginTurn 0 [some (vr 34), some (vi s)] [] sk_G (I, L, sk_J cu sp io p p fp) Q := by
  obtain ⟨t0, t1, t2, t3, t4, t5⟩ := sk_TV_45 hX
  have hdd := sk_FV_d hX.2.1
  have h10 := hX.1.1.2.1
  unfold sk_btI at hq
  refine AW_run 80 rfl ?_
  refine AW_iald rfl rfl ⟨by omega, by omega⟩ (by decide) ?_
  refine AW_run 80 rfl ?_
  refine AW_iclt rfl (fun g => ?_) (fun g => ?_) (by unfold sk_in; omega) (by unfold sk_in; omega)
  · rw [if_neg (by omega)] at hq
    subst hs
    obtain ⟨hD, h2, hsm⟩ := sk_XV_pre hp hX hd hs2 g
    have hp0 : sk_uI (sk_bmp 0 I) 38 (I 35 5 - 1) (I (p + 7) (I 38 (I 35 5 - 1))) p = I p := hsm.1 0 (by omega)
    have ds := fun Q' => c_X_ds (l := l) (E := E) (d := d) (L := L) (cu := cu) (sp := sp) (io := io) (fp := fp) (Q := Q') hp _ (I 38 (I 35 5 - 1)) (I (p + 5) (I 38 (I 35 5 - 1))) (I 39 (I 35 5 - 1)) h2 (by unfold sk_bmp; (try simp only [sk_uI_s, sk_uI_o, sk_up_s, sk_up_o, sk_uL_s, sk_uL_o, ne_eq, Nat.reduceEqDiff, Nat.reduceAdd, Int.reduceEq, not_false_eq_true]); exact hd) (by rw [hp0]; exact hs2) (by unfold sk_bmp; (try simp only [sk_uI_s, sk_uI_o, sk_up_s, sk_up_o, sk_uL_s, sk_uL_o, ne_eq, Nat.reduceEqDiff, Nat.reduceAdd, Int.reduceEq, not_false_eq_true]); exact hD) (by rw [hsm.1 5 (by omega)]) (by unfold sk_bmp; (try simp only [sk_uI_s, sk_uI_o, sk_up_s, sk_up_o, sk_uL_s, sk_uL_o, ne_eq, Nat.reduceEqDiff, Nat.reduceAdd, Int.reduceEq, not_false_eq_true]))
    generalize hS : sk_dsI p (I 38 (I 35 5 - 1)) (I (p + 5) (I 38 (I 35 5 - 1))) (I 39 (I 35 5 - 1)) (sk_uI (sk_bmp 0 I) 38 (I 35 5 - 1) (I (p + 7) (I 38 (I 35 5 - 1)))) = S at *
    clear h2 hsm hS hp0
    unfold sk_bmp at ds
    rcases hp with rfl | rfl <;>
    · refine AW_run 80 rfl ?_
      refine AW_iald rfl rfl ⟨by omega, by omega⟩ (by decide) ?_
      refine AW_run 80 rfl ?_
      refine AW_iast rfl rfl ⟨by omega, by omega⟩ (by decide) ?_
      refine AW_run 80 rfl ?_
      refine AW_iald rfl rfl ⟨by omega, by omega⟩ (by decide) ?_
      (try simp only [sk_uI_s, sk_uI_o, sk_up_s, sk_up_o, sk_uL_s, sk_uL_o, ne_eq, Nat.reduceEqDiff, Nat.reduceAdd, Int.reduceEq, not_false_eq_true])
      refine AW_run 80 rfl ?_
      refine AW_cV (M' := mX1_goTo) rfl kkX6_160 lcX1_goTo rfl rfl rfl rfl rfl rfl (Nat.le_refl _) ?_
      refine c_Fr_goTo _ (by (try simp only [sk_uI_s, sk_uI_o, sk_up_s, sk_up_o, sk_uL_s, sk_uL_o, ne_eq, Nat.reduceEqDiff, Nat.reduceAdd, Int.reduceEq, not_false_eq_true]); omega) ?_
      (try simp only [sk_uI_s, sk_uI_o, sk_up_s, sk_up_o, sk_uL_s, sk_uL_o, ne_eq, Nat.reduceEqDiff, Nat.reduceAdd, Int.reduceEq, not_false_eq_true])
      refine AW_run 80 rfl ?_
      refine AW_iald rfl rfl ⟨by omega, by omega⟩ (by decide) ?_
      (try simp only [sk_uI_s, sk_uI_o, sk_up_s, sk_up_o, sk_uL_s, sk_uL_o, ne_eq, Nat.reduceEqDiff, Nat.reduceAdd, Int.reduceEq, not_false_eq_true])
      refine AW_run 80 rfl ?_
      refine AW_cV (M' := mX1_topStack) rfl kkX6_175 lcX1_topStack rfl rfl rfl rfl rfl rfl (Nat.le_refl _) ?_
      refine c_Fr_stack (by (try simp only [sk_uI_s, sk_uI_o, sk_up_s, sk_up_o, sk_uL_s, sk_uL_o, ne_eq, Nat.reduceEqDiff, Nat.reduceAdd, Int.reduceEq, not_false_eq_true]); omega) (fun g2 => ?_) (fun g2 => ?_)
      · (try simp only [sk_uI_s, sk_uI_o, sk_up_s, sk_up_o, sk_uL_s, sk_uL_o, ne_eq, Nat.reduceEqDiff, Nat.reduceAdd, Int.reduceEq, not_false_eq_true])
        refine AW_run 80 rfl ?_
        refine AW_cV (M' := mX6_doStep) rfl kkX6_178 lcX6_doStep rfl rfl rfl rfl rfl rfl (Nat.le_refl _) ?_
        refine ds _ ?_
        refine AW_run 80 rfl ?_
        exact AW_vret rfl rfl hq
      · simp only [sk_uI_s, sk_uI_o, ne_eq, Nat.reduceEqDiff, not_false_eq_true] at g2
        omega
  · rw [if_pos (by omega)] at hq
    refine AW_run 80 rfl ?_
    exact AW_vret rfl rfl hq
theorem c_X_one (hp : sk_pg p) (m tu i : Int) (I : sk_SI) (hX : sk_XE p D I) (he : I 34 13 = -1) (i0 : 0 ≤ i ∧ i < 1000000) (hq : AW l E (d + 6) 0 0 mX6_execute 19 [some (vr 34), some (vr p), some (vi m), some (vi tu), some (vi (i + 1))] [vi 1000000, vi (i + 1)] sk_G (sk_xsI p I, L, sk_J cu sp io p p fp) Q) : AW l E (d + 6) 0 0 mX6_execute 19 [some (vr 34), some (vr p), some (vi m), some (vi tu), some (vi i)] [vi 1000000, vi i] sk_G (I, L, sk_J cu sp io p p fp) Q := by
  obtain ⟨lv, mc, hX⟩ := hX
  obtain ⟨t0, t1, t2, t3, t4, t5⟩ := sk_TV_45 hX
  have hdd := sk_FV_d hX.2.1
  have h9 := hX.1.1.1
  have h10 := hX.1.1.2.1
  refine AW_icge rfl (fun g => by omega) (fun g => ?_) (by unfold sk_in; omega)
  refine AW_run 80 rfl ?_
  refine AW_icne rfl (fun g2 => absurd he g2) (fun g2 => ?_) (by rw [he]; unfold sk_in; omega)
  have tail : ∀ S : sk_SI, S = sk_xsI p I → AW l E (d + 6) 0 0 mX6_execute 17 [some (vr 34), some (vr p), some (vi m), some (vi tu), some (vi (i + 1))] [vi (i + 1)] sk_G (S, L, sk_J cu sp io p p fp) Q := by
    intro S hS
    subst hS
    refine AW_ldcM rfl ?_
    exact hq
  unfold sk_xsI at tail
  clear hq
  refine AW_run 80 rfl ?_
  refine AW_cV (M' := mX1_isEmpty) rfl kkX6_64 lcX1_isEmpty rfl rfl rfl rfl rfl rfl (Nat.le_refl _) ?_
  refine c_Fr_empty hdd (fun g3 => ?_) (fun g3 => ?_)
  · rw [if_pos g3] at tail
    have hj := hX.2.2.2.2.1.2
    have tail := tail _ rfl
    refine AW_run 80 rfl ?_
    first | refine AW_e1 rfl ?_ | refine AW_e0 rfl ?_ | refine AW_n1 rfl ?_ | refine AW_n0 rfl ?_
    refine AW_run 80 rfl ?_
    refine AW_cV (M' := mX6_beginJob) (d' := d + 4) rfl kkX6_68 lcX6_beginJob rfl rfl rfl rfl rfl rfl (by omega) ?_
    refine c_X_bj hp (by omega) t2 (fun z => (hj (I 44 1) t1.1 z).1) h9.2 t5 (by omega) (fun z => by omega) ?_
    refine AW_run 80 rfl ?_
    exact tail
  · rw [if_neg (by omega)] at tail
    obtain ⟨f1, f2, f3, f4, f5, f6, f7, f8, f9, f10⟩ := hX.2.1.2 (I 35 5 - 1) (by omega) (by omega)
    have hp' := hp
    by_cases hs : 0 ≤ I 38 (I 35 5 - 1) ∧ I 38 (I 35 5 - 1) < I p 10
    · rw [if_pos hs] at tail
      have tail := tail _ rfl
      have bt := fun Q' => c_X_bt (l := l) (E := E) (d := d) (L := L) (cu := cu) (sp := sp) (io := io) (fp := fp) (Q := Q') hp I hX g3 _ rfl hs
      generalize sk_btI p (I 38 (I 35 5 - 1)) I = S at *
      rcases hp with rfl | rfl <;>
      · refine AW_run 80 rfl ?_
        first | refine AW_e1 rfl ?_ | refine AW_e0 rfl ?_ | refine AW_n1 rfl ?_ | refine AW_n0 rfl ?_
        refine AW_run 80 rfl ?_
        refine AW_cV (M' := mX1_topNext) rfl kkX6_71 lcX1_topNext rfl rfl rfl rfl rfl rfl (Nat.le_refl _) ?_
        refine c_Fr_next (by omega) ?_
        refine AW_run 80 rfl ?_
        refine AW_cV (M' := mX2_hasStep) rfl kkX6_75 lcX2_hasStep rfl rfl rfl rfl rfl rfl (Nat.le_refl _) ?_
        refine c_Pg_has _ hp' _ (by unfold sk_in; omega) h10 (fun _ _ => ?_) (fun z => absurd hs z)
        refine AW_run 80 rfl ?_
        first | refine AW_e1 rfl ?_ | refine AW_e0 rfl ?_ | refine AW_n1 rfl ?_ | refine AW_n0 rfl ?_
        refine AW_run 80 rfl ?_
        refine AW_cV (M' := mX1_topNext) rfl kkX6_71 lcX1_topNext rfl rfl rfl rfl rfl rfl (Nat.le_refl _) ?_
        refine c_Fr_next (by omega) ?_
        refine AW_run 80 rfl ?_
        refine AW_cV (M' := mX6_beginTurn) rfl kkX6_81 lcX6_beginTurn rfl rfl rfl rfl rfl rfl (Nat.le_refl _) ?_
        refine bt _ ?_
        refine AW_run 80 rfl ?_
        exact tail
    · rw [if_neg hs] at tail
      have tail := tail _ rfl
      have eb := fun Q' => c_X_eb (l := l) (E := E) (d := d + 3) (L := L) (cu := cu) (sp := sp) (io := io) (tp := p) (fp := fp) (Q := Q') (I := I) hp ⟨g3, hdd.2⟩ f6 (fun z => by have := f9 (Or.inr z); have := f10 z; exact ⟨by unfold sk_in; omega, by omega, by omega⟩) h10
      generalize sk_ebI p I = S at *
      rcases hp with rfl | rfl <;>
      · refine AW_run 80 rfl ?_
        first | refine AW_e1 rfl ?_ | refine AW_e0 rfl ?_ | refine AW_n1 rfl ?_ | refine AW_n0 rfl ?_
        refine AW_run 80 rfl ?_
        refine AW_cV (M' := mX1_topNext) rfl kkX6_71 lcX1_topNext rfl rfl rfl rfl rfl rfl (Nat.le_refl _) ?_
        refine c_Fr_next (by omega) ?_
        refine AW_run 80 rfl ?_
        refine AW_cV (M' := mX2_hasStep) rfl kkX6_75 lcX2_hasStep rfl rfl rfl rfl rfl rfl (Nat.le_refl _) ?_
        refine c_Pg_has _ hp' _ (by unfold sk_in; omega) h10 (fun z1 z2 => absurd ⟨z1, z2⟩ hs) (fun _ => ?_)
        refine AW_run 80 rfl ?_
        first | refine AW_e1 rfl ?_ | refine AW_e0 rfl ?_ | refine AW_n1 rfl ?_ | refine AW_n0 rfl ?_
        refine AW_run 80 rfl ?_
        refine AW_cV (M' := mX6_endBlock) rfl kkX6_85 lcX6_endBlock rfl rfl rfl rfl rfl rfl (Nat.le_refl _) ?_
        refine eb _ ?_
        refine AW_run 80 rfl ?_
        exact tail
theorem c_X_lp (hp : sk_pg p) (m tu : Int) : ∀ (n : Nat) (I : sk_SI) (i : Int), sk_XE p D I → sk_ph p I ≤ n → 0 ≤ i → i + n + 2 ≤ 1000000 → (-1 ≤ I 34 13 ∧ I 34 13 ≤ 3) → (∀ i' : Int, AW l E (d + 6) 0 0 mX6_execute 88 [some (vr 34), some (vr p), some (vi m), some (vi tu), some (vi i')] [] sk_G (sk_it p (n + 1) I, L, sk_J cu sp io p p fp) Q) → AW l E (d + 6) 0 0 mX6_execute 19 [some (vr 34), some (vr p), some (vi m), some (vi tu), some (vi i)] [vi 1000000, vi i] sk_G (I, L, sk_J cu sp io p p fp) Q := by
  have fin : ∀ (I : sk_SI) (i : Int), (0 ≤ i ∧ i ≤ 1000000) → (-1 ≤ I 34 13 ∧ I 34 13 ≤ 3) → I 34 13 ≠ -1 → (∀ i' : Int, AW l E (d + 6) 0 0 mX6_execute 88 [some (vr 34), some (vr p), some (vi m), some (vi tu), some (vi i')] [] sk_G (I, L, sk_J cu sp io p p fp) Q) → AW l E (d + 6) 0 0 mX6_execute 19 [some (vr 34), some (vr p), some (vi m), some (vi tu), some (vi i)] [vi 1000000, vi i] sk_G (I, L, sk_J cu sp io p p fp) Q := by
    intro I i i0 hb he hk
    have hk := hk i
    refine AW_icge rfl (fun g => hk) (fun g => ?_) (by unfold sk_in; omega)
    refine AW_run 80 rfl ?_
    refine AW_icne rfl (fun g2 => hk) (fun g2 => absurd g2 he) (by unfold sk_in; omega)
  intro n
  induction n with
  | zero =>
    intro I i hX hn i0 hi hb hk
    unfold sk_it at hk
    by_cases he : I 34 13 = -1
    · rw [if_pos he] at hk
      obtain ⟨q1, q2, q3, q13⟩ := sk_XE_xs hp hX
      refine c_X_one hp m tu i I hX he (by omega) (fin _ _ (by omega) (by omega) (fun z => ?_) hk)
      have := q3 z
      have := (sk_ph_0 q1).1
      omega
    · rw [if_neg he] at hk
      exact fin I i (by omega) hb he hk
  | succ n ih =>
    intro I i hX hn i0 hi hb hk
    unfold sk_it at hk
    by_cases he : I 34 13 = -1
    · rw [if_pos he] at hk
      obtain ⟨q1, q2, q3, q13⟩ := sk_XE_xs hp hX
      refine c_X_one hp m tu i I hX he (by omega) ?_
      by_cases he2 : sk_xsI p I 34 13 = -1
      · exact ih (sk_xsI p I) (i + 1) q1 (by have := q3 he2; omega) (by omega) (by omega) (by omega) hk
      · have e1 : sk_it p (n + 1) (sk_xsI p I) = sk_xsI p I := by unfold sk_it; rw [if_neg he2]
        rw [e1] at hk
        exact fin _ _ (by omega) (by omega) he2 hk
    · rw [if_neg he] at hk
      exact fin I i (by omega) hb he hk
end SKX5
