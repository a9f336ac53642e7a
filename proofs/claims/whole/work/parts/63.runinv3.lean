/-! ===== a run's steps keep what holds ===== -/
section SKI3
variable {p : Nat} {D lv mc : Int → Int} {a b : Int} {I : sk_SI}
theorem sk_sm_cl (hp : sk_pg p) : sk_sm p I (sk_clI I) := by
  refine ⟨fun k hk => sk_clI_o I _ (sk_pne hp hk (by omega)) (sk_pne hp hk (by omega)), sk_clI_o I 8 (by decide) (by decide), sk_clI_o I 3 (by decide) (by decide), sk_clI_o I 4 (by decide) (by decide), ?_⟩
  unfold sk_clI sk_cl0
  rw [sk_uI_o (by decide)]
  split
  · rw [sk_uI_s, sk_up_o (by decide)]
  · rfl
theorem sk_clI_34 (I : sk_SI) : (∀ j, j ≠ 12 → sk_clI I 34 j = I 34 j) ∧ sk_clI I 34 12 = if I 36 (I 35 5 - 1) = 0 then I 34 12 - 1 else I 34 12 := by
  unfold sk_clI sk_cl0
  rw [sk_uI_o (by decide)]
  refine ⟨fun j hj => ?_, ?_⟩
  · split
    · rw [sk_uI_s, sk_up_o hj]
    · rfl
  · split
    · rw [sk_uI_s, sk_up_s]
    · rfl
theorem sk_XV_cl (hp : sk_pg p) (h : sk_XV p D lv mc a b I) (hd : 0 < I 35 5) : sk_XV p D lv mc a b (sk_clI I) := by
  have hs := sk_sm_cl (I := I) hp
  have h0 := hs.1 0 (by omega)
  rw [Nat.add_zero] at h0
  have d35 := sk_clI_d I
  have o : ∀ c, c ≠ 34 → c ≠ 35 → sk_clI I c = I c := fun c h1 h2 => sk_clI_o I c h1 h2
  obtain ⟨c34, c12⟩ := sk_clI_34 I
  obtain ⟨x1, x2, x3, x4, x5, x6, x7⟩ := h
  refine ⟨sk_XS_cg x1 hs, ⟨by rw [d35]; omega, fun i i0 i1 => ?_⟩, fun z => ?_, sk_ev_cg x4 hs.1 (o 46 (by decide) (by decide)) (o 47 (by decide) (by decide)) (by rw [o 45 (by decide) (by decide)]), sk_JV_cg x5 hs (c34 10 (by decide)) (o 42 (by decide) (by decide)) (o 43 (by decide) (by decide)) (by rw [o 45 (by decide) (by decide)]; omega), sk_SV_cg x6 (o 41 (by decide) (by decide)) (by rw [o 45 (by decide) (by decide)]; omega), ?_⟩
  · rw [d35] at i1
    rw [h0, hs.1 8 (by omega), o 36 (by decide) (by decide), o 37 (by decide) (by decide), o 38 (by decide) (by decide), o 39 (by decide) (by decide), o 40 (by decide) (by decide), o 45 (by decide) (by decide)]
    exact x2.2 i i0 (by omega)
  · rw [d35] at z
    rw [d35, c12]
    obtain ⟨f1, f2, f3, f4, f5, f6, f7, f8, f9, f10⟩ := x2.2 (I 35 5 - 1) (by omega) (by omega)
    have := x3 hd
    split
    · rename_i hr
      have := (f7 hr).2
      omega
    · rename_i hr
      have := f8 hr
      omega
  · unfold sk_TV
    rw [o 44 (by decide) (by decide), c34 10 (by decide), c34 11 (by decide), o 3 (by decide) (by decide), o 5 (by decide) (by decide), o 45 (by decide) (by decide)]
    exact x7
/-- a step's changes: no turns, no jobs, one frame more at most -/
def sk_ps (p : Nat) (I I' : sk_SI) : Prop := (sk_sm p I I' ∧ (I' 34 13 = I 34 13 ∨ (1 ≤ I' 34 13 ∧ I' 34 13 ≤ 3))) ∧ I' 44 0 = I 44 0 ∧ I' 44 1 = I 44 1
theorem sk_ps_tr {I1 I2 : sk_SI} (h1 : sk_ps p I I1) (h2 : sk_ps p I1 I2) : sk_ps p I I2 := ⟨⟨sk_sm_tr h1.1.1 h2.1.1, by have := h1.1.2; have := h2.1.2; omega⟩, h2.2.1.trans h1.2.1, h2.2.2.trans h1.2.2⟩
theorem sk_ps_cl (hp : sk_pg p) : sk_ps p I (sk_clI I) := ⟨⟨sk_sm_cl hp, Or.inl ((sk_clI_34 I).1 13 (by decide))⟩, by rw [sk_clI_o I 44 (by decide) (by decide)], by rw [sk_clI_o I 44 (by decide) (by decide)]⟩
theorem sk_ps_fpu (hp : sk_pg p) (r o n s : Int) : sk_ps p I (sk_fpu r o n s I) := ⟨⟨sk_sm_fpu hp r o n s, Or.inl (by rw [sk_fpu_o r o n s I 34 (by omega)])⟩, by rw [sk_fpu_o r o n s I 44 (by omega)], by rw [sk_fpu_o r o n s I 44 (by omega)]⟩
theorem sk_ps_u (hp : sk_pg p) {I0 : sk_SI} (h : sk_ps p I0 I) (c : Nat) (j v : Int) (hc : c = 5 ∨ c = 6 ∨ 34 ≤ c) (h34 : c = 34 → j ≠ 11) (h44 : c = 44 → 2 ≤ j) (h13 : c = 34 → j = 13 → 1 ≤ v ∧ v ≤ 3 := by (intros; omega)) : sk_ps p I0 (sk_uI I c j v) := by
  refine ⟨⟨sk_sm_u hp h.1.1 c j v hc h34, ?_⟩, ?_, ?_⟩
  · by_cases e : 34 = c
    · subst e
      rw [sk_uI_s]
      by_cases e2 : (13 : Int) = j
      · subst e2; rw [sk_up_s]; exact Or.inr (h13 rfl rfl)
      · rw [sk_up_o e2]; exact h.1.2
    · rw [sk_uI_o e]; exact h.1.2
  · by_cases e : 44 = c
    · subst e; rw [sk_uI_s, sk_up_o (by have := h44 rfl; omega)]; exact h.2.1
    · rw [sk_uI_o e]; exact h.2.1
  · by_cases e : 44 = c
    · subst e; rw [sk_uI_s, sk_up_o (by have := h44 rfl; omega)]; exact h.2.2
    · rw [sk_uI_o e]; exact h.2.2
theorem sk_ps_rf (p : Nat) (I : sk_SI) : sk_ps p I I := ⟨⟨sk_sm_rf p I, Or.inl rfl⟩, rfl, rfl⟩
theorem sk_ps_bmp (hp : sk_pg p) (j : Int) (hj : 2 ≤ j) : sk_ps p I (sk_bmp j I) := sk_ps_u hp (sk_ps_rf p I) 44 j _ (by omega) (fun z => by omega) (fun _ => hj)
theorem sk_ps_nte (hp : sk_pg p) (v : Int) : sk_ps p I (sk_nte v I) := sk_ps_u hp (sk_ps_u hp (sk_ps_rf p I) 6 _ _ (by omega) (fun z => by omega) (fun z => by omega)) 5 _ _ (by omega) (fun z => by omega) (fun z => by omega)
theorem sk_ps_ent (hp : sk_pg p) (e v : Int) : sk_ps p I (sk_ent e v I) := sk_ps_u hp (sk_ps_u hp (sk_ps_u hp (sk_ps_rf p I) 46 _ _ (by omega) (fun z => by omega) (fun z => by omega)) 47 _ _ (by omega) (fun z => by omega) (fun z => by omega)) 45 _ _ (by omega) (fun z => by omega) (fun z => by omega)
theorem sk_XV_flL (hp : sk_pg p) : ∀ (n : Nat) (lv mc : Int → Int) (I : sk_SI), sk_XV p D lv mc a b I → I 35 5 ≤ n → (∃ lv' mc', sk_XV p D lv' mc' a b (sk_flL p n I)) ∧ sk_ps p I (sk_flL p n I) ∧ sk_flL p n I 35 5 ≤ I 35 5
  | 0, lv, mc, I, h, hn => by
    unfold sk_flL
    exact ⟨⟨lv, mc, sk_XV_bmp hp h 3 (by omega)⟩, sk_ps_bmp hp 3 (by omega), by unfold sk_bmp; (try simp only [sk_uI_s, sk_uI_o, sk_up_s, sk_up_o, sk_uL_s, sk_uL_o, ne_eq, Nat.reduceEqDiff, Nat.reduceAdd, Int.reduceEq, not_false_eq_true]); omega⟩
  | n + 1, lv, mc, I, h, hn => by
    unfold sk_flL
    by_cases h0 : I 35 5 = 0
    · rw [if_pos h0]
      exact ⟨⟨lv, mc, sk_XV_bmp hp h 3 (by omega)⟩, sk_ps_bmp hp 3 (by omega), by unfold sk_bmp; (try simp only [sk_uI_s, sk_uI_o, sk_up_s, sk_up_o, sk_uL_s, sk_uL_o, ne_eq, Nat.reduceEqDiff, Nat.reduceAdd, Int.reduceEq, not_false_eq_true]); omega⟩
    · rw [if_neg h0]
      have hd : 0 < I 35 5 := by have := h.2.1.1; omega
      have hc := sk_XV_cl hp h hd
      have c35 := sk_clI_d I
      by_cases h1 : I 36 (I 35 5 - 1) = 1
      · rw [if_pos h1]
        obtain ⟨f1, f2, f3, f4, f5, f6, f7, f8, f9, f10⟩ := h.2.1.2 (I 35 5 - 1) (by omega) (by omega)
        have g8 := f8 (by omega)
        have g9 := f9 (Or.inl h1)
        obtain ⟨k1, k2, k3, k4, k5, -⟩ := h.2.1.2 (I 35 5 - 1 - 1) (by omega) (by omega)
        obtain ⟨w1, w2, w3, w4, w5, w6, w7, -⟩ := h.1.1.2.2.1 (I 37 (I 35 5 - 1)) g9.1 g9.2.1
        rw [if_pos g8.1]
        have hs := sk_sm_cl (I := I) hp
        have p0 := hs.1 0 (by omega)
        rw [Nat.add_zero] at p0
        obtain ⟨lv', mc', q1, q2⟩ := sk_XV_push hp hc (by omega) 3 (I 37 (I 35 5 - 1)) (I (p + 9) (I 37 (I 35 5 - 1))) (I 39 (I 35 5 - 1 - 1)) (by omega) (by rw [c35]; omega) (by rw [p0, c35]; rcases w7 with w7 | w7; exact Or.inl w7; exact Or.inr ⟨by omega, w7.2.1, by omega⟩) (by rw [sk_clI_o I 45 (by decide) (by decide)]; exact k5) (fun z => by omega) (fun z => by omega)
        exact ⟨⟨lv', mc', q1⟩, sk_ps_tr (sk_ps_cl hp) (sk_ps_fpu hp _ _ _ _), by rw [(sk_fpu_r _ _ _ _ _).1, c35]; omega⟩
      · rw [if_neg h1]
        obtain ⟨r1, r2, r3⟩ := sk_XV_flL hp n lv mc (sk_clI I) hc (by omega)
        exact ⟨r1, sk_ps_tr (sk_ps_cl hp) r2, by omega⟩
theorem sk_XV_fl (hp : sk_pg p) (h : sk_XV p D lv mc a b I) (s o : Int) : (∃ lv' mc', sk_XV p D lv' mc' a (b - 1) (sk_flI p s o I)) ∧ sk_ps p I (sk_flI p s o I) ∧ sk_flI p s o I 35 5 ≤ I 35 5 := by
  unfold sk_flI
  have h1 := sk_XV_bmp hp (sk_XV_nte hp h (10000 + 1000 * (o + 1) + s)) 2 (by omega)
  have e35 : sk_bmp 2 (sk_nte (10000 + 1000 * (o + 1) + s) I) 35 5 = I 35 5 := by unfold sk_bmp sk_nte; (try simp only [sk_uI_s, sk_uI_o, sk_up_s, sk_up_o, sk_uL_s, sk_uL_o, ne_eq, Nat.reduceEqDiff, Nat.reduceAdd, Int.reduceEq, not_false_eq_true])
  obtain ⟨r1, r2, r3⟩ := sk_XV_flL hp 480 lv mc _ h1 (by rw [e35]; have := (sk_FV_d h.2.1).2; omega)
  exact ⟨r1, sk_ps_tr (sk_ps_tr (sk_ps_nte hp _) (sk_ps_bmp hp 2 (by omega))) r2, by rw [e35] at r3; exact r3⟩
theorem sk_XV_gbL (hp : sk_pg p) : ∀ (n : Nat) (I : sk_SI), sk_XV p D lv mc a b I → 1 ≤ I 35 5 → I 36 0 = 0 → sk_XV p D lv mc a b (sk_gbL n I) ∧ sk_ps p I (sk_gbL n I) ∧ sk_gbL n I 35 5 ≤ I 35 5 ∧ 1 ≤ sk_gbL n I 35 5
  | 0, I, h, hd, h0 => ⟨h, sk_ps_rf p I, Int.le_refl _, hd⟩
  | n + 1, I, h, hd, h0 => by
    unfold sk_gbL
    by_cases hr : I 36 (I 35 5 - 1) = 0
    · rw [if_pos hr]
      exact ⟨h, sk_ps_rf p I, Int.le_refl _, hd⟩
    · rw [if_neg hr]
      have c35 := sk_clI_d I
      have hd3 : 1 ≤ I 35 5 - 1 := by
        apply Classical.byContradiction
        intro z
        have : I 35 5 - 1 = 0 := by omega
        rw [this] at hr
        exact hr h0
      obtain ⟨r1, r2, r3, r4⟩ := sk_XV_gbL hp n (sk_clI I) (sk_XV_cl hp h (by omega)) (by omega) (by rw [sk_clI_o I 36 (by decide) (by decide)]; exact h0)
      exact ⟨r1, sk_ps_tr (sk_ps_cl hp) r2, by omega, r4⟩
theorem sk_XV_gb (hp : sk_pg p) (h : sk_XV p D lv mc a b I) (hd : 0 < I 35 5) : sk_XV p D lv mc a b (sk_gbI I) ∧ sk_ps p I (sk_gbI I) ∧ sk_gbI I 35 5 ≤ I 35 5 := by
  have h36 : I 36 0 = 0 := by
    obtain ⟨g1, g2, g3, g4, g5, g6, g7, g8, g9, g10⟩ := h.2.1.2 0 (by omega) hd
    apply Classical.byContradiction
    intro z
    have := g8 z
    omega
  obtain ⟨r1, r2, r3, r4⟩ := sk_XV_gbL hp 480 I h (by omega) h36
  unfold sk_gbI
  exact ⟨sk_XV_cl hp r1 (by omega), sk_ps_tr r2 (sk_ps_cl hp), by rw [sk_clI_d]; omega⟩
theorem sk_ps_om (hp : sk_pg p) (m st : Int) : sk_ps p I (sk_omI p m st I) ∧ sk_omI p m st I 35 5 ≤ I 35 5 + 1 := by
  unfold sk_omI
  split
  · exact ⟨sk_ps_u hp (sk_ps_rf p I) 34 13 2 (by omega) (fun z => by omega) (fun z => by omega), by (try simp only [sk_uI_s, sk_uI_o, sk_up_s, sk_up_o, sk_uL_s, sk_uL_o, ne_eq, Nat.reduceEqDiff, Nat.reduceAdd, Int.reduceEq, not_false_eq_true]); omega⟩
  · refine ⟨sk_ps_tr (sk_ps_tr ?_ (sk_ps_ent hp _ _)) (sk_ps_fpu hp _ _ _ _), ?_⟩
    · unfold sk_om1
      exact sk_ps_u hp (sk_ps_u hp (sk_ps_rf p I) 34 12 _ (by omega) (fun z => by omega) (fun z => by omega)) 44 4 _ (by omega) (fun z => by omega) (fun z => by omega)
    · rw [(sk_fpu_r _ _ _ _ _).1, sk_ent_o _ _ _ 35 (by omega)]
      unfold sk_om1
      (try simp only [sk_uI_s, sk_uI_o, sk_up_s, sk_up_o, sk_uL_s, sk_uL_o, ne_eq, Nat.reduceEqDiff, Nat.reduceAdd, Int.reduceEq, not_false_eq_true])
      omega
theorem sk_ps_po (hp : sk_pg p) (m v : Int) : sk_ps p I (sk_poI m v I) ∧ sk_poI m v I 35 5 = I 35 5 := by
  unfold sk_poI
  split
  · exact ⟨sk_ps_u hp (sk_ps_u hp (sk_ps_u hp (sk_ps_rf p I) 42 _ _ (by omega) (fun z => by omega) (fun z => by omega)) 43 _ _ (by omega) (fun z => by omega) (fun z => by omega)) 34 10 _ (by omega) (fun z => by omega) (fun z => by omega), by (try simp only [sk_uI_s, sk_uI_o, sk_up_s, sk_up_o, sk_uL_s, sk_uL_o, ne_eq, Nat.reduceEqDiff, Nat.reduceAdd, Int.reduceEq, not_false_eq_true])⟩
  · exact ⟨sk_ps_u hp (sk_ps_rf p I) 34 13 3 (by omega) (fun z => by omega) (fun z => by omega), by (try simp only [sk_uI_s, sk_uI_o, sk_up_s, sk_up_o, sk_uL_s, sk_uL_o, ne_eq, Nat.reduceEqDiff, Nat.reduceAdd, Int.reduceEq, not_false_eq_true])⟩
end SKI3
