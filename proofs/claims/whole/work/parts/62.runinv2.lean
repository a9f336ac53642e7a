/-! ===== frames come and go ===== -/
theorem sk_fpu_o (r o n s : Int) (I : sk_SI) (c : Nat) (h : c < 35 ∨ 40 < c) : sk_fpu r o n s I c = I c := by
  unfold sk_fpu
  rw [sk_uI_o (by omega), sk_uI_o (by omega), sk_uI_o (by omega), sk_uI_o (by omega), sk_uI_o (by omega), sk_uI_o (by omega)]
theorem sk_fpu_r (r o n s : Int) (I : sk_SI) : sk_fpu r o n s I 35 5 = I 35 5 + 1 ∧ sk_fpu r o n s I 36 = sk_up (I 36) (I 35 5) r ∧ sk_fpu r o n s I 37 = sk_up (I 37) (I 35 5) o ∧ sk_fpu r o n s I 38 = sk_up (I 38) (I 35 5) n ∧ sk_fpu r o n s I 39 = sk_up (I 39) (I 35 5) s ∧ sk_fpu r o n s I 40 = sk_up (I 40) (I 35 5) 0 := by
  unfold sk_fpu
  refine ⟨?_, ?_, ?_, ?_, ?_, ?_⟩ <;> simp only [sk_uI_s, sk_uI_o, sk_up_s, ne_eq, Nat.reduceEqDiff, not_false_eq_true]
theorem sk_ent_o (e v : Int) (I : sk_SI) (c : Nat) (h : c < 45 ∨ 47 < c) : sk_ent e v I c = I c := by
  unfold sk_ent
  rw [sk_uI_o (by omega), sk_uI_o (by omega), sk_uI_o (by omega)]
section SKI2
variable {p : Nat} {D lv mc : Int → Int} {a b : Int} {I : sk_SI}
theorem sk_sm_fpu (hp : sk_pg p) (r o n s : Int) : sk_sm p I (sk_fpu r o n s I) := by
  refine ⟨fun k hk => sk_fpu_o r o n s I _ (by rcases hp with rfl | rfl <;> omega), sk_fpu_o r o n s I 8 (by omega), sk_fpu_o r o n s I 3 (by omega), sk_fpu_o r o n s I 4 (by omega), by rw [sk_fpu_o r o n s I 34 (by omega)]⟩
/-- a frame more, in general -/
theorem sk_XV_pu (hp : sk_pg p) (x1 : sk_XS p D I) (x2 : sk_FV p D lv mc I) (x4 : sk_ev p I) (x5 : sk_JV p I) (x6 : sk_SV I) (x7 : sk_TV a b I) (r o n s l m : Int) (hn : I 34 12 = m) (hf : ∀ lv' mc', (∀ i, i ≠ I 35 5 → lv' i = lv i) → (∀ i, i ≠ I 35 5 → mc' i = mc i) → lv' (I 35 5) = l → mc' (I 35 5) = m → sk_f1 (I p 10) D (I (p + 8)) (I 45 4) lv' mc' (I 35 5) r o n s 0) : ∃ lv' mc', sk_XV p D lv' mc' a b (sk_fpu r o n s I) ∧ lv' (I 35 5) = l := by
  have hs := sk_sm_fpu (I := I) hp r o n s
  have h0 := hs.1 0 (by omega)
  rw [Nat.add_zero] at h0
  obtain ⟨r35, r36, r37, r38, r39, r40⟩ := sk_fpu_r r o n s I
  have ro := sk_fpu_o r o n s I
  refine ⟨sk_up lv (I 35 5) l, sk_up mc (I 35 5) m, ⟨sk_XS_cg x1 hs, ⟨by rw [r35]; have := x2.1; omega, fun i i0 i1 => ?_⟩, ?_, sk_ev_cg x4 hs.1 (ro 46 (by omega)) (ro 47 (by omega)) (by rw [ro 45 (by omega)]), sk_JV_cg x5 hs (by rw [ro 34 (by omega)]) (ro 42 (by omega)) (ro 43 (by omega)) (by rw [ro 45 (by omega)]; omega), sk_SV_cg x6 (ro 41 (by omega)) (by rw [ro 45 (by omega)]; omega), ?_⟩, by rw [sk_up_s]⟩
  · rw [r35] at i1
    rw [h0, hs.1 8 (by omega), r36, r37, r38, r39, r40, ro 45 (by omega)]
    by_cases e : i = I 35 5
    · subst e
      rw [sk_up_s, sk_up_s, sk_up_s, sk_up_s, sk_up_s]
      exact hf _ _ (fun i hi => sk_up_o hi) (fun i hi => sk_up_o hi) (by rw [sk_up_s]) (by rw [sk_up_s])
    · rw [sk_up_o e, sk_up_o e, sk_up_o e, sk_up_o e, sk_up_o e]
      have := x2.2 i i0 (by omega)
      unfold sk_f1 at this ⊢
      rw [sk_up_o e, sk_up_o e, sk_up_o (show i - 1 ≠ I 35 5 by omega), sk_up_o (show i - 1 ≠ I 35 5 by omega)]
      exact this
  · unfold sk_V4
    rw [r35, ro 34 (by omega)]
    intro _
    rw [show I 35 5 + 1 - 1 = I 35 5 by omega, sk_up_s]
    exact hn
  · unfold sk_TV
    rw [ro 44 (by omega), ro 34 (by omega), ro 3 (by omega), ro 5 (by omega), ro 45 (by omega)]
    exact x7
/-- a block is opened -/
theorem sk_XV_push (hp : sk_pg p) (h : sk_XV p D lv mc a b I) (hd : 0 < I 35 5) (r o n s : Int) (hr : 1 ≤ r ∧ r ≤ 3) (hl : lv (I 35 5 - 1) ≤ 11) (hn : n = -1 ∨ (0 ≤ n ∧ n < I p 10 ∧ D n = lv (I 35 5 - 1) + 1)) (hs : 0 ≤ s ∧ s < I 45 4) (ho : r = 1 ∨ r = 2 → 0 ≤ o ∧ o < I p 10 ∧ D o = lv (I 35 5 - 1)) (h2 : r = 2 → I (p + 8) o ≠ -1) : ∃ lv' mc', sk_XV p D lv' mc' a b (sk_fpu r o n s I) ∧ lv' (I 35 5) = lv (I 35 5 - 1) + 1 := by
  obtain ⟨f1, f2, f3, -⟩ := h.2.1.2 (I 35 5 - 1) (by omega) (by omega)
  refine sk_XV_pu hp h.1 h.2.1 h.2.2.2.1 h.2.2.2.2.1 h.2.2.2.2.2.1 h.2.2.2.2.2.2 r o n s (lv (I 35 5 - 1) + 1) (mc (I 35 5 - 1)) (h.2.2.1 hd) (fun lv' mc' e1 e2 e3 e4 => ?_)
  have q1 := e1 (I 35 5 - 1) (by omega)
  have q2 := e2 (I 35 5 - 1) (by omega)
  refine ⟨by omega, by omega, by omega, ?_, hs, by omega, fun z => by omega, fun _ => ⟨hd, by omega, by omega⟩, fun z => ?_, fun z => ⟨by omega, by omega, h2 z⟩⟩
  · rcases hn with hn | hn
    · exact Or.inl hn
    · exact Or.inr ⟨hn.1, hn.2.1, by omega⟩
  · have := ho z
    exact ⟨this.1, this.2.1, by omega⟩
theorem sk_XV_om (hp : sk_pg p) (h : sk_XV p D lv mc 1 b I) (hd : 0 < I 35 5 ∨ I 34 12 = 0) (h0 : 0 ≤ I 34 12) (m st : Int) (hm : 0 ≤ m ∧ m < I p 9) (hst : -1 ≤ st ∧ st < I 45 4) : ∃ lv' mc', sk_XV p D lv' mc' 0 b (sk_omI p m st I) := by
  unfold sk_omI
  split
  · exact ⟨lv, mc, sk_XV_wk (sk_XV_end hp h 2) (by omega) (Int.le_refl _)⟩
  · rename_i h40
    have hm1 : sk_XV p D lv mc 1 b (sk_uI I 44 4 (max (I 44 4) (I 34 12 + 1))) := by
      refine sk_XV_cg hp h (sk_sm_u hp (sk_sm_rf p I) 44 4 _ (by omega) (fun _ => by omega)) (by (try simp only [sk_uI_s, sk_uI_o, sk_up_s, sk_up_o, sk_uL_s, sk_uL_o, ne_eq, Nat.reduceEqDiff, Nat.reduceAdd, Int.reduceEq, not_false_eq_true])) (fun c hc => sk_uI_o (by omega)) (by (try simp only [sk_uI_s, sk_uI_o, sk_up_s, sk_up_o, sk_uL_s, sk_uL_o, ne_eq, Nat.reduceEqDiff, Nat.reduceAdd, Int.reduceEq, not_false_eq_true])) (by (try simp only [sk_uI_s, sk_uI_o, sk_up_s, sk_up_o, sk_uL_s, sk_uL_o, ne_eq, Nat.reduceEqDiff, Nat.reduceAdd, Int.reduceEq, not_false_eq_true])) (by (try simp only [sk_uI_s, sk_uI_o, sk_up_s, sk_up_o, sk_uL_s, sk_uL_o, ne_eq, Nat.reduceEqDiff, Nat.reduceAdd, Int.reduceEq, not_false_eq_true])) ?_
      obtain ⟨t0, t1, t4, t5, tn, tz⟩ := h.2.2.2.2.2.2
      unfold sk_TV
      (try simp only [sk_uI_s, sk_uI_o, sk_up_s, sk_up_o, sk_uL_s, sk_uL_o, ne_eq, Nat.reduceEqDiff, Nat.reduceAdd, Int.reduceEq, not_false_eq_true])
      exact ⟨t0, t1, by omega, t5, tn, tz⟩
    have h9 : sk_uI I 44 4 (max (I 44 4) (I 34 12 + 1)) p = I p := sk_uI_o (by rcases hp with rfl | rfl <;> omega)
    have he := sk_XV_ent hp hm1 (-1 - m) st (by rw [h9]; right; omega) (by (try simp only [sk_uI_s, sk_uI_o, sk_up_s, sk_up_o, sk_uL_s, sk_uL_o, ne_eq, Nat.reduceEqDiff, Nat.reduceAdd, Int.reduceEq, not_false_eq_true]); exact hst)
    have wm := h.1.1.2.2.2.1 m hm.1 hm.2
    -- the count of open methods is changed between
    have com : sk_ent (-1 - m) st (sk_om1 I) = sk_uI (sk_ent (-1 - m) st (sk_uI I 44 4 (max (I 44 4) (I 34 12 + 1)))) 34 12 (I 34 12 + 1) := by
      unfold sk_om1 sk_ent
      funext c j
      by_cases c34 : c = 34
      · subst c34
        simp only [sk_uI_s, sk_uI_o, ne_eq, Nat.reduceEqDiff, not_false_eq_true]
      · rw [sk_uI_o c34]
        by_cases c45 : c = 45
        · subst c45
          simp only [sk_uI_s, sk_uI_o, ne_eq, Nat.reduceEqDiff, not_false_eq_true]
        · rw [sk_uI_o c45, sk_uI_o c45]
          by_cases c47 : c = 47
          · subst c47
            simp only [sk_uI_s, sk_uI_o, ne_eq, Nat.reduceEqDiff, not_false_eq_true]
          · rw [sk_uI_o c47, sk_uI_o c47]
            by_cases c46 : c = 46
            · subst c46
              simp only [sk_uI_s, sk_uI_o, ne_eq, Nat.reduceEqDiff, not_false_eq_true]
            · rw [sk_uI_o c46, sk_uI_o c46]
              by_cases c44 : c = 44
              · subst c44
                simp only [sk_uI_s, sk_uI_o, ne_eq, Nat.reduceEqDiff, not_false_eq_true]
              · rw [sk_uI_o c44, sk_uI_o c44, sk_uI_o c34]
    rw [com]
    generalize hT : sk_ent (-1 - m) st (sk_uI I 44 4 (max (I 44 4) (I 34 12 + 1))) = T at he
    have t35 : T 35 = I 35 := by rw [← hT, sk_ent_o _ _ _ 35 (by omega)]; (try simp only [sk_uI_s, sk_uI_o, sk_up_s, sk_up_o, sk_uL_s, sk_uL_o, ne_eq, Nat.reduceEqDiff, Nat.reduceAdd, Int.reduceEq, not_false_eq_true])
    have t34 : T 34 = I 34 := by rw [← hT, sk_ent_o _ _ _ 34 (by omega)]; (try simp only [sk_uI_s, sk_uI_o, sk_up_s, sk_up_o, sk_uL_s, sk_uL_o, ne_eq, Nat.reduceEqDiff, Nat.reduceAdd, Int.reduceEq, not_false_eq_true])
    have t45 : T 45 4 = I 45 4 + 1 := by rw [← hT]; unfold sk_ent; (try simp only [sk_uI_s, sk_uI_o, sk_up_s, sk_up_o, sk_uL_s, sk_uL_o, ne_eq, Nat.reduceEqDiff, Nat.reduceAdd, Int.reduceEq, not_false_eq_true])
    have tp0 : ∀ k, k ≤ 9 → T (p + k) = I (p + k) := fun k hk => by rw [← hT, sk_ent_o _ _ _ _ (by rcases hp with rfl | rfl <;> omega), sk_uI_o (sk_pne hp hk (by omega))]
    have tpp : T p = I p := tp0 0 (by omega)
    clear hT com
    have hU : ∀ U, U = sk_uI T 34 12 (I 34 12 + 1) → ∃ lv' mc', sk_XV p D lv' mc' 0 b (sk_fpu 0 (-1) (I (p + 2) m) (I 45 4) U) := by
      intro U hU
      have u35 : U 35 5 = I 35 5 := by rw [hU]; (try simp only [sk_uI_s, sk_uI_o, sk_up_s, sk_up_o, sk_uL_s, sk_uL_o, ne_eq, Nat.reduceEqDiff, Nat.reduceAdd, Int.reduceEq, not_false_eq_true]); rw [t35]
      have u12 : U 34 12 = I 34 12 + 1 := by rw [hU]; (try simp only [sk_uI_s, sk_uI_o, sk_up_s, sk_up_o, sk_uL_s, sk_uL_o, ne_eq, Nat.reduceEqDiff, Nat.reduceAdd, Int.reduceEq, not_false_eq_true])
      have u45 : U 45 4 = I 45 4 + 1 := by rw [hU]; (try simp only [sk_uI_s, sk_uI_o, sk_up_s, sk_up_o, sk_uL_s, sk_uL_o, ne_eq, Nat.reduceEqDiff, Nat.reduceAdd, Int.reduceEq, not_false_eq_true]); exact t45
      have usm : sk_sm p T U := by rw [hU]; exact sk_sm_u hp (sk_sm_rf p T) 34 12 _ (by omega) (fun _ => by omega)
      have uo : ∀ c, c ≠ 34 → U c = T c := fun c hc => by rw [hU, sk_uI_o hc]
      have u10 : U 34 10 = T 34 10 := by rw [hU]; (try simp only [sk_uI_s, sk_uI_o, sk_up_s, sk_up_o, sk_uL_s, sk_uL_o, ne_eq, Nat.reduceEqDiff, Nat.reduceAdd, Int.reduceEq, not_false_eq_true])
      have up0 := usm.1 0 (by omega)
      rw [Nat.add_zero] at up0
      have upp : U p = I p := up0.trans tpp
      obtain ⟨x1, x2, x3, x4, x5, x6, x7⟩ := he
      have z1 : (1 : Int) - 1 = 0 := by omega
      rw [z1] at x7
      have y2 : sk_FV p D lv mc U := sk_FV_cg x2 usm (by rw [u35, t35]) (uo 36 (by decide)) (uo 37 (by decide)) (uo 38 (by decide)) (uo 39 (by decide)) (uo 40 (by decide)) (by rw [uo 45 (by decide)]; omega)
      have y7 : sk_TV 0 b U := by
        obtain ⟨t0, t1, t4, t5, tn, tz⟩ := x7
        unfold sk_TV
        rw [u10, usm.2.2.2.2, uo 44 (by decide), uo 3 (by decide), uo 5 (by decide), uo 45 (by decide)]
        exact ⟨t0, t1, t4, t5, tn, tz⟩
      have hbig := sk_XV_pu hp (sk_XS_cg x1 usm) y2 (sk_ev_cg x4 usm.1 (uo 46 (by decide)) (uo 47 (by decide)) (by rw [uo 45 (by decide)])) (sk_JV_cg x5 usm u10 (uo 42 (by decide)) (uo 43 (by decide)) (by rw [uo 45 (by decide)]; omega)) (sk_SV_cg x6 (uo 41 (by decide)) (by rw [uo 45 (by decide)]; omega)) y7 0 (-1) (I (p + 2) m) (I 45 4) 1 (I 34 12 + 1) u12 (fun lv' mc' e1 e2 e3 e4 => by
        have z0 := h.2.1.1
        rw [u35] at e1 e2 e3 e4 ⊢
        rw [upp, u45]
        have z45 := h.2.2.2.2.2.2.2.2.2.2.2.1
        by_cases hd0 : I 35 5 = 0
        · have : I 34 12 = 0 := by omega
          exact ⟨by omega, by omega, by omega, by omega, by omega, by omega, fun _ => ⟨e3, Or.inl ⟨hd0, by omega⟩⟩, fun z => absurd rfl z, fun z => by omega, fun z => by omega⟩
        · obtain ⟨f1, f2, f3, -⟩ := h.2.1.2 (I 35 5 - 1) (by omega) (by omega)
          have q2 := e2 (I 35 5 - 1) (by omega)
          have h4 := h.2.2.1 (by omega)
          exact ⟨by omega, by omega, by omega, by omega, by omega, by omega, fun _ => ⟨e3, Or.inr ⟨by omega, by omega⟩⟩, fun z => absurd rfl z, fun z => by omega, fun z => by omega⟩)
      obtain ⟨lv', mc', hx, -⟩ := hbig
      exact ⟨lv', mc', hx⟩
    exact hU _ rfl
end SKI2
