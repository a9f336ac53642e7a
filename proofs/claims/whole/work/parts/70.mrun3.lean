/-! ===== a run's relation is kept: blocks, entries, counts ===== -/
theorem sk_mop_o (k st f t : Int) (I : sk_SI) (c : Nat) (h : c ≠ 59) (h2 : ¬ (83 ≤ c ∧ c ≤ 87)) : sk_mop k st f t I c = I c := by
  unfold sk_mop
  rw [sk_uI_o h, sk_uI_o h, sk_uI_o (by omega), sk_uI_o (by omega), sk_uI_o (by omega), sk_uI_o (by omega), sk_uI_o (by omega)]
theorem sk_mop_r (k st f t : Int) (I : sk_SI) : (∀ j, j ≠ 37 → j ≠ 43 → sk_mop k st f t I 59 j = I 59 j) ∧ sk_mop k st f t I 59 37 = I 59 37 + 1 ∧ sk_mop k st f t I 59 43 = f ∧ sk_mop k st f t I 83 = sk_up (I 83) (I 59 37) k ∧ sk_mop k st f t I 84 = sk_up (I 84) (I 59 37) st ∧ sk_mop k st f t I 85 = sk_up (I 85) (I 59 37) (I 59 35) ∧ sk_mop k st f t I 86 = sk_up (I 86) (I 59 37) (if st = -1 then -1 else I 71 st) ∧ sk_mop k st f t I 87 = sk_up (I 87) (I 59 37) t := by
  unfold sk_mop
  refine ⟨fun j j1 j2 => ?_, ?_, ?_, ?_, ?_, ?_, ?_, ?_⟩
  · rw [sk_uI_s, sk_up_o j2, sk_uI_s, sk_up_o j1, sk_uI_o (by decide), sk_uI_o (by decide), sk_uI_o (by decide), sk_uI_o (by decide), sk_uI_o (by decide)]
  all_goals simp only [sk_uI_s, sk_uI_o, sk_up_s, sk_up_o, ne_eq, Nat.reduceEqDiff, Int.reduceEq, not_false_eq_true]
theorem sk_men_o (k o a b : Int) (I : sk_SI) (c : Nat) (h : c ≠ 59) (h2 : ¬ (77 ≤ c ∧ c ≤ 81)) : sk_men k o a b I c = I c := by
  unfold sk_men
  rw [sk_uI_o h, sk_uI_o (by omega), sk_uI_o (by omega), sk_uI_o (by omega), sk_uI_o (by omega), sk_uI_o (by omega), sk_uI_o h]
theorem sk_men_r (k o a b : Int) (I : sk_SI) : (∀ j, j ≠ 29 → j ≠ 35 → sk_men k o a b I 59 j = I 59 j) ∧ sk_men k o a b I 59 29 = I 59 29 + 1 ∧ sk_men k o a b I 59 35 = I 59 29 ∧ sk_men k o a b I 77 = sk_up (I 77) (I 59 29) k ∧ sk_men k o a b I 78 = sk_up (I 78) (I 59 29) o ∧ sk_men k o a b I 79 = sk_up (I 79) (I 59 29) a ∧ sk_men k o a b I 80 = sk_up (I 80) (I 59 29) b ∧ sk_men k o a b I 81 = sk_up (I 81) (I 59 29) (I 59 35) := by
  unfold sk_men
  refine ⟨fun j j1 j2 => ?_, ?_, ?_, ?_, ?_, ?_, ?_, ?_⟩
  · rw [sk_uI_s, sk_up_o j2, sk_uI_o (by decide), sk_uI_o (by decide), sk_uI_o (by decide), sk_uI_o (by decide), sk_uI_o (by decide), sk_uI_s, sk_up_o j1]
  all_goals simp only [sk_uI_s, sk_uI_o, sk_up_s, sk_up_o, ne_eq, Nat.reduceEqDiff, Int.reduceEq, not_false_eq_true]
theorem sk_ent_r (e v : Int) (I : sk_SI) : sk_ent e v I 45 4 = I 45 4 + 1 ∧ sk_ent e v I 46 = sk_up (I 46) (I 45 4) e ∧ sk_ent e v I 47 = sk_up (I 47) (I 45 4) v := by
  unfold sk_ent
  refine ⟨?_, ?_, ?_⟩ <;> simp only [sk_uI_s, sk_uI_o, sk_up_s, ne_eq, Nat.reduceEqDiff, not_false_eq_true]
section SKY3
variable {p : Nat} {C I : sk_SI}
/-- the frames of both, one more -/
theorem sk_q2_push (h : sk_q2 p C I) (h0 : 0 ≤ C 35 5) (r o n st t k s f : Int) (C' I' : sk_SI) (hk : sk_kr r k) (ho : r = 1 ∨ r = 2 → s = o) (htop : 0 < C 35 5 → I 59 35 = C 39 (C 35 5 - 1) ∧ (if s = -1 then -1 else I 71 s) = C 38 (C 35 5 - 1)) (h1 : r = 1 → C 38 (C 35 5 - 1) = C (p + 7) o) (e35 : C' 35 5 = C 35 5 + 1) (e36 : C' 36 = sk_up (C 36) (C 35 5) r) (e37 : C' 37 = sk_up (C 37) (C 35 5) o) (e38 : C' 38 = sk_up (C 38) (C 35 5) n) (e39 : C' 39 = sk_up (C 39) (C 35 5) st) (e40 : C' 40 = sk_up (C 40) (C 35 5) t) (e7 : C' (p + 7) = C (p + 7)) (i37 : I' 59 37 = I 59 37 + 1) (i83 : I' 83 = sk_up (I 83) (I 59 37) k) (i84 : I' 84 = sk_up (I 84) (I 59 37) s) (i85 : I' 85 = sk_up (I 85) (I 59 37) (I 59 35)) (i86 : I' 86 = sk_up (I 86) (I 59 37) (if s = -1 then -1 else I 71 s)) (i87 : I' 87 = sk_up (I 87) (I 59 37) t) : sk_q2 p C' I' := by
  obtain ⟨e, g⟩ := h
  refine ⟨by rw [i37, e35, e], fun i i0 i1 => ?_⟩
  rw [e35] at i1
  unfold sk_q21
  rw [e36, e37, e38, e39, e40, e7, i83, i84, i85, i86, i87, e]
  by_cases z : i = C 35 5
  · subst z
    rw [sk_up_s, sk_up_s, sk_up_s, sk_up_s, sk_up_s, sk_up_s, sk_up_s, sk_up_o (show C 35 5 - 1 ≠ C 35 5 by omega), sk_up_o (show C 35 5 - 1 ≠ C 35 5 by omega)]
    exact ⟨hk, ho, htop, fun _ => by rw [sk_up_s], h1⟩
  · have := g i i0 (by omega)
    unfold sk_q21 at this
    rw [sk_up_o z, sk_up_o z, sk_up_o z, sk_up_o z, sk_up_o z, sk_up_o z, sk_up_o z, sk_up_o z, sk_up_o (show i - 1 ≠ C 35 5 by omega), sk_up_o (show i - 1 ≠ C 35 5 by omega)]
    exact this
/-- a block is opened over the same stack -/
theorem sk_RR_push (hp : sk_pg p) (h : sk_RR p C I) (hd : 0 < C 35 5) (r s n st t k : Int) (hr : 1 ≤ r ∧ r ≤ 3) (hk : sk_kr r k) (hs : 0 ≤ s ∧ s < C p 10) (hn : C 38 (C 35 5 - 1) = C (p + 7) s) (hst : st = C 39 (C 35 5 - 1)) : sk_RR p (sk_uI (sk_fpu r s n st C) 40 (C 35 5) t) (sk_mop k s n t I) := by
  obtain ⟨⟨a1, a2, a3, a4, a5, a6, a7⟩, b1, b2⟩ := h
  obtain ⟨r35, r36, r37, r38, r39, r40⟩ := sk_fpu_r r s n st C
  obtain ⟨m59, m37, m43, m83, m84, m85, m86, m87⟩ := sk_mop_r k s n t I
  have mo := sk_mop_o k s n t I
  have fo : ∀ c, (c < 35 ∨ 40 < c) → sk_uI (sk_fpu r s n st C) 40 (C 35 5) t c = C c := fun c hc => by rw [sk_uI_o (by omega), sk_fpu_o r s n st C c hc]
  have f34 := fo 34 (by omega)
  have f44 := fo 44 (by omega)
  have e71 : I 71 s = C (p + 7) s := (a1.2.1 s hs.1 hs.2).2.2.2.2.1
  have hsm : sk_sm p C (sk_uI (sk_fpu r s n st C) 40 (C 35 5) t) := sk_sm_u hp (sk_sm_fpu hp r s n st) 40 _ _ (by omega) (fun z => by omega)
  have c35 : sk_uI (sk_fpu r s n st C) 40 (C 35 5) t 35 5 = C 35 5 + 1 := by rw [sk_uI_o (by decide), r35]
  have c38 : sk_uI (sk_fpu r s n st C) 40 (C 35 5) t 38 = sk_up (C 38) (C 35 5) n := by rw [sk_uI_o (by decide), r38]
  have c39 : sk_uI (sk_fpu r s n st C) 40 (C 35 5) t 39 = sk_up (C 39) (C 35 5) st := by rw [sk_uI_o (by decide), r39]
  obtain ⟨t1, t2⟩ := a3 hd
  refine ⟨⟨sk_q1_cg a1 hsm (sk_rfr_mop k s n t I), ?_, fun _ => ?_, sk_q4_cg a4 hsm (by rw [fo 45 (by omega)]) (fo 46 (by omega)) (fo 47 (by omega)) (m59 29 (by decide) (by decide)) (fun c hc => mo c (by omega) (by omega)), sk_q5_cg a5 (fo 41 (by omega)) (mo 82 (by decide) (by decide)), sk_q6_cg a6 (by rw [f34]) (fo 42 (by omega)) (fo 43 (by omega)) (m59 47 (by decide) (by decide)) (mo 88 (by decide) (by decide)) (mo 89 (by decide) (by decide)), sk_q7_cg a7 (fun j _ => by rw [f44]) (by rw [f34]) (by rw [fo 5 (by omega)]) (fo 6 (by omega)) (fun j h1 h2 => m59 j (by omega) (by omega)) (mo 90 (by decide) (by decide))⟩, fun _ => ?_, ?_⟩
  · exact sk_q2_push a2 (by omega) r s n st t k s n _ _ hk (fun _ => rfl) (fun _ => ⟨t1, by rw [if_neg (by omega), e71, hn]⟩) (fun _ => hn) c35 (by rw [sk_uI_o (by decide), r36]) (by rw [sk_uI_o (by decide), r37]) c38 c39 (by
      rw [sk_uI_s, r40]
      funext j
      by_cases e : j = C 35 5
      · subst e; rw [sk_up_s, sk_up_s]
      · rw [sk_up_o e, sk_up_o e, sk_up_o e]) (hsm.1 7 (by omega)) m37 m83 m84 m85 m86 m87
  · rw [c35, show C 35 5 + 1 - 1 = C 35 5 by omega, c38, c39, sk_up_s, sk_up_s, m43, m59 35 (by decide) (by decide), hst]
    exact ⟨t1, rfl⟩
  · rw [f34, m59 44 (by decide) (by decide)]
    exact b1 hd
  · rw [f44, m59 54 (by decide) (by decide)]
    exact b2
/-- a block, or a method, is opened with an entry -/
theorem sk_RM_pent (hp : sk_pg p) (h : sk_RM p C I) (h0 : 0 ≤ C 35 5) (h45 : 0 ≤ C 45 4) (r o s n x v k ow a b : Int) (hr : r = 0 ∨ r = 3) (hk : sk_kr r k) (htop : 0 < C 35 5 → (if s = -1 then -1 else I 71 s) = C 38 (C 35 5 - 1)) (hx1 : x < 0 → k = 20 ∧ ow = C (p + 1) (-1 - x) ∧ I 59 35 = v) (hx2 : 0 ≤ x → k = C (p + 3) x ∧ ow = C (p + 1) (C (p + 4) x) ∧ a = C (p + 5) x ∧ (C (p + 3) x ≠ 5 → b = C (p + 6) x ∧ I 59 35 = v) ∧ (C (p + 3) x = 5 → b = v)) : sk_RM p (sk_fpu r o n (C 45 4) (sk_ent x v C)) (sk_men k ow a b (sk_mop k s n 0 I)) := by
  obtain ⟨a1, a2, a3, a4, a5, a6, a7⟩ := h
  obtain ⟨r35, r36, r37, r38, r39, r40⟩ := sk_fpu_r r o n (C 45 4) (sk_ent x v C)
  obtain ⟨n45, n46, n47⟩ := sk_ent_r x v C
  have no := sk_ent_o x v C
  rw [no 35 (by omega)] at r35 r36 r37 r38 r39 r40
  rw [no 36 (by omega)] at r36
  rw [no 37 (by omega)] at r37
  rw [no 38 (by omega)] at r38
  rw [no 39 (by omega)] at r39
  rw [no 40 (by omega)] at r40
  have fo := sk_fpu_o r o n (C 45 4) (sk_ent x v C)
  obtain ⟨m59, m37, m43, m83, m84, m85, m86, m87⟩ := sk_mop_r k s n 0 I
  have mo := sk_mop_o k s n 0 I
  obtain ⟨e59, e29, e35, e77, e78, e79, e80, e81⟩ := sk_men_r k ow a b (sk_mop k s n 0 I)
  have eo := sk_men_o k ow a b (sk_mop k s n 0 I)
  have hsm : sk_sm p C (sk_fpu r o n (C 45 4) (sk_ent x v C)) := sk_sm_tr (sk_ps_ent (I := C) hp x v).1.1 (sk_sm_fpu hp r o n _)
  have co : ∀ c, (c < 35 ∨ (40 < c ∧ c < 45) ∨ 47 < c) → sk_fpu r o n (C 45 4) (sk_ent x v C) c = C c := fun c hc => by rw [fo c (by omega), no c (by omega)]
  have io : ∀ c, c ≠ 59 → ¬ (77 ≤ c ∧ c ≤ 81) → ¬ (83 ≤ c ∧ c ≤ 87) → sk_men k ow a b (sk_mop k s n 0 I) c = I c := fun c c1 c2 c3 => by rw [eo c c1 c2, mo c c1 c3]
  have ij : ∀ j, j ≠ 29 → j ≠ 35 → j ≠ 37 → j ≠ 43 → sk_men k ow a b (sk_mop k s n 0 I) 59 j = I 59 j := fun j j1 j2 j3 j4 => by rw [e59 j j1 j2, m59 j j3 j4]
  have hfr := sk_rfr_tr (sk_rfr_mop k s n 0 I) (sk_rfr_men k ow a b _)
  have q29 : sk_mop k s n 0 I 59 29 = C 45 4 := by rw [m59 29 (by decide) (by decide), a4.1]
  have q35 : sk_mop k s n 0 I 59 35 = I 59 35 := m59 35 (by decide) (by decide)
  rw [q29] at e29 e35 e77 e78 e79 e80 e81
  rw [q35] at e81
  rw [mo 77 (by decide) (by decide)] at e77
  rw [mo 78 (by decide) (by decide)] at e78
  rw [mo 79 (by decide) (by decide)] at e79
  rw [mo 80 (by decide) (by decide)] at e80
  rw [mo 81 (by decide) (by decide)] at e81
  have g45 : sk_fpu r o n (C 45 4) (sk_ent x v C) 45 4 = C 45 4 + 1 := by rw [fo 45 (by omega), n45]
  refine ⟨sk_q1_cg a1 hsm hfr, ?_, fun _ => ?_, ⟨by rw [e29, g45], fun e ez e1 => ?_⟩, sk_q5_cg a5 (co 41 (by omega)) (io 82 (by decide) (by decide) (by decide)), sk_q6_cg a6 (by rw [co 34 (by omega)]) (co 42 (by omega)) (co 43 (by omega)) (ij 47 (by decide) (by decide) (by decide) (by decide)) (io 88 (by decide) (by decide) (by decide)) (io 89 (by decide) (by decide) (by decide)), sk_q7_cg a7 (fun j _ => by rw [co 44 (by omega)]) (by rw [co 34 (by omega)]) (by rw [co 5 (by omega)]) (co 6 (by omega)) (fun j h1 h2 => ij j (by omega) (by omega) (by omega) (by omega)) (io 90 (by decide) (by decide) (by decide))⟩
  · exact sk_q2_push a2 h0 r o n (C 45 4) 0 k s n _ _ hk (fun z => by omega) (fun z => ⟨(a3 z).1, htop z⟩) (fun z => by omega) r35 r36 r37 r38 r39 r40 (hsm.1 7 (by omega)) (by rw [e59 37 (by decide) (by decide), m37]) (by rw [eo 83 (by decide) (by decide), m83]) (by rw [eo 84 (by decide) (by decide), m84]) (by rw [eo 85 (by decide) (by decide), m85]) (by rw [eo 86 (by decide) (by decide), m86]) (by rw [eo 87 (by decide) (by decide), m87])
  · rw [r35, show C 35 5 + 1 - 1 = C 35 5 by omega, r38, r39, sk_up_s, sk_up_s, e35, e59 43 (by decide) (by decide), m43]
    exact ⟨rfl, rfl⟩
  · rw [g45] at e1
    unfold sk_er
    rw [fo 46 (by omega), fo 47 (by omega), n46, n47, e77, e78, e79, e80, e81, hsm.1 1 (by omega), hsm.1 3 (by omega), hsm.1 4 (by omega), hsm.1 5 (by omega), hsm.1 6 (by omega)]
    by_cases z : e = C 45 4
    · subst z
      rw [sk_up_s, sk_up_s, sk_up_s, sk_up_s, sk_up_s, sk_up_s, sk_up_s]
      exact ⟨hx1, hx2⟩
    · rw [sk_up_o z, sk_up_o z, sk_up_o z, sk_up_o z, sk_up_o z, sk_up_o z, sk_up_o z]
      exact a4.2 e ez (by omega)
theorem sk_RR_pent (hp : sk_pg p) (h : sk_RR p C I) (hd : 0 < C 35 5) (h45 : 0 ≤ C 45 4) (s n x v k ow a b : Int) (hk : sk_kr 3 k) (htop : (if s = -1 then -1 else I 71 s) = C 38 (C 35 5 - 1)) (hx1 : x < 0 → k = 20 ∧ ow = C (p + 1) (-1 - x) ∧ I 59 35 = v) (hx2 : 0 ≤ x → k = C (p + 3) x ∧ ow = C (p + 1) (C (p + 4) x) ∧ a = C (p + 5) x ∧ (C (p + 3) x ≠ 5 → b = C (p + 6) x ∧ I 59 35 = v) ∧ (C (p + 3) x = 5 → b = v)) : sk_RR p (sk_fpu 3 s n (C 45 4) (sk_ent x v C)) (sk_men k ow a b (sk_mop k s n 0 I)) := by
  refine ⟨sk_RM_pent hp h.1 (by omega) h45 3 s s n x v k ow a b (Or.inr rfl) hk (fun _ => htop) hx1 hx2, fun _ => ?_, ?_⟩
  · rw [(sk_men_r _ _ _ _ _).1 44 (by decide) (by decide), (sk_mop_r _ _ _ _ _).1 44 (by decide) (by decide), sk_fpu_o _ _ _ _ _ 34 (by omega), sk_ent_o _ _ _ 34 (by omega)]
    exact h.2.1 hd
  · rw [(sk_men_r _ _ _ _ _).1 54 (by decide) (by decide), (sk_mop_r _ _ _ _ _).1 54 (by decide) (by decide), sk_fpu_o _ _ _ _ _ 44 (by omega), sk_ent_o _ _ _ 44 (by omega)]
    exact h.2.2
theorem sk_RR_om (hp : sk_pg p) (h : sk_RM p C I) (h54 : I 59 54 = C 44 4) (h44 : I 59 44 = C 34 12) (h0 : 0 ≤ C 35 5) (h45 : 0 ≤ C 45 4) (s m v : Int) (hm : 0 ≤ m ∧ m < C p 9) (htop : 0 < C 35 5 → (if s = -1 then -1 else I 71 s) = C 38 (C 35 5 - 1)) (hv : I 59 35 = v) : sk_RR p (sk_fpu 0 (-1) (C (p + 2) m) (C 45 4) (sk_ent (-1 - m) v (sk_om1 C))) (sk_momI s m I) := by
  have c1 : ∀ c, c ≠ 34 → c ≠ 44 → sk_om1 C c = C c := fun c h1 h2 => by unfold sk_om1; rw [sk_uI_o h2, sk_uI_o h1]
  have c34 : ∀ j, j ≠ 12 → sk_om1 C 34 j = C 34 j := fun j hj => by unfold sk_om1; rw [sk_uI_o (by decide), sk_uI_s, sk_up_o hj]
  have c44 : ∀ j, j ≠ 4 → sk_om1 C 44 j = C 44 j := fun j hj => by unfold sk_om1; rw [sk_uI_s, sk_up_o hj, sk_uI_o (by decide)]
  have hsm : sk_sm p C (sk_om1 C) := by unfold sk_om1; exact sk_sm_u hp (sk_sm_u hp (sk_sm_rf p C) 34 12 _ (by omega) (fun z => by omega)) 44 4 _ (by omega) (fun z => by omega)
  have h1 : sk_RM p (sk_om1 C) I := sk_RM_cg h hsm (fun c hc => c1 c (by omega) (by omega)) c34 c44 (fun _ _ => rfl) (fun _ _ _ => rfl)
  obtain ⟨e64, e65⟩ := h.1.1 m hm.1 hm.2
  have hp2 : sk_om1 C (p + 2) = C (p + 2) := hsm.1 2 (by omega)
  have h2 := sk_RM_pent hp h1 (by rw [c1 35 (by decide) (by decide)]; exact h0) (by rw [c1 45 (by decide) (by decide)]; exact h45) 0 (-1) s (I 65 m) (-1 - m) v 20 (I 64 m) (-1) (-1) (Or.inl rfl) ⟨fun _ => rfl, fun z => by omega, fun z => by omega, fun z => by omega⟩ (by rw [c1 35 (by decide) (by decide), c1 38 (by decide) (by decide)]; exact htop) (fun _ => ⟨rfl, by rw [hsm.1 1 (by omega), e64, show -1 - (-1 - m) = m by omega], hv⟩) (fun z => by omega)
  rw [c1 45 (by decide) (by decide)] at h2
  unfold sk_momI
  rw [← e65]
  generalize hX : sk_fpu 0 (-1) (I 65 m) (C 45 4) (sk_ent (-1 - m) v (sk_om1 C)) = X at *
  generalize hY : sk_men 20 (I 64 m) (-1) (-1) (sk_mop 20 s (I 65 m) 0 I) = Y at *
  have x34 : X 34 12 = C 34 12 + 1 := by
    rw [← hX, sk_fpu_o _ _ _ _ _ 34 (by omega), sk_ent_o _ _ _ 34 (by omega)]
    unfold sk_om1
    (try simp only [sk_uI_s, sk_uI_o, sk_up_s, sk_up_o, sk_uL_s, sk_uL_o, ne_eq, Nat.reduceEqDiff, Nat.reduceAdd, Int.reduceEq, not_false_eq_true])
  have x44 : X 44 4 = max (C 44 4) (C 34 12 + 1) := by
    rw [← hX, sk_fpu_o _ _ _ _ _ 44 (by omega), sk_ent_o _ _ _ 44 (by omega)]
    unfold sk_om1
    (try simp only [sk_uI_s, sk_uI_o, sk_up_s, sk_up_o, sk_uL_s, sk_uL_o, ne_eq, Nat.reduceEqDiff, Nat.reduceAdd, Int.reduceEq, not_false_eq_true])
  have y44 : Y 59 44 = C 34 12 := by rw [← hY, (sk_men_r _ _ _ _ _).1 44 (by decide) (by decide), (sk_mop_r _ _ _ _ _).1 44 (by decide) (by decide), h44]
  have y54 : Y 59 54 = C 44 4 := by rw [← hY, (sk_men_r _ _ _ _ _).1 54 (by decide) (by decide), (sk_mop_r _ _ _ _ _).1 54 (by decide) (by decide), h54]
  refine ⟨sk_RM_cg h2 (sk_sm_rf p X) (fun _ _ => rfl) (fun _ _ => rfl) (fun _ _ => rfl) (fun c hc => by unfold sk_mom; rw [sk_uI_o hc, sk_uI_o hc]) (fun j j1 j2 => by unfold sk_mom; rw [sk_uI_s, sk_up_o j2, sk_uI_s, sk_up_o j1]), fun _ => ?_, ?_⟩
  · unfold sk_mom
    (try simp only [sk_uI_s, sk_uI_o, sk_up_s, sk_up_o, sk_uL_s, sk_uL_o, ne_eq, Nat.reduceEqDiff, Nat.reduceAdd, Int.reduceEq, not_false_eq_true])
    rw [y44, x34]
  · unfold sk_mom
    (try simp only [sk_uI_s, sk_uI_o, sk_up_s, sk_up_o, sk_uL_s, sk_uL_o, ne_eq, Nat.reduceEqDiff, Nat.reduceAdd, Int.reduceEq, not_false_eq_true])
    rw [y44, y54, x44]
end SKY3
