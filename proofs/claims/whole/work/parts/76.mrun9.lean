/-! ===== the model's doJob from its begin, run ===== -/
/-- between two jobs -/
def sk_RK (p : Nat) (C I : sk_SI) : Prop := sk_q1 p C I ∧ sk_q4 p C I ∧ sk_q5 C I ∧ sk_q6 C I ∧ sk_q7 C I ∧ I 59 54 = C 44 4
theorem sk_RK_R {p : Nat} {C I : sk_SI} (h : sk_RR p C I) : sk_RK p C I := ⟨h.1.1, h.1.2.2.2.1, h.1.2.2.2.2.1, h.1.2.2.2.2.2.1, h.1.2.2.2.2.2.2, h.2.2⟩
section SKY9
variable {l : Launch} {E : sk_En} {d : Nat} {L : sk_SL} {cu sp io rp tp fp p : Nat} {Q : Option sk_V → List sk_Sh → sk_St → Prop} {D : Int → Int}
theorem sk_RR_bj {C I : sk_SI} (hp : sk_pg p) {lv mc : Int → Int} (hX : sk_XV p D lv mc 0 0 C) (h : sk_RK p C I) (hd : C 35 5 = 0) (hj : C 44 1 < C 34 10) : sk_RR p (sk_bjI p C) (sk_momI (-1) (C 42 (C 44 1)) (sk_uI (sk_uI (sk_uI (sk_uI I 59 35 (C 43 (C 44 1))) 59 37 0) 59 44 0) 59 48 (I 59 48 + 1))) := by
  obtain ⟨t0, t1, t2, t3, t4, t5⟩ := sk_TV_45 hX
  have hjm := (hX.2.2.2.2.1.2 (C 44 1) t1.1 hj).1
  obtain ⟨a1, a4, a5, a6, a7, b2⟩ := h
  unfold sk_bjI sk_omI
  rw [if_pos hj]
  have e12 : sk_uI (sk_bmp 1 C) 34 12 0 34 12 = 0 := by (try simp only [sk_uI_s, sk_uI_o, sk_up_s, sk_up_o, sk_uL_s, sk_uL_o, ne_eq, Nat.reduceEqDiff, Nat.reduceAdd, Int.reduceEq, not_false_eq_true])
  have hs : sk_sm p C (sk_uI (sk_bmp 1 C) 34 12 0) := by
    unfold sk_bmp
    exact sk_sm_u hp (sk_sm_u hp (sk_sm_rf p C) 44 1 _ (by omega) (fun z => by omega)) 34 12 0 (by omega) (fun z => by omega)
  have hf : sk_rfr I (sk_uI (sk_uI (sk_uI (sk_uI I 59 35 (C 43 (C 44 1))) 59 37 0) 59 44 0) 59 48 (I 59 48 + 1)) := sk_rfr_u (sk_rfr_u (sk_rfr_u (sk_rfr_u (sk_rfr_rf I) 59 35 _ (by omega)) 59 37 _ (by omega)) 59 44 _ (by omega)) 59 48 _ (by omega)
  have p0 : sk_uI (sk_bmp 1 C) 34 12 0 p = C p := hs.1 0 (by omega)
  have co : ∀ c, c ≠ 34 → c ≠ 44 → sk_uI (sk_bmp 1 C) 34 12 0 c = C c := fun c h1 h2 => by unfold sk_bmp; rw [sk_uI_o h1, sk_uI_o h2]
  have io : ∀ c, c ≠ 59 → sk_uI (sk_uI (sk_uI (sk_uI I 59 35 (C 43 (C 44 1))) 59 37 0) 59 44 0) 59 48 (I 59 48 + 1) c = I c := fun c hc => by rw [sk_uI_o hc, sk_uI_o hc, sk_uI_o hc, sk_uI_o hc]
  have ij : ∀ j, j ≠ 35 → j ≠ 37 → j ≠ 44 → j ≠ 48 → sk_uI (sk_uI (sk_uI (sk_uI I 59 35 (C 43 (C 44 1))) 59 37 0) 59 44 0) 59 48 (I 59 48 + 1) 59 j = I 59 j := fun j j1 j2 j3 j4 => by rw [sk_uI_s, sk_up_o j4, sk_uI_s, sk_up_o j3, sk_uI_s, sk_up_o j2, sk_uI_s, sk_up_o j1]
  have c35 : sk_uI (sk_bmp 1 C) 34 12 0 35 5 = 0 := by rw [co 35 (by decide) (by decide)]; exact hd
  have hM : sk_RM p (sk_uI (sk_bmp 1 C) 34 12 0) (sk_uI (sk_uI (sk_uI (sk_uI I 59 35 (C 43 (C 44 1))) 59 37 0) 59 44 0) 59 48 (I 59 48 + 1)) := by
    refine ⟨sk_q1_cg a1 hs hf, ⟨by rw [c35]; (try simp only [sk_uI_s, sk_uI_o, sk_up_s, sk_up_o, sk_uL_s, sk_uL_o, ne_eq, Nat.reduceEqDiff, Nat.reduceAdd, Int.reduceEq, not_false_eq_true]), fun i i0 i1 => by rw [c35] at i1; omega⟩, fun z => by rw [c35] at z; omega, sk_q4_cg a4 hs (by rw [co 45 (by decide) (by decide)]) (co 46 (by decide) (by decide)) (co 47 (by decide) (by decide)) (ij 29 (by decide) (by decide) (by decide) (by decide)) (fun c hc => io c (by omega)), sk_q5_cg a5 (co 41 (by decide) (by decide)) (io 82 (by decide)), sk_q6_cg a6 (by unfold sk_bmp; (try simp only [sk_uI_s, sk_uI_o, sk_up_s, sk_up_o, sk_uL_s, sk_uL_o, ne_eq, Nat.reduceEqDiff, Nat.reduceAdd, Int.reduceEq, not_false_eq_true])) (co 42 (by decide) (by decide)) (co 43 (by decide) (by decide)) (ij 47 (by decide) (by decide) (by decide) (by decide)) (io 88 (by decide)) (io 89 (by decide)), ?_⟩
    obtain ⟨⟨q1, q2, q3, q4, q5, q6, q7⟩, q8, q9⟩ := a7
    unfold sk_q7 sk_bmp
    (try simp only [sk_uI_s, sk_uI_o, sk_up_s, sk_up_o, sk_uL_s, sk_uL_o, ne_eq, Nat.reduceEqDiff, Nat.reduceAdd, Int.reduceEq, not_false_eq_true])
    exact ⟨⟨by rw [q1], q2, q3, q4, q5, q6, q7⟩, q8, q9⟩
  have e45 := co 45 (by decide) (by decide)
  have e2 := hs.1 2 (by omega)
  have k54 : sk_uI (sk_uI (sk_uI (sk_uI I 59 35 (C 43 (C 44 1))) 59 37 0) 59 44 0) 59 48 (I 59 48 + 1) 59 54 = sk_uI (sk_bmp 1 C) 34 12 0 44 4 := by unfold sk_bmp; (try simp only [sk_uI_s, sk_uI_o, sk_up_s, sk_up_o, sk_uL_s, sk_uL_o, ne_eq, Nat.reduceEqDiff, Nat.reduceAdd, Int.reduceEq, not_false_eq_true]); exact b2
  have k44 : sk_uI (sk_uI (sk_uI (sk_uI I 59 35 (C 43 (C 44 1))) 59 37 0) 59 44 0) 59 48 (I 59 48 + 1) 59 44 = sk_uI (sk_bmp 1 C) 34 12 0 34 12 := by (try simp only [sk_uI_s, sk_uI_o, sk_up_s, sk_up_o, sk_uL_s, sk_uL_o, ne_eq, Nat.reduceEqDiff, Nat.reduceAdd, Int.reduceEq, not_false_eq_true])
  have k35 : sk_uI (sk_uI (sk_uI (sk_uI I 59 35 (C 43 (C 44 1))) 59 37 0) 59 44 0) 59 48 (I 59 48 + 1) 59 35 = C 43 (C 44 1) := by (try simp only [sk_uI_s, sk_uI_o, sk_up_s, sk_up_o, sk_uL_s, sk_uL_o, ne_eq, Nat.reduceEqDiff, Nat.reduceAdd, Int.reduceEq, not_false_eq_true])
  rw [if_neg (by rw [e12]; omega)]
  generalize sk_uI (sk_bmp 1 C) 34 12 0 = C1 at *
  exact sk_RR_om hp hM k54 k44 (by omega) (by rw [e45]; omega) (-1) (C 42 (C 44 1)) (C 43 (C 44 1)) (by rw [p0]; exact hjm) (fun z => by omega) k35
theorem c_M_doJob (hp : sk_pg p) (n : Nat) (C I : sk_SI) (hX : sk_XE p D C) (hn : sk_it p (n + 1) C 34 13 ≠ -1) (h : sk_RK p C I) (he : C 34 13 = -1) (hd : C 35 5 = 0) (hj : C 44 1 < C 34 10) (m bs lim : Int) (hm : m = C 42 (C 44 1)) (hbs : bs = C 43 (C 44 1)) (hl : lim = C 34 11) (hq : ∀ C' n' I', sk_it p n' C' = sk_it p (n + 1) C → sk_XE p D C' → C' 34 11 = lim → (C' 34 13 ≠ -1 ∨ C' 35 5 = 0) → sk_RR p C' I' → sk_rfr I I' → (-1 ≤ C' 34 13 ∧ C' 34 13 ≤ 3) → sk_sm p C C' → C' 44 1 = C 44 1 + 1 → Q none sk_G (I', L, sk_J cu sp io rp tp fp)) : AW l E (d + 4) 0 0 mX10_doJob 0 [some (vr 59), some (vi m), some (vi bs), some (vi lim)] [] sk_G (I, L, sk_J cu sp io rp tp fp) Q := by
  have hX0 := hX
  obtain ⟨lv, mc, hX⟩ := hX
  obtain ⟨t0, t1, t2, t3, t4, t5⟩ := sk_TV_45 hX
  have hjm := (hX.2.2.2.2.1.2 (C 44 1) t1.1 hj).1
  have v9 := hX.1.1.1
  have hR := sk_RR_bj hp hX h hd hj
  have exs : sk_xsI p C = sk_bjI p C := by unfold sk_xsI; rw [if_pos hd]
  obtain ⟨x1, x2, x3, x4⟩ := sk_XE_xs hp hX0
  have eit : sk_it p (n + 1) C = sk_it p n (sk_xsI p C) := by
    show (if C 34 13 = -1 then sk_it p n (sk_xsI p C) else C) = _
    rw [if_pos he]
  have b1 : sk_bjI p C 44 1 = C 44 1 + 1 := by
    unfold sk_bjI
    rw [if_pos hj, (sk_ps_om hp _ _).1.2.2]
    unfold sk_bmp
    (try simp only [sk_uI_s, sk_uI_o, sk_up_s, sk_up_o, sk_uL_s, sk_uL_o, ne_eq, Nat.reduceEqDiff, Nat.reduceAdd, Int.reduceEq, not_false_eq_true])
  rw [eit] at hn hq
  rw [exs] at x1 x2 x4 hn hq
  have fr : sk_rfr I (sk_momI (-1) (C 42 (C 44 1)) (sk_uI (sk_uI (sk_uI (sk_uI I 59 35 (C 43 (C 44 1))) 59 37 0) 59 44 0) 59 48 (I 59 48 + 1))) := by
    unfold sk_momI
    exact sk_rfr_tr (sk_rfr_tr (sk_rfr_tr (sk_rfr_u (sk_rfr_u (sk_rfr_u (sk_rfr_u (sk_rfr_rf I) 59 35 _ (by omega)) 59 37 _ (by omega)) 59 44 _ (by omega)) 59 48 _ (by omega)) (sk_rfr_mop _ _ _ _ _)) (sk_rfr_men _ _ _ _ _)) (sk_rfr_mom _)
  have lp := c_M_job_lp (l := l) (E := E) (d := d) (L := L) (cu := cu) (sp := sp) (io := io) (rp := rp) (tp := tp) (fp := fp) (Q := Q) hp m bs lim n (sk_bjI p C) _ x1 (by rw [x2.2.2.2.2]; exact hl.symm) hn hR (by omega) (fun C' n' I' g1 g2 g3 g4 g5 g6 g7 g8 => hq C' n' I' g1 g2 g3 g4 g5 (sk_rfr_tr fr g6) g7 (sk_sm_tr x2 g8.1) (by rw [g8.2, b1]))
  have e29 : I 59 29 = C 45 4 := h.2.1.1
  have e54 := h.2.2.2.2.2
  rw [← hm, ← hbs] at lp
  (refine AW_run 80 rfl ?_; (try simp only [sk_uI_s, sk_uI_o, sk_up_s, sk_up_o, sk_uL_s, sk_uL_o, ne_eq, Nat.reduceEqDiff, Nat.reduceAdd, Int.reduceEq, not_false_eq_true]))
  refine AW_cV (M' := mX10_openMethod) (d' := d + 3) rfl kkX10_313 lcX10_openMethod rfl rfl rfl rfl rfl rfl (by omega) ?_
  refine c_M_om (d := d + 2) (-1) m (by (try simp only [sk_uI_s, sk_uI_o, sk_up_s, sk_up_o, sk_uL_s, sk_uL_o, ne_eq, Nat.reduceEqDiff, Nat.reduceAdd, Int.reduceEq, not_false_eq_true]); omega) (by omega) (by rw [hm]; omega) (by (try simp only [sk_uI_s, sk_uI_o, sk_up_s, sk_up_o, sk_uL_s, sk_uL_o, ne_eq, Nat.reduceEqDiff, Nat.reduceAdd, Int.reduceEq, not_false_eq_true]); omega) (by (try simp only [sk_uI_s, sk_uI_o, sk_up_s, sk_up_o, sk_uL_s, sk_uL_o, ne_eq, Nat.reduceEqDiff, Nat.reduceAdd, Int.reduceEq, not_false_eq_true]); omega) (by (try simp only [sk_uI_s, sk_uI_o, sk_up_s, sk_up_o, sk_uL_s, sk_uL_o, ne_eq, Nat.reduceEqDiff, Nat.reduceAdd, Int.reduceEq, not_false_eq_true]); omega) ?_
  generalize sk_momI (-1) m (sk_uI (sk_uI (sk_uI (sk_uI I 59 35 bs) 59 37 0) 59 44 0) 59 48 (I 59 48 + 1)) = S at *
  refine AW_run 80 rfl ?_
  exact lp
end SKY9
