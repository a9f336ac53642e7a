/-! ===== the model's run, from its begin ===== -/
theorem sk_bg0_r {p : Nat} (hp : sk_pg p) (m tu : Int) (K : sk_SI) : (∀ c, c ≠ 34 → c ≠ 5 → c ≠ 45 → c ≠ 35 → c ≠ 41 → c ≠ 44 → c ≠ 42 → c ≠ 43 → sk_bg0 p m tu K c = K c) ∧ sk_bg0 p m tu K 34 10 = 1 ∧ sk_bg0 p m tu K 34 11 = tu ∧ sk_bg0 p m tu K 34 13 = -1 ∧ sk_bg0 p m tu K 45 4 = 0 ∧ sk_bg0 p m tu K 35 5 = 0 ∧ sk_bg0 p m tu K 5 1 = 0 ∧ sk_bg0 p m tu K 42 0 = m ∧ sk_bg0 p m tu K 43 0 = -1 ∧ (∀ j, 0 ≤ j → j < 4 → sk_bg0 p m tu K 41 j = -1) ∧ (∀ j, 0 ≤ j → j < 8 → sk_bg0 p m tu K 44 j = 0) := by
  obtain ⟨b11, b10, b13, b8, bj, b5, b5j, b45, b45j, b35, b35j, b41, b44⟩ := sk_bg_34 tu K
  have bo := sk_bg_o tu K
  unfold sk_bg0 sk_poI
  rw [if_pos (by rw [b10]; omega), b10]
  generalize sk_bg tu K = B at *
  refine ⟨fun c c1 c2 c3 c4 c5 c6 c7 c8 => by rw [sk_uI_o c1, sk_uI_o c8, sk_uI_o c7]; exact bo c ⟨c1, c2, c3, c4, c5, c6⟩, by (try simp only [sk_uI_s, sk_uI_o, sk_up_s, sk_up_o, sk_uL_s, sk_uL_o, ne_eq, Nat.reduceEqDiff, Nat.reduceAdd, Int.reduceEq, not_false_eq_true]); rfl, ?_, ?_, ?_, ?_, ?_, by (try simp only [sk_uI_s, sk_uI_o, sk_up_s, sk_up_o, sk_uL_s, sk_uL_o, ne_eq, Nat.reduceEqDiff, Nat.reduceAdd, Int.reduceEq, not_false_eq_true]), by (try simp only [sk_uI_s, sk_uI_o, sk_up_s, sk_up_o, sk_uL_s, sk_uL_o, ne_eq, Nat.reduceEqDiff, Nat.reduceAdd, Int.reduceEq, not_false_eq_true]), fun j j0 j1 => ?_, fun j j0 j1 => ?_⟩
  · (try simp only [sk_uI_s, sk_uI_o, sk_up_s, sk_up_o, sk_uL_s, sk_uL_o, ne_eq, Nat.reduceEqDiff, Nat.reduceAdd, Int.reduceEq, not_false_eq_true]); exact b11
  · (try simp only [sk_uI_s, sk_uI_o, sk_up_s, sk_up_o, sk_uL_s, sk_uL_o, ne_eq, Nat.reduceEqDiff, Nat.reduceAdd, Int.reduceEq, not_false_eq_true]); exact b13
  · (try simp only [sk_uI_s, sk_uI_o, sk_up_s, sk_up_o, sk_uL_s, sk_uL_o, ne_eq, Nat.reduceEqDiff, Nat.reduceAdd, Int.reduceEq, not_false_eq_true]); exact b45
  · (try simp only [sk_uI_s, sk_uI_o, sk_up_s, sk_up_o, sk_uL_s, sk_uL_o, ne_eq, Nat.reduceEqDiff, Nat.reduceAdd, Int.reduceEq, not_false_eq_true]); exact b35
  · (try simp only [sk_uI_s, sk_uI_o, sk_up_s, sk_up_o, sk_uL_s, sk_uL_o, ne_eq, Nat.reduceEqDiff, Nat.reduceAdd, Int.reduceEq, not_false_eq_true]); exact b5
  · (try simp only [sk_uI_s, sk_uI_o, sk_up_s, sk_up_o, sk_uL_s, sk_uL_o, ne_eq, Nat.reduceEqDiff, Nat.reduceAdd, Int.reduceEq, not_false_eq_true]); rw [b41, if_pos ⟨j0, j1⟩]
  · (try simp only [sk_uI_s, sk_uI_o, sk_up_s, sk_up_o, sk_uL_s, sk_uL_o, ne_eq, Nat.reduceEqDiff, Nat.reduceAdd, Int.reduceEq, not_false_eq_true]); rw [b44, if_pos ⟨j0, j1⟩]
/-- the model's cells as a run begins -/
def sk_mr0 (I : sk_SI) : sk_SI := sk_uI (sk_uI (sk_uI (sk_uI (sk_uI (sk_uI (sk_uI (sk_uI (sk_uI (sk_uI (sk_uI I 59 50 1) 59 29 0) 59 47 0) 59 48 0) 59 51 0) 59 52 0) 59 53 0) 59 54 0) 59 55 0) 59 56 0) 59 58 0
section SKZ2
variable {l : Launch} {E : sk_En} {d : Nat} {L : sk_SL} {cu sp io rp tp fp p : Nat} {Q : Option sk_V → List sk_Sh → sk_St → Prop} {D : Int → Int}
theorem sk_RK_0 (hp : sk_pg p) (m tu : Int) (K I : sk_SI) (h : sk_q1 p K I) : sk_RK p (sk_bg0 p m tu K) (sk_uI (sk_fil 82 4 (-1) (sk_mr0 I)) 59 49 (-1)) ∧ sk_rfr (sk_uI I 59 50 1) (sk_uI (sk_fil 82 4 (-1) (sk_mr0 I)) 59 49 (-1)) := by
  obtain ⟨ro, r10, r11, r13, r45, r35, r5, r42, r43, r41, r44⟩ := sk_bg0_r hp m tu K
  have rp0 : ∀ k, k ≤ 9 → sk_bg0 p m tu K (p + k) = K (p + k) := fun k hk => ro _ (sk_pne hp hk (by omega)) (sk_pne hp hk (by omega)) (sk_pne hp hk (by omega)) (sk_pne hp hk (by omega)) (sk_pne hp hk (by omega)) (sk_pne hp hk (by omega)) (sk_pne hp hk (by omega)) (sk_pne hp hk (by omega))
  have hf : sk_rfr (sk_uI I 59 50 1) (sk_uI (sk_fil 82 4 (-1) (sk_mr0 I)) 59 49 (-1)) := by
    refine sk_rfr_u ⟨fun c c1 c2 => ?_, fun j hj => ?_⟩ 59 49 (-1) (by omega)
    · rw [sk_fil_o (by omega)]
      unfold sk_mr0
      rw [sk_uI_o c1, sk_uI_o c1, sk_uI_o c1, sk_uI_o c1, sk_uI_o c1, sk_uI_o c1, sk_uI_o c1, sk_uI_o c1, sk_uI_o c1, sk_uI_o c1]
    · rw [sk_fil_o (by decide)]
      unfold sk_mr0
      rw [sk_uI_s, sk_up_o (by omega), sk_uI_s, sk_up_o (by omega), sk_uI_s, sk_up_o (by omega), sk_uI_s, sk_up_o (by omega), sk_uI_s, sk_up_o (by omega), sk_uI_s, sk_up_o (by omega), sk_uI_s, sk_up_o (by omega), sk_uI_s, sk_up_o (by omega), sk_uI_s, sk_up_o (by omega), sk_uI_s, sk_up_o (by omega)]
  have hq1 : sk_q1 p K (sk_uI I 59 50 1) := by
    unfold sk_q1
    (try simp only [sk_uI_s, sk_uI_o, sk_up_s, sk_up_o, sk_uL_s, sk_uL_o, ne_eq, Nat.reduceEqDiff, Nat.reduceAdd, Int.reduceEq, not_false_eq_true])
    exact h
  have j59 : ∀ j, j ≠ 49 → sk_uI (sk_fil 82 4 (-1) (sk_mr0 I)) 59 49 (-1) 59 j = sk_mr0 I 59 j := fun j hj => by rw [sk_uI_s, sk_up_o hj, sk_fil_o (by decide)]
  refine ⟨⟨sk_q1_cf hq1 rp0 (ro 8 (by decide) (by decide) (by decide) (by decide) (by decide) (by decide) (by decide) (by decide)) (ro 3 (by decide) (by decide) (by decide) (by decide) (by decide) (by decide) (by decide) (by decide)) (ro 4 (by decide) (by decide) (by decide) (by decide) (by decide) (by decide) (by decide) (by decide)) hf, ⟨?_, fun e e0 e1 => by rw [r45] at e1; omega⟩, fun k k0 k1 => ?_, ⟨?_, fun j j0 j1 => by rw [r10] at j1; omega, by rw [r10]; omega⟩, ⟨⟨?_, ?_, ?_, ?_, ?_, ?_, ?_⟩, ?_, fun i i0 i1 => by rw [r5] at i1; omega⟩, ?_⟩, hf⟩
  · rw [j59 29 (by decide), r45]; unfold sk_mr0; (try simp only [sk_uI_s, sk_uI_o, sk_up_s, sk_up_o, sk_uL_s, sk_uL_o, ne_eq, Nat.reduceEqDiff, Nat.reduceAdd, Int.reduceEq, not_false_eq_true])
  · rw [r41 k k0 k1, sk_uI_o (by decide), sk_fil_s, if_pos ⟨k0, k1⟩]
  · rw [j59 47 (by decide), r10]; unfold sk_mr0; (try simp only [sk_uI_s, sk_uI_o, sk_up_s, sk_up_o, sk_uL_s, sk_uL_o, ne_eq, Nat.reduceEqDiff, Nat.reduceAdd, Int.reduceEq, not_false_eq_true]); rfl
  · rw [j59 48 (by decide), r44 1 (by omega) (by omega)]; unfold sk_mr0; (try simp only [sk_uI_s, sk_uI_o, sk_up_s, sk_up_o, sk_uL_s, sk_uL_o, ne_eq, Nat.reduceEqDiff, Nat.reduceAdd, Int.reduceEq, not_false_eq_true])
  · rw [sk_uI_s, sk_up_s, r13]
  · rw [j59 51 (by decide), r44 0 (by omega) (by omega)]; unfold sk_mr0; (try simp only [sk_uI_s, sk_uI_o, sk_up_s, sk_up_o, sk_uL_s, sk_uL_o, ne_eq, Nat.reduceEqDiff, Nat.reduceAdd, Int.reduceEq, not_false_eq_true])
  · rw [j59 52 (by decide), r44 2 (by omega) (by omega)]; unfold sk_mr0; (try simp only [sk_uI_s, sk_uI_o, sk_up_s, sk_up_o, sk_uL_s, sk_uL_o, ne_eq, Nat.reduceEqDiff, Nat.reduceAdd, Int.reduceEq, not_false_eq_true])
  · rw [j59 53 (by decide), r44 3 (by omega) (by omega)]; unfold sk_mr0; (try simp only [sk_uI_s, sk_uI_o, sk_up_s, sk_up_o, sk_uL_s, sk_uL_o, ne_eq, Nat.reduceEqDiff, Nat.reduceAdd, Int.reduceEq, not_false_eq_true])
  · rw [j59 55 (by decide), r44 5 (by omega) (by omega)]; unfold sk_mr0; (try simp only [sk_uI_s, sk_uI_o, sk_up_s, sk_up_o, sk_uL_s, sk_uL_o, ne_eq, Nat.reduceEqDiff, Nat.reduceAdd, Int.reduceEq, not_false_eq_true])
  · rw [j59 56 (by decide), r44 7 (by omega) (by omega)]; unfold sk_mr0; (try simp only [sk_uI_s, sk_uI_o, sk_up_s, sk_up_o, sk_uL_s, sk_uL_o, ne_eq, Nat.reduceEqDiff, Nat.reduceAdd, Int.reduceEq, not_false_eq_true])
  · rw [j59 58 (by decide), r5]; unfold sk_mr0; (try simp only [sk_uI_s, sk_uI_o, sk_up_s, sk_up_o, sk_uL_s, sk_uL_o, ne_eq, Nat.reduceEqDiff, Nat.reduceAdd, Int.reduceEq, not_false_eq_true])
  · rw [j59 54 (by decide), r44 4 (by omega) (by omega)]; unfold sk_mr0; (try simp only [sk_uI_s, sk_uI_o, sk_up_s, sk_up_o, sk_uL_s, sk_uL_o, ne_eq, Nat.reduceEqDiff, Nat.reduceAdd, Int.reduceEq, not_false_eq_true])
theorem c_M_run (hp : sk_pg p) (K I : sk_SI) (m tu : Int) (ht : I 59 0 = 0) (him : sk_in m) (hit : sk_in tu) (h7 : I 59 7 = 0 ∨ I 59 7 = 1) (h63 : 0 ≤ I 63 0 ∧ I 63 0 ≤ 20) (h0 : I 59 7 = 0 → Q (some (vi (-4))) sk_G (I, L, sk_J cu sp io rp tp fp)) (h1 : I 59 7 = 1 → ¬ ((0 ≤ m ∧ m < I 63 0) ∧ (0 ≤ tu ∧ tu ≤ 3000)) → Q (some (vi (-3))) sk_G (I, L, sk_J cu sp io rp tp fp)) (h : I 59 7 = 1 → sk_rp p D K ∧ sk_q1 p K I ∧ I 63 0 = K p 9) (h2 : I 59 7 = 1 → (0 ≤ m ∧ m < I 63 0) → (0 ≤ tu ∧ tu ≤ 3000) → ∀ I', sk_RR p (sk_rn p m tu K) I' → sk_rfr (sk_uI I 59 50 1) I' → Q (some (vi (sk_rn p m tu K 34 13))) sk_G (I', L, sk_J cu sp io rp tp fp)) : AW l E (d + 5) 0 0 mX10_run 0 [some (vr 59), some (vi m), some (vi tu), none] [] sk_G (I, L, sk_J cu sp io rp tp fp) Q := by
  have bad : I 59 7 = 1 → ¬ ((0 ≤ m ∧ m < I 63 0) ∧ (0 ≤ tu ∧ tu ≤ 3000)) → AW l E (d + 5) 0 0 mX10_run 42 [some (vr 59), some (vi m), some (vi tu), none] [] sk_G (I, L, sk_J cu sp io rp tp fp) Q := by
    intro a b
    have h1 := h1 a b
    refine AW_run 80 rfl ?_
    exact AW_iret rfl rfl h1
  have good : I 59 7 = 1 → (0 ≤ m ∧ m < I 63 0) → (0 ≤ tu ∧ tu ≤ 3000) → AW l E (d + 5) 0 0 mX10_run 47 [some (vr 59), some (vi m), some (vi tu), none] [vi 1, vr 59] sk_G (I, L, sk_J cu sp io rp tp fp) Q := by
    intro a b c
    obtain ⟨hr, hq1, e63⟩ := h a
    rw [e63] at b
    have h2 := h2 a (by rw [e63]; exact b) c
    obtain ⟨hRK, hfr⟩ := sk_RK_0 hp m tu K I hq1
    obtain ⟨hXE, h13⟩ := sk_XE_bg hp hr m tu b c
    obtain ⟨ro, r10, r11, r13, r45, r35, r5, r42, r43, r41, r44⟩ := sk_bg0_r hp m tu K
    obtain ⟨ie, -, -⟩ := sk_it_end hp 13050 (sk_bg0 p m tu K) hXE (sk_ph_0 hXE).2
    have r441 := r44 1 (by omega) (by omega)
    have h2 : ∀ I', sk_RR p (sk_it p (13050 + 1) (sk_bg0 p m tu K)) I' → sk_rfr (sk_uI I 59 50 1) I' → Q (some (vi (sk_it p (13050 + 1) (sk_bg0 p m tu K) 34 13))) sk_G (I', L, sk_J cu sp io rp tp fp) := h2
    have job : AW l E (d + 5) 0 0 mX10_run 129 [some (vr 59), some (vi m), some (vi tu), some (vi 4)] [vi tu, vi (-1), vi m, vr 59] sk_G (sk_uI (sk_fil 82 4 (-1) (sk_mr0 I)) 59 49 (-1), L, sk_J cu sp io rp tp fp) Q := by
      generalize sk_uI (sk_fil 82 4 (-1) (sk_mr0 I)) 59 49 (-1) = S at *
      have dj := fun Q' => c_M_doJob (l := l) (E := E) (d := d) (L := L) (cu := cu) (sp := sp) (io := io) (rp := rp) (tp := tp) (fp := fp) (Q := Q') hp 13050 (sk_bg0 p m tu K) S hXE ie hRK h13 r35 (by rw [r441, r10]; omega) m (-1) tu (by rw [r441, r42]) (by rw [r441, r43]) r11.symm
      have jobs := fun C' I' n' => c_M_jobs (l := l) (E := E) (d := d) (L := L) (cu := cu) (sp := sp) (io := io) (rp := rp) (tp := tp) (fp := fp) (Q := Q) (D := D) hp m tu 21 C' I' n' 0 (by omega) (by omega)
      rw [r441] at dj
      generalize sk_it p (13050 + 1) (sk_bg0 p m tu K) = F at *
      refine AW_cV (M' := mX10_doJob) (d' := d + 4) rfl kkX10_334 lcX10_doJob rfl rfl rfl rfl rfl rfl (by omega) ?_
      refine dj _ (fun C' n' I' g1 g2 g3 g4 g5 g6 g7 g8 g9 => ?_)
      have jobs := jobs C' I' n' g2 g3 (by rw [g1]; exact ie) g5 g7 g4 g9 (fun I2 k2 k3 => by rw [g1]; exact h2 I2 (by rw [← g1]; exact k2) (sk_rfr_tr hfr (sk_rfr_tr g6 k3)))
      refine AW_run 80 rfl ?_
      exact jobs
    have lp : ∀ (k : Nat) (i : Int), 0 ≤ i → i + k = 4 → AW l E (d + 5) 0 0 mX10_run 104 [some (vr 59), some (vi m), some (vi tu), some (vi i)] [vi 4, vi i] sk_G (sk_fil 82 i (-1) (sk_mr0 I), L, sk_J cu sp io rp tp fp) Q := by
      intro k
      induction k with
      | zero =>
        intro i i0 hi
        have : i = 4 := by omega
        subst this
        refine AW_icge rfl (fun g => ?_) (fun g => by omega)
        refine AW_run 80 rfl ?_
        exact job
      | succ k ih =>
        intro i i0 hi
        have ih2 := ih (i + 1) (by omega) (by omega)
        rw [← sk_fil_1 82 i (-1) _ i0] at ih2
        refine AW_icge rfl (fun g => by omega) (fun g => ?_)
        refine AW_run 80 rfl ?_
        refine AW_iast rfl rfl ⟨by omega, by omega⟩ (by decide) ?_
        refine AW_run 80 rfl ?_
        exact ih2
    have lp := lp 4 0 (by omega) (by omega)
    rw [sk_fil_0] at lp
    unfold sk_mr0 at lp
    refine AW_putZ rfl rfl (Or.inr rfl) ?_
    refine AW_run 80 rfl ?_
    exact lp
  refine AW_run 80 rfl ?_
  rw [sk_uI_id ht]
  refine AW_ifne rfl (fun g => ?_) (fun g => ?_) (by unfold sk_in; omega)
  · have a : I 59 7 = 1 := by omega
    have bad := bad a
    have good := good a
    refine AW_run 80 rfl ?_
    refine AW_iald rfl rfl ⟨by omega, by omega⟩ (by decide) ?_
    refine AW_run 80 rfl ?_
    refine AW_in rfl kkX10_177 rfl (by omega) (fun w1 w2 => ?_) (fun w3 => ?_)
    · refine AW_run 80 rfl ?_
      first | refine AW_e1 rfl ?_ | refine AW_e0 rfl ?_ | refine AW_n1 rfl ?_ | refine AW_n0 rfl ?_
      refine AW_run 80 rfl ?_
      refine AW_in rfl kkX10_177 rfl (by omega) (fun w4 w5 => ?_) (fun w6 => ?_)
      · have good := good ⟨w1, by omega⟩ ⟨w4, w5⟩
        refine AW_run 80 rfl ?_
        first | refine AW_e1 rfl ?_ | refine AW_e0 rfl ?_ | refine AW_n1 rfl ?_ | refine AW_n0 rfl ?_
        refine AW_run 80 rfl ?_
        exact good
      · have bad := bad (fun z => w6 z.2)
        refine AW_run 80 rfl ?_
        first | refine AW_e1 rfl ?_ | refine AW_e0 rfl ?_ | refine AW_n1 rfl ?_ | refine AW_n0 rfl ?_
        exact bad
    · have bad := bad (fun z => w3 ⟨z.1.1, by omega⟩)
      refine AW_run 80 rfl ?_
      first | refine AW_e1 rfl ?_ | refine AW_e0 rfl ?_ | refine AW_n1 rfl ?_ | refine AW_n0 rfl ?_
      exact bad
  · have h0 := h0 g
    refine AW_run 80 rfl ?_
    exact AW_iret rfl rfl h0
end SKZ2
