/-! ===== what holds while a program runs is kept ===== -/
theorem sk_pne {p : Nat} (hp : sk_pg p) {k c : Nat} (hk : k ≤ 9) (hc : c ≤ 8 ∨ 29 ≤ c) : p + k ≠ c := by rcases hp with rfl | rfl <;> omega
/-- the cells that don't change in a run -/
def sk_sm (p : Nat) (I I' : sk_SI) : Prop := (∀ k, k ≤ 9 → I' (p + k) = I (p + k)) ∧ I' 8 = I 8 ∧ I' 3 = I 3 ∧ I' 4 = I 4 ∧ I' 34 11 = I 34 11
theorem sk_sm_rf (p : Nat) (I : sk_SI) : sk_sm p I I := ⟨fun _ _ => rfl, rfl, rfl, rfl, rfl⟩
theorem sk_sm_tr {p : Nat} {I I1 I2 : sk_SI} (h1 : sk_sm p I I1) (h2 : sk_sm p I1 I2) : sk_sm p I I2 := ⟨fun k hk => (h2.1 k hk).trans (h1.1 k hk), h2.2.1.trans h1.2.1, h2.2.2.1.trans h1.2.2.1, h2.2.2.2.1.trans h1.2.2.2.1, h2.2.2.2.2.trans h1.2.2.2.2⟩
theorem sk_sm_u {p : Nat} (hp : sk_pg p) {I0 I : sk_SI} (h : sk_sm p I0 I) (c : Nat) (j v : Int) (hc : c = 5 ∨ c = 6 ∨ 34 ≤ c) (h34 : c = 34 → j ≠ 11) : sk_sm p I0 (sk_uI I c j v) := by
  refine sk_sm_tr h ⟨fun k hk => sk_uI_o (sk_pne hp hk (by omega)), sk_uI_o (by omega), sk_uI_o (by omega), sk_uI_o (by omega), ?_⟩
  by_cases e : 34 = c
  · subst e
    rw [sk_uI_s, sk_up_o (Ne.symm (h34 rfl))]
  · rw [sk_uI_o e]
theorem sk_XS_cg {p : Nat} {D : Int → Int} {I I' : sk_SI} (h : sk_XS p D I) (hs : sk_sm p I I') : sk_XS p D I' := by
  obtain ⟨a, b, c, e, f⟩ := h
  obtain ⟨s1, s8, s3, s4, s11⟩ := hs
  refine ⟨sk_pv_cg a s1, ?_, by rw [s3]; exact c, by rw [s3, s4]; exact e, by rw [s11]; exact f⟩
  intro i i0 i1
  rw [s8]
  exact b i i0 i1
theorem sk_f1_z {n : Int} {D p8 : Int → Int} {z z' : Int} {lv mc : Int → Int} {i ro op nx st tm : Int} (h : sk_f1 n D p8 z lv mc i ro op nx st tm) (hz : z ≤ z') : sk_f1 n D p8 z' lv mc i ro op nx st tm := by
  obtain ⟨a1, a2, a3, a4, a5, a6, a7, a8, a9, b1⟩ := h
  exact ⟨a1, a2, a3, a4, ⟨a5.1, by omega⟩, a6, a7, a8, a9, b1⟩
theorem sk_FV_cg {p : Nat} {D lv mc : Int → Int} {I I' : sk_SI} (h : sk_FV p D lv mc I) (hs : sk_sm p I I') (h35 : I' 35 5 = I 35 5) (h36 : I' 36 = I 36) (h37 : I' 37 = I 37) (h38 : I' 38 = I 38) (h39 : I' 39 = I 39) (h40 : I' 40 = I 40) (hz : I 45 4 ≤ I' 45 4) : sk_FV p D lv mc I' := by
  have h0 : I' p = I p := hs.1 0 (by omega)
  refine ⟨by rw [h35]; exact h.1, fun i i0 i1 => ?_⟩
  rw [h35] at i1
  rw [h0, hs.1 8 (by omega), h36, h37, h38, h39, h40]
  exact sk_f1_z (h.2 i i0 i1) hz
theorem sk_JV_cg {p : Nat} {I I' : sk_SI} (h : sk_JV p I) (hs : sk_sm p I I') (h10 : I' 34 10 = I 34 10) (h42 : I' 42 = I 42) (h43 : I' 43 = I 43) (hz : I 45 4 ≤ I' 45 4) : sk_JV p I' := by
  have h0 : I' p = I p := hs.1 0 (by omega)
  refine ⟨by rw [h10]; exact h.1, fun j j0 j1 => ?_⟩
  rw [h10] at j1
  rw [h42, h43, h0]
  have := h.2 j j0 j1
  exact ⟨this.1, this.2.1, by omega⟩
theorem sk_SV_cg {I I' : sk_SI} (h : sk_SV I) (h41 : I' 41 = I 41) (hz : I 45 4 ≤ I' 45 4) : sk_SV I' := by
  intro k k0 k1
  rw [h41]
  have := h k k0 k1
  omega
theorem sk_XV_wk {p : Nat} {D lv mc : Int → Int} {a b a' b' : Int} {I : sk_SI} (h : sk_XV p D lv mc a b I) (ha : a' ≤ a) (hb : b' ≤ b) : sk_XV p D lv mc a' b' I := by
  obtain ⟨x1, x2, x3, x4, x5, x6, t0, t1, t4, t5, tn, tz⟩ := h
  exact ⟨x1, x2, x3, x4, x5, x6, t0, t1, t4, t5, by omega, by omega⟩
section SKI1
variable {p : Nat} {D lv mc : Int → Int} {a b : Int} {I : sk_SI}
/-- cells of no weight -/
theorem sk_XV_cg {a' b' : Int} {I' : sk_SI} (hp : sk_pg p) (h : sk_XV p D lv mc a b I) (hs : sk_sm p I I') (h35 : I' 35 5 = I 35 5) (hc : ∀ c, (36 ≤ c ∧ c ≤ 43) ∨ c = 46 ∨ c = 47 → I' c = I c) (h10 : I' 34 10 = I 34 10) (h12 : I' 34 12 = I 34 12) (h45 : I' 45 4 = I 45 4) (hT : sk_TV a' b' I') : sk_XV p D lv mc a' b' I' := by
  obtain ⟨x1, x2, x3, x4, x5, x6, x7⟩ := h
  refine ⟨sk_XS_cg x1 hs, sk_FV_cg x2 hs h35 (hc 36 (by omega)) (hc 37 (by omega)) (hc 38 (by omega)) (hc 39 (by omega)) (hc 40 (by omega)) (by omega), ?_, sk_ev_cg x4 hs.1 (hc 46 (by omega)) (hc 47 (by omega)) h45, sk_JV_cg x5 hs h10 (hc 42 (by omega)) (hc 43 (by omega)) (by omega), sk_SV_cg x6 (hc 41 (by omega)) (by omega), hT⟩
  unfold sk_V4
  rw [h35, h12]
  exact x3
theorem sk_XV_end (hp : sk_pg p) (h : sk_XV p D lv mc a b I) (v : Int) : sk_XV p D lv mc a b (sk_uI I 34 13 v) := by
  refine sk_XV_cg hp h (sk_sm_u hp (sk_sm_rf p I) 34 13 v (by omega) (fun _ => by omega)) (by (try simp only [sk_uI_s, sk_uI_o, sk_up_s, sk_up_o, sk_uL_s, sk_uL_o, ne_eq, Nat.reduceEqDiff, Nat.reduceAdd, Int.reduceEq, not_false_eq_true])) (fun c hc => sk_uI_o (by omega)) (by (try simp only [sk_uI_s, sk_uI_o, sk_up_s, sk_up_o, sk_uL_s, sk_uL_o, ne_eq, Nat.reduceEqDiff, Nat.reduceAdd, Int.reduceEq, not_false_eq_true])) (by (try simp only [sk_uI_s, sk_uI_o, sk_up_s, sk_up_o, sk_uL_s, sk_uL_o, ne_eq, Nat.reduceEqDiff, Nat.reduceAdd, Int.reduceEq, not_false_eq_true])) (by (try simp only [sk_uI_s, sk_uI_o, sk_up_s, sk_up_o, sk_uL_s, sk_uL_o, ne_eq, Nat.reduceEqDiff, Nat.reduceAdd, Int.reduceEq, not_false_eq_true])) ?_
  unfold sk_TV
  (try simp only [sk_uI_s, sk_uI_o, sk_up_s, sk_up_o, sk_uL_s, sk_uL_o, ne_eq, Nat.reduceEqDiff, Nat.reduceAdd, Int.reduceEq, not_false_eq_true])
  exact h.2.2.2.2.2.2
theorem sk_XV_turn (hp : sk_pg p) (h : sk_XV p D lv mc a b I) (ht : I 44 0 < I 34 11) : sk_XV p D lv mc (a + 1) (b + 1) (sk_bmp 0 I) := by
  unfold sk_bmp
  refine sk_XV_cg hp h (sk_sm_u hp (sk_sm_rf p I) 44 0 _ (by omega) (fun _ => by omega)) (by (try simp only [sk_uI_s, sk_uI_o, sk_up_s, sk_up_o, sk_uL_s, sk_uL_o, ne_eq, Nat.reduceEqDiff, Nat.reduceAdd, Int.reduceEq, not_false_eq_true])) (fun c hc => sk_uI_o (by omega)) (by (try simp only [sk_uI_s, sk_uI_o, sk_up_s, sk_up_o, sk_uL_s, sk_uL_o, ne_eq, Nat.reduceEqDiff, Nat.reduceAdd, Int.reduceEq, not_false_eq_true])) (by (try simp only [sk_uI_s, sk_uI_o, sk_up_s, sk_up_o, sk_uL_s, sk_uL_o, ne_eq, Nat.reduceEqDiff, Nat.reduceAdd, Int.reduceEq, not_false_eq_true])) (by (try simp only [sk_uI_s, sk_uI_o, sk_up_s, sk_up_o, sk_uL_s, sk_uL_o, ne_eq, Nat.reduceEqDiff, Nat.reduceAdd, Int.reduceEq, not_false_eq_true])) ?_
  obtain ⟨t0, t1, t4, t5, tn, tz⟩ := h.2.2.2.2.2.2
  unfold sk_TV
  (try simp only [sk_uI_s, sk_uI_o, sk_up_s, sk_up_o, sk_uL_s, sk_uL_o, ne_eq, Nat.reduceEqDiff, Nat.reduceAdd, Int.reduceEq, not_false_eq_true])
  exact ⟨by omega, t1, t4, t5, by omega, by omega⟩
theorem sk_XV_job (hp : sk_pg p) (h : sk_XV p D lv mc a b I) (ht : I 44 1 < I 34 10) : sk_XV p D lv mc (a + 1) b (sk_bmp 1 I) := by
  unfold sk_bmp
  refine sk_XV_cg hp h (sk_sm_u hp (sk_sm_rf p I) 44 1 _ (by omega) (fun _ => by omega)) (by (try simp only [sk_uI_s, sk_uI_o, sk_up_s, sk_up_o, sk_uL_s, sk_uL_o, ne_eq, Nat.reduceEqDiff, Nat.reduceAdd, Int.reduceEq, not_false_eq_true])) (fun c hc => sk_uI_o (by omega)) (by (try simp only [sk_uI_s, sk_uI_o, sk_up_s, sk_up_o, sk_uL_s, sk_uL_o, ne_eq, Nat.reduceEqDiff, Nat.reduceAdd, Int.reduceEq, not_false_eq_true])) (by (try simp only [sk_uI_s, sk_uI_o, sk_up_s, sk_up_o, sk_uL_s, sk_uL_o, ne_eq, Nat.reduceEqDiff, Nat.reduceAdd, Int.reduceEq, not_false_eq_true])) (by (try simp only [sk_uI_s, sk_uI_o, sk_up_s, sk_up_o, sk_uL_s, sk_uL_o, ne_eq, Nat.reduceEqDiff, Nat.reduceAdd, Int.reduceEq, not_false_eq_true])) ?_
  obtain ⟨t0, t1, t4, t5, tn, tz⟩ := h.2.2.2.2.2.2
  unfold sk_TV
  (try simp only [sk_uI_s, sk_uI_o, sk_up_s, sk_up_o, sk_uL_s, sk_uL_o, ne_eq, Nat.reduceEqDiff, Nat.reduceAdd, Int.reduceEq, not_false_eq_true])
  exact ⟨t0, by omega, t4, t5, tn, by omega⟩
theorem sk_XV_bmp (hp : sk_pg p) (h : sk_XV p D lv mc a b I) (j : Int) (hj : j = 2 ∨ j = 3 ∨ j = 7) : sk_XV p D lv mc a b (sk_bmp j I) := by
  unfold sk_bmp
  refine sk_XV_cg hp h (sk_sm_u hp (sk_sm_rf p I) 44 j _ (by omega) (fun _ => by omega)) (by (try simp only [sk_uI_s, sk_uI_o, sk_up_s, sk_up_o, sk_uL_s, sk_uL_o, ne_eq, Nat.reduceEqDiff, Nat.reduceAdd, Int.reduceEq, not_false_eq_true])) (fun c hc => sk_uI_o (by omega)) (by (try simp only [sk_uI_s, sk_uI_o, sk_up_s, sk_up_o, sk_uL_s, sk_uL_o, ne_eq, Nat.reduceEqDiff, Nat.reduceAdd, Int.reduceEq, not_false_eq_true])) (by (try simp only [sk_uI_s, sk_uI_o, sk_up_s, sk_up_o, sk_uL_s, sk_uL_o, ne_eq, Nat.reduceEqDiff, Nat.reduceAdd, Int.reduceEq, not_false_eq_true])) (by (try simp only [sk_uI_s, sk_uI_o, sk_up_s, sk_up_o, sk_uL_s, sk_uL_o, ne_eq, Nat.reduceEqDiff, Nat.reduceAdd, Int.reduceEq, not_false_eq_true])) ?_
  unfold sk_TV
  rw [sk_uI_s, sk_up_o (by omega), sk_up_o (by omega), sk_up_o (by omega), sk_up_o (by omega)]
  (try simp only [sk_uI_s, sk_uI_o, sk_up_s, sk_up_o, sk_uL_s, sk_uL_o, ne_eq, Nat.reduceEqDiff, Nat.reduceAdd, Int.reduceEq, not_false_eq_true])
  exact h.2.2.2.2.2.2
theorem sk_XV_bit (hp : sk_pg p) (h : sk_XV p D lv mc a b I) (ht : I 44 5 < I 3 1) : sk_XV p D lv mc a b (sk_bmp 5 I) := by
  unfold sk_bmp
  refine sk_XV_cg hp h (sk_sm_u hp (sk_sm_rf p I) 44 5 _ (by omega) (fun _ => by omega)) (by (try simp only [sk_uI_s, sk_uI_o, sk_up_s, sk_up_o, sk_uL_s, sk_uL_o, ne_eq, Nat.reduceEqDiff, Nat.reduceAdd, Int.reduceEq, not_false_eq_true])) (fun c hc => sk_uI_o (by omega)) (by (try simp only [sk_uI_s, sk_uI_o, sk_up_s, sk_up_o, sk_uL_s, sk_uL_o, ne_eq, Nat.reduceEqDiff, Nat.reduceAdd, Int.reduceEq, not_false_eq_true])) (by (try simp only [sk_uI_s, sk_uI_o, sk_up_s, sk_up_o, sk_uL_s, sk_uL_o, ne_eq, Nat.reduceEqDiff, Nat.reduceAdd, Int.reduceEq, not_false_eq_true])) (by (try simp only [sk_uI_s, sk_uI_o, sk_up_s, sk_up_o, sk_uL_s, sk_uL_o, ne_eq, Nat.reduceEqDiff, Nat.reduceAdd, Int.reduceEq, not_false_eq_true])) ?_
  obtain ⟨t0, t1, t4, t5, tn, tz⟩ := h.2.2.2.2.2.2
  unfold sk_TV
  (try simp only [sk_uI_s, sk_uI_o, sk_up_s, sk_up_o, sk_uL_s, sk_uL_o, ne_eq, Nat.reduceEqDiff, Nat.reduceAdd, Int.reduceEq, not_false_eq_true])
  exact ⟨t0, t1, t4, by omega, tn, tz⟩
theorem sk_XV_nte (hp : sk_pg p) (h : sk_XV p D lv mc a b I) (v : Int) : sk_XV p D lv mc a (b - 1) (sk_nte v I) := by
  unfold sk_nte
  refine sk_XV_cg hp h (sk_sm_u hp (sk_sm_u hp (sk_sm_rf p I) 6 _ _ (by omega) (fun _ => by omega)) 5 _ _ (by omega) (fun _ => by omega)) (by (try simp only [sk_uI_s, sk_uI_o, sk_up_s, sk_up_o, sk_uL_s, sk_uL_o, ne_eq, Nat.reduceEqDiff, Nat.reduceAdd, Int.reduceEq, not_false_eq_true])) (fun c hc => by rw [sk_uI_o (by omega), sk_uI_o (by omega)]) (by (try simp only [sk_uI_s, sk_uI_o, sk_up_s, sk_up_o, sk_uL_s, sk_uL_o, ne_eq, Nat.reduceEqDiff, Nat.reduceAdd, Int.reduceEq, not_false_eq_true])) (by (try simp only [sk_uI_s, sk_uI_o, sk_up_s, sk_up_o, sk_uL_s, sk_uL_o, ne_eq, Nat.reduceEqDiff, Nat.reduceAdd, Int.reduceEq, not_false_eq_true])) (by (try simp only [sk_uI_s, sk_uI_o, sk_up_s, sk_up_o, sk_uL_s, sk_uL_o, ne_eq, Nat.reduceEqDiff, Nat.reduceAdd, Int.reduceEq, not_false_eq_true])) ?_
  obtain ⟨t0, t1, t4, t5, tn, tz⟩ := h.2.2.2.2.2.2
  unfold sk_TV
  (try simp only [sk_uI_s, sk_uI_o, sk_up_s, sk_up_o, sk_uL_s, sk_uL_o, ne_eq, Nat.reduceEqDiff, Nat.reduceAdd, Int.reduceEq, not_false_eq_true])
  exact ⟨t0, t1, t4, t5, by omega, tz⟩
theorem sk_XV_keep (hp : sk_pg p) (h : sk_XV p D lv mc a b I) (k v : Int) (hv : -1 ≤ v ∧ v < I 45 4) : sk_XV p D lv mc a b (sk_uI I 41 k v) := by
  have hs := sk_sm_u hp (sk_sm_rf p I) 41 k v (by omega) (fun _ => by omega)
  obtain ⟨x1, x2, x3, x4, x5, x6, x7⟩ := h
  refine ⟨sk_XS_cg x1 hs, sk_FV_cg x2 hs (by (try simp only [sk_uI_s, sk_uI_o, sk_up_s, sk_up_o, sk_uL_s, sk_uL_o, ne_eq, Nat.reduceEqDiff, Nat.reduceAdd, Int.reduceEq, not_false_eq_true])) (by (try simp only [sk_uI_s, sk_uI_o, sk_up_s, sk_up_o, sk_uL_s, sk_uL_o, ne_eq, Nat.reduceEqDiff, Nat.reduceAdd, Int.reduceEq, not_false_eq_true])) (by (try simp only [sk_uI_s, sk_uI_o, sk_up_s, sk_up_o, sk_uL_s, sk_uL_o, ne_eq, Nat.reduceEqDiff, Nat.reduceAdd, Int.reduceEq, not_false_eq_true])) (by (try simp only [sk_uI_s, sk_uI_o, sk_up_s, sk_up_o, sk_uL_s, sk_uL_o, ne_eq, Nat.reduceEqDiff, Nat.reduceAdd, Int.reduceEq, not_false_eq_true])) (by (try simp only [sk_uI_s, sk_uI_o, sk_up_s, sk_up_o, sk_uL_s, sk_uL_o, ne_eq, Nat.reduceEqDiff, Nat.reduceAdd, Int.reduceEq, not_false_eq_true])) (by (try simp only [sk_uI_s, sk_uI_o, sk_up_s, sk_up_o, sk_uL_s, sk_uL_o, ne_eq, Nat.reduceEqDiff, Nat.reduceAdd, Int.reduceEq, not_false_eq_true])) (by (try simp only [sk_uI_s, sk_uI_o, sk_up_s, sk_up_o, sk_uL_s, sk_uL_o, ne_eq, Nat.reduceEqDiff, Nat.reduceAdd, Int.reduceEq, not_false_eq_true]); omega), ?_, sk_ev_cg x4 hs.1 (by (try simp only [sk_uI_s, sk_uI_o, sk_up_s, sk_up_o, sk_uL_s, sk_uL_o, ne_eq, Nat.reduceEqDiff, Nat.reduceAdd, Int.reduceEq, not_false_eq_true])) (by (try simp only [sk_uI_s, sk_uI_o, sk_up_s, sk_up_o, sk_uL_s, sk_uL_o, ne_eq, Nat.reduceEqDiff, Nat.reduceAdd, Int.reduceEq, not_false_eq_true])) (by (try simp only [sk_uI_s, sk_uI_o, sk_up_s, sk_up_o, sk_uL_s, sk_uL_o, ne_eq, Nat.reduceEqDiff, Nat.reduceAdd, Int.reduceEq, not_false_eq_true])), sk_JV_cg x5 hs (by (try simp only [sk_uI_s, sk_uI_o, sk_up_s, sk_up_o, sk_uL_s, sk_uL_o, ne_eq, Nat.reduceEqDiff, Nat.reduceAdd, Int.reduceEq, not_false_eq_true])) (by (try simp only [sk_uI_s, sk_uI_o, sk_up_s, sk_up_o, sk_uL_s, sk_uL_o, ne_eq, Nat.reduceEqDiff, Nat.reduceAdd, Int.reduceEq, not_false_eq_true])) (by (try simp only [sk_uI_s, sk_uI_o, sk_up_s, sk_up_o, sk_uL_s, sk_uL_o, ne_eq, Nat.reduceEqDiff, Nat.reduceAdd, Int.reduceEq, not_false_eq_true])) (by (try simp only [sk_uI_s, sk_uI_o, sk_up_s, sk_up_o, sk_uL_s, sk_uL_o, ne_eq, Nat.reduceEqDiff, Nat.reduceAdd, Int.reduceEq, not_false_eq_true]); omega), ?_, ?_⟩
  · unfold sk_V4; (try simp only [sk_uI_s, sk_uI_o, sk_up_s, sk_up_o, sk_uL_s, sk_uL_o, ne_eq, Nat.reduceEqDiff, Nat.reduceAdd, Int.reduceEq, not_false_eq_true]); exact x3
  · intro j j0 j1
    (try simp only [sk_uI_s, sk_uI_o, sk_up_s, sk_up_o, sk_uL_s, sk_uL_o, ne_eq, Nat.reduceEqDiff, Nat.reduceAdd, Int.reduceEq, not_false_eq_true])
    by_cases e : j = k
    · subst e; rw [sk_up_s]; exact hv
    · rw [sk_up_o e]; exact x6 j j0 j1
  · unfold sk_TV; (try simp only [sk_uI_s, sk_uI_o, sk_up_s, sk_up_o, sk_uL_s, sk_uL_o, ne_eq, Nat.reduceEqDiff, Nat.reduceAdd, Int.reduceEq, not_false_eq_true]); exact x7
theorem sk_XV_po (hp : sk_pg p) (h : sk_XV p D lv mc a b I) (m v : Int) (hm : 0 ≤ m ∧ m < I p 9) (hv : -1 ≤ v ∧ v < I 45 4) : sk_XV p D lv mc a b (sk_poI m v I) := by
  unfold sk_poI
  split
  · rename_i h21
    have hs := sk_sm_u hp (sk_sm_u hp (sk_sm_u hp (sk_sm_rf p I) 42 (I 34 10) m (by omega) (fun _ => by omega)) 43 (I 34 10) v (by omega) (fun _ => by omega)) 34 10 (I 34 10 + 1) (by omega) (fun _ => by omega)
    have h0 := hs.1 0 (by omega)
    rw [Nat.add_zero] at h0
    obtain ⟨x1, x2, x3, x4, x5, x6, x7⟩ := h
    refine ⟨sk_XS_cg x1 hs, sk_FV_cg x2 hs (by (try simp only [sk_uI_s, sk_uI_o, sk_up_s, sk_up_o, sk_uL_s, sk_uL_o, ne_eq, Nat.reduceEqDiff, Nat.reduceAdd, Int.reduceEq, not_false_eq_true])) (by (try simp only [sk_uI_s, sk_uI_o, sk_up_s, sk_up_o, sk_uL_s, sk_uL_o, ne_eq, Nat.reduceEqDiff, Nat.reduceAdd, Int.reduceEq, not_false_eq_true])) (by (try simp only [sk_uI_s, sk_uI_o, sk_up_s, sk_up_o, sk_uL_s, sk_uL_o, ne_eq, Nat.reduceEqDiff, Nat.reduceAdd, Int.reduceEq, not_false_eq_true])) (by (try simp only [sk_uI_s, sk_uI_o, sk_up_s, sk_up_o, sk_uL_s, sk_uL_o, ne_eq, Nat.reduceEqDiff, Nat.reduceAdd, Int.reduceEq, not_false_eq_true])) (by (try simp only [sk_uI_s, sk_uI_o, sk_up_s, sk_up_o, sk_uL_s, sk_uL_o, ne_eq, Nat.reduceEqDiff, Nat.reduceAdd, Int.reduceEq, not_false_eq_true])) (by (try simp only [sk_uI_s, sk_uI_o, sk_up_s, sk_up_o, sk_uL_s, sk_uL_o, ne_eq, Nat.reduceEqDiff, Nat.reduceAdd, Int.reduceEq, not_false_eq_true])) (by (try simp only [sk_uI_s, sk_uI_o, sk_up_s, sk_up_o, sk_uL_s, sk_uL_o, ne_eq, Nat.reduceEqDiff, Nat.reduceAdd, Int.reduceEq, not_false_eq_true]); omega), ?_, sk_ev_cg x4 hs.1 (by (try simp only [sk_uI_s, sk_uI_o, sk_up_s, sk_up_o, sk_uL_s, sk_uL_o, ne_eq, Nat.reduceEqDiff, Nat.reduceAdd, Int.reduceEq, not_false_eq_true])) (by (try simp only [sk_uI_s, sk_uI_o, sk_up_s, sk_up_o, sk_uL_s, sk_uL_o, ne_eq, Nat.reduceEqDiff, Nat.reduceAdd, Int.reduceEq, not_false_eq_true])) (by (try simp only [sk_uI_s, sk_uI_o, sk_up_s, sk_up_o, sk_uL_s, sk_uL_o, ne_eq, Nat.reduceEqDiff, Nat.reduceAdd, Int.reduceEq, not_false_eq_true])), ⟨?_, fun j j0 j1 => ?_⟩, sk_SV_cg x6 (by (try simp only [sk_uI_s, sk_uI_o, sk_up_s, sk_up_o, sk_uL_s, sk_uL_o, ne_eq, Nat.reduceEqDiff, Nat.reduceAdd, Int.reduceEq, not_false_eq_true])) (by (try simp only [sk_uI_s, sk_uI_o, sk_up_s, sk_up_o, sk_uL_s, sk_uL_o, ne_eq, Nat.reduceEqDiff, Nat.reduceAdd, Int.reduceEq, not_false_eq_true]); omega), ?_⟩
    · unfold sk_V4; (try simp only [sk_uI_s, sk_uI_o, sk_up_s, sk_up_o, sk_uL_s, sk_uL_o, ne_eq, Nat.reduceEqDiff, Nat.reduceAdd, Int.reduceEq, not_false_eq_true]); exact x3
    · (try simp only [sk_uI_s, sk_uI_o, sk_up_s, sk_up_o, sk_uL_s, sk_uL_o, ne_eq, Nat.reduceEqDiff, Nat.reduceAdd, Int.reduceEq, not_false_eq_true]); have := x5.1; omega
    · rw [h0]
      simp only [sk_uI_s, sk_uI_o, sk_up_s, ne_eq, Nat.reduceEqDiff, not_false_eq_true] at j1 ⊢
      by_cases e : j = I 34 10
      · subst e; rw [sk_up_s, sk_up_s]; exact ⟨hm, hv⟩
      · rw [sk_up_o e, sk_up_o e]; exact x5.2 j j0 (by omega)
    · obtain ⟨t0, t1, t4, t5, tn, tz⟩ := x7
      unfold sk_TV
      (try simp only [sk_uI_s, sk_uI_o, sk_up_s, sk_up_o, sk_uL_s, sk_uL_o, ne_eq, Nat.reduceEqDiff, Nat.reduceAdd, Int.reduceEq, not_false_eq_true])
      exact ⟨t0, by omega, t4, t5, tn, tz⟩
  · exact sk_XV_end hp h 3
theorem sk_XV_ent (hp : sk_pg p) (h : sk_XV p D lv mc a b I) (e v : Int) (he : (0 ≤ e ∧ e < I p 10 ∧ (I (p + 3) e = 2 ∨ I (p + 3) e = 3 ∨ I (p + 3) e = 5)) ∨ (- I p 9 ≤ e ∧ e ≤ -1)) (hv : -1 ≤ v ∧ v < I 45 4) : sk_XV p D lv mc (a - 1) b (sk_ent e v I) := by
  unfold sk_ent
  have hs := sk_sm_u hp (sk_sm_u hp (sk_sm_u hp (sk_sm_rf p I) 46 (I 45 4) e (by omega) (fun _ => by omega)) 47 (I 45 4) v (by omega) (fun _ => by omega)) 45 4 (I 45 4 + 1) (by omega) (fun _ => by omega)
  have h0 := hs.1 0 (by omega)
  rw [Nat.add_zero] at h0
  obtain ⟨x1, x2, x3, x4, x5, x6, x7⟩ := h
  refine ⟨sk_XS_cg x1 hs, sk_FV_cg x2 hs (by (try simp only [sk_uI_s, sk_uI_o, sk_up_s, sk_up_o, sk_uL_s, sk_uL_o, ne_eq, Nat.reduceEqDiff, Nat.reduceAdd, Int.reduceEq, not_false_eq_true])) (by (try simp only [sk_uI_s, sk_uI_o, sk_up_s, sk_up_o, sk_uL_s, sk_uL_o, ne_eq, Nat.reduceEqDiff, Nat.reduceAdd, Int.reduceEq, not_false_eq_true])) (by (try simp only [sk_uI_s, sk_uI_o, sk_up_s, sk_up_o, sk_uL_s, sk_uL_o, ne_eq, Nat.reduceEqDiff, Nat.reduceAdd, Int.reduceEq, not_false_eq_true])) (by (try simp only [sk_uI_s, sk_uI_o, sk_up_s, sk_up_o, sk_uL_s, sk_uL_o, ne_eq, Nat.reduceEqDiff, Nat.reduceAdd, Int.reduceEq, not_false_eq_true])) (by (try simp only [sk_uI_s, sk_uI_o, sk_up_s, sk_up_o, sk_uL_s, sk_uL_o, ne_eq, Nat.reduceEqDiff, Nat.reduceAdd, Int.reduceEq, not_false_eq_true])) (by (try simp only [sk_uI_s, sk_uI_o, sk_up_s, sk_up_o, sk_uL_s, sk_uL_o, ne_eq, Nat.reduceEqDiff, Nat.reduceAdd, Int.reduceEq, not_false_eq_true])) (by (try simp only [sk_uI_s, sk_uI_o, sk_up_s, sk_up_o, sk_uL_s, sk_uL_o, ne_eq, Nat.reduceEqDiff, Nat.reduceAdd, Int.reduceEq, not_false_eq_true]); omega), ?_, fun j j0 j1 => ?_, sk_JV_cg x5 hs (by (try simp only [sk_uI_s, sk_uI_o, sk_up_s, sk_up_o, sk_uL_s, sk_uL_o, ne_eq, Nat.reduceEqDiff, Nat.reduceAdd, Int.reduceEq, not_false_eq_true])) (by (try simp only [sk_uI_s, sk_uI_o, sk_up_s, sk_up_o, sk_uL_s, sk_uL_o, ne_eq, Nat.reduceEqDiff, Nat.reduceAdd, Int.reduceEq, not_false_eq_true])) (by (try simp only [sk_uI_s, sk_uI_o, sk_up_s, sk_up_o, sk_uL_s, sk_uL_o, ne_eq, Nat.reduceEqDiff, Nat.reduceAdd, Int.reduceEq, not_false_eq_true])) (by (try simp only [sk_uI_s, sk_uI_o, sk_up_s, sk_up_o, sk_uL_s, sk_uL_o, ne_eq, Nat.reduceEqDiff, Nat.reduceAdd, Int.reduceEq, not_false_eq_true]); omega), sk_SV_cg x6 (by (try simp only [sk_uI_s, sk_uI_o, sk_up_s, sk_up_o, sk_uL_s, sk_uL_o, ne_eq, Nat.reduceEqDiff, Nat.reduceAdd, Int.reduceEq, not_false_eq_true])) (by (try simp only [sk_uI_s, sk_uI_o, sk_up_s, sk_up_o, sk_uL_s, sk_uL_o, ne_eq, Nat.reduceEqDiff, Nat.reduceAdd, Int.reduceEq, not_false_eq_true]); omega), ?_⟩
  · unfold sk_V4; (try simp only [sk_uI_s, sk_uI_o, sk_up_s, sk_up_o, sk_uL_s, sk_uL_o, ne_eq, Nat.reduceEqDiff, Nat.reduceAdd, Int.reduceEq, not_false_eq_true]); exact x3
  · unfold sk_ev1
    rw [h0, hs.1 3 (by omega)]
    simp only [sk_uI_s, sk_uI_o, sk_up_s, ne_eq, Nat.reduceEqDiff, not_false_eq_true] at j1 ⊢
    by_cases ej : j = I 45 4
    · subst ej; rw [sk_up_s, sk_up_s]; exact ⟨he, hv⟩
    · rw [sk_up_o ej, sk_up_o ej]; exact x4 j j0 (by omega)
  · obtain ⟨t0, t1, t4, t5, tn, tz⟩ := x7
    unfold sk_TV
    (try simp only [sk_uI_s, sk_uI_o, sk_up_s, sk_up_o, sk_uL_s, sk_uL_o, ne_eq, Nat.reduceEqDiff, Nat.reduceAdd, Int.reduceEq, not_false_eq_true])
    exact ⟨t0, t1, t4, t5, tn, by omega⟩
theorem sk_XV_goTo (hp : sk_pg p) (h : sk_XV p D lv mc a b I) (v : Int) (hv : v = -1 ∨ (0 ≤ v ∧ v < I p 10 ∧ D v = lv (I 35 5 - 1))) : sk_XV p D lv mc a b (sk_uI I 38 (I 35 5 - 1) v) := by
  have hs := sk_sm_u hp (sk_sm_rf p I) 38 (I 35 5 - 1) v (by omega) (fun _ => by omega)
  have h0 := hs.1 0 (by omega)
  rw [Nat.add_zero] at h0
  obtain ⟨x1, x2, x3, x4, x5, x6, x7⟩ := h
  refine ⟨sk_XS_cg x1 hs, ⟨by (try simp only [sk_uI_s, sk_uI_o, sk_up_s, sk_up_o, sk_uL_s, sk_uL_o, ne_eq, Nat.reduceEqDiff, Nat.reduceAdd, Int.reduceEq, not_false_eq_true]); exact x2.1, fun i i0 i1 => ?_⟩, ?_, sk_ev_cg x4 hs.1 (by (try simp only [sk_uI_s, sk_uI_o, sk_up_s, sk_up_o, sk_uL_s, sk_uL_o, ne_eq, Nat.reduceEqDiff, Nat.reduceAdd, Int.reduceEq, not_false_eq_true])) (by (try simp only [sk_uI_s, sk_uI_o, sk_up_s, sk_up_o, sk_uL_s, sk_uL_o, ne_eq, Nat.reduceEqDiff, Nat.reduceAdd, Int.reduceEq, not_false_eq_true])) (by (try simp only [sk_uI_s, sk_uI_o, sk_up_s, sk_up_o, sk_uL_s, sk_uL_o, ne_eq, Nat.reduceEqDiff, Nat.reduceAdd, Int.reduceEq, not_false_eq_true])), sk_JV_cg x5 hs (by (try simp only [sk_uI_s, sk_uI_o, sk_up_s, sk_up_o, sk_uL_s, sk_uL_o, ne_eq, Nat.reduceEqDiff, Nat.reduceAdd, Int.reduceEq, not_false_eq_true])) (by (try simp only [sk_uI_s, sk_uI_o, sk_up_s, sk_up_o, sk_uL_s, sk_uL_o, ne_eq, Nat.reduceEqDiff, Nat.reduceAdd, Int.reduceEq, not_false_eq_true])) (by (try simp only [sk_uI_s, sk_uI_o, sk_up_s, sk_up_o, sk_uL_s, sk_uL_o, ne_eq, Nat.reduceEqDiff, Nat.reduceAdd, Int.reduceEq, not_false_eq_true])) (by (try simp only [sk_uI_s, sk_uI_o, sk_up_s, sk_up_o, sk_uL_s, sk_uL_o, ne_eq, Nat.reduceEqDiff, Nat.reduceAdd, Int.reduceEq, not_false_eq_true]); omega), sk_SV_cg x6 (by (try simp only [sk_uI_s, sk_uI_o, sk_up_s, sk_up_o, sk_uL_s, sk_uL_o, ne_eq, Nat.reduceEqDiff, Nat.reduceAdd, Int.reduceEq, not_false_eq_true])) (by (try simp only [sk_uI_s, sk_uI_o, sk_up_s, sk_up_o, sk_uL_s, sk_uL_o, ne_eq, Nat.reduceEqDiff, Nat.reduceAdd, Int.reduceEq, not_false_eq_true]); omega), ?_⟩
  · rw [h0, hs.1 8 (by omega)]
    simp only [sk_uI_s, sk_uI_o, ne_eq, Nat.reduceEqDiff, not_false_eq_true] at i1 ⊢
    obtain ⟨a1, a2, a3, a4, a5⟩ := x2.2 i i0 i1
    by_cases e : i = I 35 5 - 1
    · subst e; rw [sk_up_s]; exact ⟨a1, a2, a3, hv, a5⟩
    · rw [sk_up_o e]; exact ⟨a1, a2, a3, a4, a5⟩
  · unfold sk_V4; (try simp only [sk_uI_s, sk_uI_o, sk_up_s, sk_up_o, sk_uL_s, sk_uL_o, ne_eq, Nat.reduceEqDiff, Nat.reduceAdd, Int.reduceEq, not_false_eq_true]); exact x3
  · unfold sk_TV; (try simp only [sk_uI_s, sk_uI_o, sk_up_s, sk_up_o, sk_uL_s, sk_uL_o, ne_eq, Nat.reduceEqDiff, Nat.reduceAdd, Int.reduceEq, not_false_eq_true]); exact x7
theorem sk_XV_time (hp : sk_pg p) (h : sk_XV p D lv mc a b I) (k v : Int) (hv : 0 ≤ v ∧ v ≤ 99) : sk_XV p D lv mc a b (sk_uI I 40 k v) := by
  have hs := sk_sm_u hp (sk_sm_rf p I) 40 k v (by omega) (fun _ => by omega)
  have h0 := hs.1 0 (by omega)
  rw [Nat.add_zero] at h0
  obtain ⟨x1, x2, x3, x4, x5, x6, x7⟩ := h
  refine ⟨sk_XS_cg x1 hs, ⟨by (try simp only [sk_uI_s, sk_uI_o, sk_up_s, sk_up_o, sk_uL_s, sk_uL_o, ne_eq, Nat.reduceEqDiff, Nat.reduceAdd, Int.reduceEq, not_false_eq_true]); exact x2.1, fun i i0 i1 => ?_⟩, ?_, sk_ev_cg x4 hs.1 (by (try simp only [sk_uI_s, sk_uI_o, sk_up_s, sk_up_o, sk_uL_s, sk_uL_o, ne_eq, Nat.reduceEqDiff, Nat.reduceAdd, Int.reduceEq, not_false_eq_true])) (by (try simp only [sk_uI_s, sk_uI_o, sk_up_s, sk_up_o, sk_uL_s, sk_uL_o, ne_eq, Nat.reduceEqDiff, Nat.reduceAdd, Int.reduceEq, not_false_eq_true])) (by (try simp only [sk_uI_s, sk_uI_o, sk_up_s, sk_up_o, sk_uL_s, sk_uL_o, ne_eq, Nat.reduceEqDiff, Nat.reduceAdd, Int.reduceEq, not_false_eq_true])), sk_JV_cg x5 hs (by (try simp only [sk_uI_s, sk_uI_o, sk_up_s, sk_up_o, sk_uL_s, sk_uL_o, ne_eq, Nat.reduceEqDiff, Nat.reduceAdd, Int.reduceEq, not_false_eq_true])) (by (try simp only [sk_uI_s, sk_uI_o, sk_up_s, sk_up_o, sk_uL_s, sk_uL_o, ne_eq, Nat.reduceEqDiff, Nat.reduceAdd, Int.reduceEq, not_false_eq_true])) (by (try simp only [sk_uI_s, sk_uI_o, sk_up_s, sk_up_o, sk_uL_s, sk_uL_o, ne_eq, Nat.reduceEqDiff, Nat.reduceAdd, Int.reduceEq, not_false_eq_true])) (by (try simp only [sk_uI_s, sk_uI_o, sk_up_s, sk_up_o, sk_uL_s, sk_uL_o, ne_eq, Nat.reduceEqDiff, Nat.reduceAdd, Int.reduceEq, not_false_eq_true]); omega), sk_SV_cg x6 (by (try simp only [sk_uI_s, sk_uI_o, sk_up_s, sk_up_o, sk_uL_s, sk_uL_o, ne_eq, Nat.reduceEqDiff, Nat.reduceAdd, Int.reduceEq, not_false_eq_true])) (by (try simp only [sk_uI_s, sk_uI_o, sk_up_s, sk_up_o, sk_uL_s, sk_uL_o, ne_eq, Nat.reduceEqDiff, Nat.reduceAdd, Int.reduceEq, not_false_eq_true]); omega), ?_⟩
  · rw [h0, hs.1 8 (by omega)]
    simp only [sk_uI_s, sk_uI_o, ne_eq, Nat.reduceEqDiff, not_false_eq_true] at i1 ⊢
    obtain ⟨a1, a2, a3, a4, a5, a6, a7, a8, a9, b1⟩ := x2.2 i i0 i1
    by_cases e : i = k
    · subst e; rw [sk_up_s]; exact ⟨a1, a2, a3, a4, a5, a6, a7, a8, a9, fun z => ⟨hv.1, hv.2, (b1 z).2.2⟩⟩
    · rw [sk_up_o e]; exact ⟨a1, a2, a3, a4, a5, a6, a7, a8, a9, b1⟩
  · unfold sk_V4; (try simp only [sk_uI_s, sk_uI_o, sk_up_s, sk_up_o, sk_uL_s, sk_uL_o, ne_eq, Nat.reduceEqDiff, Nat.reduceAdd, Int.reduceEq, not_false_eq_true]); exact x3
  · unfold sk_TV; (try simp only [sk_uI_s, sk_uI_o, sk_up_s, sk_up_o, sk_uL_s, sk_uL_o, ne_eq, Nat.reduceEqDiff, Nat.reduceAdd, Int.reduceEq, not_false_eq_true]); exact x7
end SKI1
