/-! ===== the model's program: the sound one is copied ===== -/
def sk_c1 (I : sk_SI) (i : Int) (S : sk_SI) : Prop := (∀ c, c ≠ 64 → c ≠ 65 → S c = I c) ∧ ∀ c j, c = 64 ∨ c = 65 → S c j = if 0 ≤ j ∧ j < i then I c (20 + j) else I c j
def sk_c2 (I : sk_SI) (i : Int) (S : sk_SI) : Prop := (∀ c, ¬ (67 ≤ c ∧ c ≤ 73) → S c = I c) ∧ ∀ c j, 67 ≤ c ∧ c ≤ 73 → S c j = if 0 ≤ j ∧ j < i then I c (200 + j) else I c j
theorem sk_c1_s {I S : sk_SI} {i : Int} (h : sk_c1 I i S) (hi : 0 ≤ i ∧ i < 20) : sk_c1 I (i + 1) (sk_uI (sk_uI S 64 i (S 64 (20 + i))) 65 i (S 65 (20 + i))) := by
  have one : ∀ c j, c = 64 ∨ c = 65 → sk_up (S c) i (S c (20 + i)) j = if 0 ≤ j ∧ j < i + 1 then I c (20 + j) else I c j := by
    intro c j hc
    by_cases e : j = i
    · subst e
      rw [sk_up_s, h.2 c _ hc, if_neg (by omega), if_pos (by omega)]
    · rw [sk_up_o e, h.2 c _ hc]
      by_cases g : 0 ≤ j ∧ j < i
      · rw [if_pos g, if_pos (by omega)]
      · rw [if_neg g, if_neg (by omega)]
  refine ⟨fun c a b => by rw [sk_uI_o b, sk_uI_o a, h.1 c a b], fun c j hc => ?_⟩
  rcases hc with rfl | rfl
  · rw [sk_uI_o (by decide), sk_uI_s]; exact one 64 j (by omega)
  · rw [sk_uI_s, sk_uI_o (by decide)]; exact one 65 j (by omega)
theorem sk_c2_s {I S : sk_SI} {i : Int} (h : sk_c2 I i S) (hi : 0 ≤ i ∧ i < 200) : sk_c2 I (i + 1) (sk_uI (sk_uI (sk_uI (sk_uI (sk_uI (sk_uI (sk_uI S 67 i (S 67 (200 + i))) 68 i (S 68 (200 + i))) 69 i (S 69 (200 + i))) 70 i (S 70 (200 + i))) 71 i (S 71 (200 + i))) 72 i (S 72 (200 + i))) 73 i (S 73 (200 + i))) := by
  have one : ∀ c j, 67 ≤ c ∧ c ≤ 73 → sk_up (S c) i (S c (200 + i)) j = if 0 ≤ j ∧ j < i + 1 then I c (200 + j) else I c j := by
    intro c j hc
    by_cases e : j = i
    · subst e
      rw [sk_up_s, h.2 c _ hc, if_neg (by omega), if_pos (by omega)]
    · rw [sk_up_o e, h.2 c _ hc]
      by_cases g : 0 ≤ j ∧ j < i
      · rw [if_pos g, if_pos (by omega)]
      · rw [if_neg g, if_neg (by omega)]
  refine ⟨fun c a => by rw [sk_uI_o (by omega), sk_uI_o (by omega), sk_uI_o (by omega), sk_uI_o (by omega), sk_uI_o (by omega), sk_uI_o (by omega), sk_uI_o (by omega), h.1 c a], fun c j hc => ?_⟩
  have hone := one c j hc
  rcases (show c = 67 ∨ c = 68 ∨ c = 69 ∨ c = 70 ∨ c = 71 ∨ c = 72 ∨ c = 73 by omega) with rfl | rfl | rfl | rfl | rfl | rfl | rfl <;>
  · simp only [sk_uI_s, sk_uI_o, ne_eq, Nat.reduceEqDiff, not_false_eq_true]
    exact hone
section SKS8
variable {l : Launch} {E : sk_En} {d : Nat} {L : sk_SL} {cu sp io rp tp fp p : Nat} {t : Int → Int} {n : Int} {Q : Option sk_V → List sk_Sh → sk_St → Prop}
theorem c_M_copy2 (I : sk_SI) (hq : ∀ S, sk_c2 I 200 S → Q (some (vi (I 63 0))) sk_G (S, L, sk_J cu sp io rp tp fp)) : ∀ (k : Nat) (i : Int) (S : sk_SI), 0 ≤ i → i + k = 200 → sk_c2 I i S → AW l E d 0 0 mX10_program 380 [some (vr 59), some (vi 0), some (vi i), none] [vi 200, vi i] sk_G (S, L, sk_J cu sp io rp tp fp) Q
  | 0, i, S, h0, hk, h => by
    have : i = 200 := by omega
    subst this
    have hq := hq S h
    refine AW_icge rfl (fun g => ?_) (fun g => by omega)
    refine AW_run 80 rfl ?_
    refine AW_iald rfl rfl ⟨by omega, by omega⟩ (by decide) ?_
    rw [h.1 63 (by decide)]
    exact AW_iret rfl rfl hq
  | k + 1, i, S, h0, hk, h => by
    have hb : sk_in (200 + i) := by unfold sk_in; omega
    have ih := c_M_copy2 I hq k (i + 1) _ (by omega) (by omega) (sk_c2_s h ⟨h0, by omega⟩)
    refine AW_icge rfl (fun g => by omega) (fun g => ?_)
    refine AW_run 80 rfl ?_
    refine AW_iald rfl rfl ⟨by omega, by omega⟩ (by decide) ?_
    refine AW_run 80 rfl ?_
    refine AW_iast rfl rfl ⟨by omega, by omega⟩ (by decide) ?_
    refine AW_run 80 rfl ?_
    refine AW_iald rfl rfl ⟨by omega, by omega⟩ (by decide) ?_
    (try simp only [sk_uI_s, sk_uI_o, sk_up_s, sk_up_o, sk_uL_s, sk_uL_o, ne_eq, Nat.reduceEqDiff, Nat.reduceAdd, Int.reduceEq, not_false_eq_true])
    refine AW_run 80 rfl ?_
    refine AW_iast rfl rfl ⟨by omega, by omega⟩ (by decide) ?_
    refine AW_run 80 rfl ?_
    refine AW_iald rfl rfl ⟨by omega, by omega⟩ (by decide) ?_
    (try simp only [sk_uI_s, sk_uI_o, sk_up_s, sk_up_o, sk_uL_s, sk_uL_o, ne_eq, Nat.reduceEqDiff, Nat.reduceAdd, Int.reduceEq, not_false_eq_true])
    refine AW_run 80 rfl ?_
    refine AW_iast rfl rfl ⟨by omega, by omega⟩ (by decide) ?_
    refine AW_run 80 rfl ?_
    refine AW_iald rfl rfl ⟨by omega, by omega⟩ (by decide) ?_
    (try simp only [sk_uI_s, sk_uI_o, sk_up_s, sk_up_o, sk_uL_s, sk_uL_o, ne_eq, Nat.reduceEqDiff, Nat.reduceAdd, Int.reduceEq, not_false_eq_true])
    refine AW_run 80 rfl ?_
    refine AW_iast rfl rfl ⟨by omega, by omega⟩ (by decide) ?_
    refine AW_run 80 rfl ?_
    refine AW_iald rfl rfl ⟨by omega, by omega⟩ (by decide) ?_
    (try simp only [sk_uI_s, sk_uI_o, sk_up_s, sk_up_o, sk_uL_s, sk_uL_o, ne_eq, Nat.reduceEqDiff, Nat.reduceAdd, Int.reduceEq, not_false_eq_true])
    refine AW_run 80 rfl ?_
    refine AW_iast rfl rfl ⟨by omega, by omega⟩ (by decide) ?_
    refine AW_run 80 rfl ?_
    refine AW_iald rfl rfl ⟨by omega, by omega⟩ (by decide) ?_
    (try simp only [sk_uI_s, sk_uI_o, sk_up_s, sk_up_o, sk_uL_s, sk_uL_o, ne_eq, Nat.reduceEqDiff, Nat.reduceAdd, Int.reduceEq, not_false_eq_true])
    refine AW_run 80 rfl ?_
    refine AW_iast rfl rfl ⟨by omega, by omega⟩ (by decide) ?_
    refine AW_run 80 rfl ?_
    refine AW_iald rfl rfl ⟨by omega, by omega⟩ (by decide) ?_
    (try simp only [sk_uI_s, sk_uI_o, sk_up_s, sk_up_o, sk_uL_s, sk_uL_o, ne_eq, Nat.reduceEqDiff, Nat.reduceAdd, Int.reduceEq, not_false_eq_true])
    refine AW_run 80 rfl ?_
    refine AW_iast rfl rfl ⟨by omega, by omega⟩ (by decide) ?_
    refine AW_run 80 rfl ?_
    exact ih
theorem c_M_copy1 (I : sk_SI) (hq : ∀ S1 S, sk_c1 I 20 S1 → sk_c2 S1 200 S → Q (some (vi (I 63 0))) sk_G (S, L, sk_J cu sp io rp tp fp)) : ∀ (k : Nat) (i : Int) (S : sk_SI), 0 ≤ i → i + k = 20 → sk_c1 I i S → AW l E d 0 0 mX10_program 335 [some (vr 59), some (vi 0), some (vi i), none] [vi 20, vi i] sk_G (S, L, sk_J cu sp io rp tp fp) Q
  | 0, i, S, h0, hk, h => by
    have : i = 20 := by omega
    subst this
    have e63 : S 63 = I 63 := h.1 63 (by decide) (by decide)
    have lp := c_M_copy2 (l := l) (E := E) (d := d) (L := L) (cu := cu) (sp := sp) (io := io) (rp := rp) (tp := tp) (fp := fp) (Q := Q) S (fun T hT => by rw [e63]; exact hq S T h hT) 200 0 S (by omega) (by omega) ⟨fun _ _ => rfl, fun c j _ => by rw [if_neg (by omega)]⟩
    refine AW_icge rfl (fun g => ?_) (fun g => by omega)
    refine AW_run 80 rfl ?_
    exact lp
  | k + 1, i, S, h0, hk, h => by
    have hb : sk_in (20 + i) := by unfold sk_in; omega
    have ih := c_M_copy1 I hq k (i + 1) _ (by omega) (by omega) (sk_c1_s h ⟨h0, by omega⟩)
    refine AW_icge rfl (fun g => by omega) (fun g => ?_)
    refine AW_run 80 rfl ?_
    refine AW_iald rfl rfl ⟨by omega, by omega⟩ (by decide) ?_
    refine AW_run 80 rfl ?_
    refine AW_iast rfl rfl ⟨by omega, by omega⟩ (by decide) ?_
    refine AW_run 80 rfl ?_
    refine AW_iald rfl rfl ⟨by omega, by omega⟩ (by decide) ?_
    (try simp only [sk_uI_s, sk_uI_o, sk_up_s, sk_up_o, sk_uL_s, sk_uL_o, ne_eq, Nat.reduceEqDiff, Nat.reduceAdd, Int.reduceEq, not_false_eq_true])
    refine AW_run 80 rfl ?_
    refine AW_iast rfl rfl ⟨by omega, by omega⟩ (by decide) ?_
    refine AW_run 80 rfl ?_
    exact ih
/-- the end of a sound text -/
theorem c_M_psnd (hp : sk_pg p) (C I I0 : sk_SI) (s : Int) (x : Option sk_V) (h : sk_MR t n p (-1) C I) (ho : sk_MO p C I) (hf : (∀ c, c ≠ 59 → ¬ (63 ≤ c ∧ c ≤ 74) → c ≠ 76 → I c = I0 c) ∧ (∀ j, j ≠ 2 → j ≠ 6 → ¬ (21 ≤ j ∧ j ≤ 27) → I 59 j = I0 59 j) ∧ I 59 2 = 0) (hq : ∀ I', sk_PS p C I0 I' → Q (some (vi (C p 9))) sk_G (I', L, sk_J cu sp io rp tp fp)) : AW l E d 0 0 mX10_program 268 [some (vr 59), some (vi 0), some (vi s), x] [vi 0] sk_G (sk_uI I 59 6 0, L, sk_J cu sp io rp tp fp) Q := by
  have e63 : I 63 1 = C p 9 := h.2.2.1.1
  have e66 : I 66 1 = C p 10 := h.2.2.1.2.1
  have e74 : I 74 1 = C p 11 := h.2.2.1.2.2
  have h9 := h.1.2.2.2.2.1
  have h10 := h.1.2.2.2.1
  have h25 := h.2.1.2.1.2.2.2.2
  have lp : ∀ T, T = sk_uI (sk_uI (sk_uI (sk_uI (sk_uI (sk_uI (sk_uI I 59 6 0) 59 7 1) 59 50 0) 59 59 0) 63 0 (I 63 1)) 66 0 (I 66 1)) 74 0 (I 74 1) → AW l E d 0 0 mX10_program 335 [some (vr 59), some (vi 0), some (vi 0), none] [vi 20, vi 0] sk_G (T, L, sk_J cu sp io rp tp fp) Q := by
    intro T hT
    have to : ∀ c, c ≠ 59 → c ≠ 63 → c ≠ 66 → c ≠ 74 → T c = I c := fun c c1 c2 c3 c4 => by rw [hT, sk_uI_o c4, sk_uI_o c3, sk_uI_o c2, sk_uI_o c1, sk_uI_o c1, sk_uI_o c1, sk_uI_o c1]
    have t63 : T 63 0 = C p 9 := by rw [hT, sk_uI_o (by decide), sk_uI_o (by decide), sk_uI_s, sk_up_s, e63]
    have t66 : T 66 0 = C p 10 := by rw [hT, sk_uI_o (by decide), sk_uI_s, sk_up_s, e66]
    have t74 : T 74 0 = C p 11 := by rw [hT, sk_uI_s, sk_up_s, e74]
    have t59 : ∀ j, j ≠ 6 → j ≠ 7 → j ≠ 50 → j ≠ 59 → T 59 j = I 59 j := fun j j1 j2 j3 j4 => by rw [hT, sk_uI_o (by decide), sk_uI_o (by decide), sk_uI_o (by decide), sk_uI_s, sk_up_o j4, sk_uI_s, sk_up_o j3, sk_uI_s, sk_up_o j2, sk_uI_s, sk_up_o j1]
    have t6 : T 59 6 = 0 := by rw [hT, sk_uI_o (by decide), sk_uI_o (by decide), sk_uI_o (by decide), sk_uI_s, sk_up_o (by decide), sk_uI_s, sk_up_o (by decide), sk_uI_s, sk_up_o (by decide), sk_uI_s, sk_up_s]
    have t7 : T 59 7 = 1 := by rw [hT, sk_uI_o (by decide), sk_uI_o (by decide), sk_uI_o (by decide), sk_uI_s, sk_up_o (by decide), sk_uI_s, sk_up_o (by decide), sk_uI_s, sk_up_s]
    have t50 : T 59 50 = 0 := by rw [hT, sk_uI_o (by decide), sk_uI_o (by decide), sk_uI_o (by decide), sk_uI_s, sk_up_o (by decide), sk_uI_s, sk_up_s]
    have tt : T 59 59 = 0 := by rw [hT, sk_uI_o (by decide), sk_uI_o (by decide), sk_uI_o (by decide), sk_uI_s, sk_up_s]
    refine c_M_copy1 T (fun S1 S k1 k2 => ?_) 20 0 T (by omega) (by omega) ⟨fun _ _ _ => rfl, fun c j _ => by rw [if_neg (by omega)]⟩
    rw [t63]
    have so : ∀ c, ¬ (64 ≤ c ∧ c ≤ 65) → ¬ (67 ≤ c ∧ c ≤ 73) → S c = T c := fun c c1 c2 => by rw [k2.1 c c2, k1.1 c (by omega) (by omega)]
    have s59 : S 59 = T 59 := so 59 (by omega) (by omega)
    refine hq S ⟨fun c c1 c2 c3 => ?_, fun j j0 j1 => ?_, ?_, fun m m0 m1 => ?_, fun j j1 j2 j3 j4 j5 j6 => ?_, ?_, ?_⟩
    · rw [so c (by omega) (by omega), to c c1 (by omega) (by omega) (by omega), hf.1 c c1 c2 c3]
    · have row : ∀ c, 67 ≤ c ∧ c ≤ 73 → S c j = I c (200 + j) := fun c hc => by
        rw [k2.2 c j hc, if_pos (by omega), k1.1 c (by omega) (by omega), to c (by omega) (by omega) (by omega) (by omega)]
      rw [row 67 (by omega), row 68 (by omega), row 69 (by omega), row 70 (by omega), row 71 (by omega), row 72 (by omega), row 73 (by omega)]
      exact (h.2.2.2 j j0 j1).1
    · rw [so 63 (by omega) (by omega), so 66 (by omega) (by omega), so 74 (by omega) (by omega)]
      exact ⟨t63, t66, t74⟩
    · have row : ∀ c, c = 64 ∨ c = 65 → S c m = I c (20 + m) := fun c hc => by
        rw [k2.1 c (by omega), k1.2 c m hc, if_pos (by omega), to c (by omega) (by omega) (by omega) (by omega)]
      rw [row 64 (by omega), row 65 (by omega)]
      exact ho m m0 m1
    · rw [s59, t59 j j2 j3 j4 j5, hf.2.1 j j1 j2 j6]
    · rw [s59]
      exact ⟨by rw [t59 2 (by decide) (by decide) (by decide) (by decide)]; exact hf.2.2, t6, t7, t50, tt⟩
    · rw [s59, t59 25 (by decide) (by decide) (by decide) (by decide)]
      exact h25
  have lp := lp _ rfl
  refine AW_lk (ls' := [some (vr 59), some (vi 0), some (vi s), none]) ?_ ⟨rfl, rfl, rfl, trivial⟩
  first | refine AW_e1 rfl ?_ | refine AW_e0 rfl ?_ | refine AW_n1 rfl ?_ | refine AW_n0 rfl ?_
  refine AW_run 80 rfl ?_
  refine AW_putZ rfl rfl (Or.inr rfl) ?_
  refine AW_run 80 rfl ?_
  refine AW_putZ rfl rfl (Or.inl rfl) ?_
  refine AW_run 80 rfl ?_
  refine AW_putZ rfl rfl (Or.inl rfl) ?_
  refine AW_run 80 rfl ?_
  refine AW_iald rfl rfl ⟨by omega, by omega⟩ (by decide) ?_
  (try simp only [sk_uI_s, sk_uI_o, sk_up_s, sk_up_o, sk_uL_s, sk_uL_o, ne_eq, Nat.reduceEqDiff, Nat.reduceAdd, Int.reduceEq, not_false_eq_true])
  refine AW_run 80 rfl ?_
  refine AW_iast rfl rfl ⟨by omega, by omega⟩ (by decide) ?_
  refine AW_run 80 rfl ?_
  refine AW_iald rfl rfl ⟨by omega, by omega⟩ (by decide) ?_
  (try simp only [sk_uI_s, sk_uI_o, sk_up_s, sk_up_o, sk_uL_s, sk_uL_o, ne_eq, Nat.reduceEqDiff, Nat.reduceAdd, Int.reduceEq, not_false_eq_true])
  refine AW_run 80 rfl ?_
  refine AW_iast rfl rfl ⟨by omega, by omega⟩ (by decide) ?_
  refine AW_run 80 rfl ?_
  refine AW_iald rfl rfl ⟨by omega, by omega⟩ (by decide) ?_
  (try simp only [sk_uI_s, sk_uI_o, sk_up_s, sk_up_o, sk_uL_s, sk_uL_o, ne_eq, Nat.reduceEqDiff, Nat.reduceAdd, Int.reduceEq, not_false_eq_true])
  refine AW_run 80 rfl ?_
  refine AW_iast rfl rfl ⟨by omega, by omega⟩ (by decide) ?_
  refine AW_run 80 rfl ?_
  exact lp
end SKS8
