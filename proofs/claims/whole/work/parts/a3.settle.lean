/-! ===== what holds between walks ===== -/
def sf_G (I : sk_SI) (TT : Int → sk_Tb) : sk_Or := fun m T x => ∃ q, 0 ≤ q ∧ q < I 48 12 ∧ I 49 q = m ∧ TT q = T ∧ sf_b (I 51 q) x
/-- a pair whose walk tells nothing new -/
def sf_fs (p : Nat) (C : sk_SI) (I : sk_SI) (L : sk_SL) (TT : Int → sk_Tb) (q : Int) : Prop := (∀ x, sk_WB p C (sf_G I TT) 300 (TT q) (C (p + 2) (I 49 q)) x → sf_b (I 51 q) x) ∧ ∀ t T', sk_VB p C (sf_G I TT) 300 (TT q) (C (p + 2) (I 49 q)) t T' → sf_vs p C q I L TT t T'
def sf_jv (p : Nat) (C : sk_SI) (rm : Int) (rT : sk_Tb) (I : sk_SI) (L : sk_SL) (TT : Int → sk_Tb) : Prop := sf_fr C I ∧ sf_st p I L TT ∧ (1 ≤ I 48 12 ∧ I 49 0 = rm ∧ TT 0 = rT) ∧ (I 48 14 = 0 ∨ I 48 14 = 1) ∧ (I 48 14 = 0 → sf_wi p C rm rT I TT ∧ ∀ q, 0 ≤ q → q < I 48 12 → I 52 q = 0 → sf_fs p C I L TT q) ∧ (I 48 14 = 1 → sf_tm p C rm rT)
/-- how much there is still to do, at most -/
def sf_po3 (c : Int) : Int := c % 2 + c / 2 % 2 + c / 4 % 2
def sf_mu (I : sk_SI) : Int := sk_sum (I 52) (I 48 12).toNat + (300 - I 48 12) + 301 * (900 - sk_sum (fun q => sf_po3 (I 51 q)) (I 48 12).toNat)
theorem sk_sum_up {f : Int → Int} {q c : Int} (hq : 0 ≤ q) : ∀ n : Nat, q < n → sk_sum (sk_up f q c) n = sk_sum f n - f q + c
  | 0, h => by omega
  | n + 1, h => by
    unfold sk_sum
    by_cases e : q = n
    · subst e
      rw [sk_up_s, sk_sum_cg (g := f) n (fun i a b => sk_up_o (by omega))]
      omega
    · rw [sk_sum_up hq n (by omega), sk_up_o (fun z => e z.symm)]
      omega
theorem sk_sum_ext {f : Int → Int} {c : Int} {n : Nat} : ∀ k : Nat, (∀ i, (n : Int) ≤ i → i < n + k → f i = c) → sk_sum f (n + k) = sk_sum f n + c * k
  | 0, _ => by simp
  | k + 1, h => by
    have := sk_sum_ext (f := f) (c := c) (n := n) k (fun i a b => h i a (by omega))
    rw [show n + (k + 1) = (n + k) + 1 by omega, sk_sum, this, h _ (by omega) (by omega)]
    rw [show ((k + 1 : Nat) : Int) = (k : Int) + 1 by omega, Int.mul_add]
    omega
theorem sk_sum_bd {f : Int → Int} {a b : Int} : ∀ n : Nat, (∀ i : Int, 0 ≤ i → i < n → a ≤ f i ∧ f i ≤ b) → a * n ≤ sk_sum f n ∧ sk_sum f n ≤ b * n
  | 0, _ => by simp [sk_sum]
  | n + 1, h => by
    have h1 := sk_sum_bd n (fun i x y => h i x (by omega))
    have h2 := h n (by omega) (by omega)
    unfold sk_sum
    rw [show ((n + 1 : Nat) : Int) = (n : Int) + 1 by omega, Int.mul_add, Int.mul_add]
    omega
theorem sf_po3_b {c : Int} (h : 0 ≤ c ∧ c ≤ 7) : 0 ≤ sf_po3 c ∧ sf_po3 c ≤ 3 := by
  unfold sf_po3
  omega
theorem sf_po3_t : ∀ a, a < 8 → ∀ b, b < 8 → sk_or ((a : Nat) : Int) ((b : Nat) : Int) ≠ (a : Int) → sf_po3 (a : Int) + 1 ≤ sf_po3 (sk_or ((a : Nat) : Int) ((b : Nat) : Int)) := by decide +kernel
theorem sf_po3_or {a b : Int} (ha : 0 ≤ a ∧ a ≤ 7) (hb : 0 ≤ b ∧ b ≤ 7) (h : sk_or a b ≠ a) : sf_po3 a + 1 ≤ sf_po3 (sk_or a b) := by
  obtain ⟨n, rfl⟩ := Int.eq_ofNat_of_zero_le ha.1
  obtain ⟨k, rfl⟩ := Int.eq_ofNat_of_zero_le hb.1
  exact sf_po3_t n (by omega) k (by omega) h
section SKFf
variable {p : Nat} {C : sk_SI} {rm q dp v : Int} {rT : sk_Tb} {I I3 I5 : sk_SI} {L L3 : sk_SL} {TT T3 : Int → sk_Tb}
/-- a pair is walked: its bits come, its callers are to be walked again -/
theorem sf_jv_step (hp : sk_pg p) (hq : 0 ≤ q ∧ q < I 48 12) (hJ : sf_jv p C rm rT I L TT) (h14 : I 48 14 = 0) (h3 : sf_po p C rm rT (sf_G I TT) q 0 (sk_uI (sk_uI I 52 q 0) 48 13 q) L TT (sk_WB p C (sf_G I TT) 300 (TT q) (C (p + 2) (I 49 q))) (sk_VB p C (sf_G I TT) 300 (TT q) (C (p + 2) (I 49 q))) v I3 L3 T3) (e : ∀ c, c ≠ 51 → c ≠ 52 → I5 c = I3 c) (e51 : I5 51 = sk_up (I3 51) q (sk_or (I 51 q) v)) (e52 : ∀ j, 0 ≤ j → j < I3 48 12 → (I5 52 j = I3 52 j ∨ I5 52 j = 1)) (e52' : sk_or (I 51 q) v ≠ I 51 q → ∀ j, 0 ≤ j → j < I3 48 12 → sf_cb L3 q j → I5 52 j = 1) : sf_jv p C rm rT I5 L3 T3 := by
  obtain ⟨j1, j2, j3, j4, j5, -⟩ := hJ
  obtain ⟨j5, j6⟩ := j5 h14
  obtain ⟨i3, g3, r3, x3⟩ := h3
  obtain ⟨f1, ⟨f2, f3, f4, f5⟩, f6, f7, f8, f9⟩ := i3
  have n3 := f2.1
  have k12 : sk_uI (sk_uI I 52 q 0) 48 13 q 48 12 = I 48 12 := by rw [sk_uI_s, sk_up_o (by decide), sk_uI_o (by decide)]
  have k49 : sk_uI (sk_uI I 52 q 0) 48 13 q 49 = I 49 := by rw [sk_uI_o (by decide), sk_uI_o (by decide)]
  have k51 : sk_uI (sk_uI I 52 q 0) 48 13 q 51 = I 51 := by rw [sk_uI_o (by decide), sk_uI_o (by decide)]
  have k57 : sk_uI (sk_uI I 52 q 0) 48 13 q 57 = I 57 := by rw [sk_uI_o (by decide), sk_uI_o (by decide)]
  have k58 : sk_uI (sk_uI I 52 q 0) 48 13 q 58 = I 58 := by rw [sk_uI_o (by decide), sk_uI_o (by decide)]
  have k52 : ∀ j, j ≠ q → sk_uI (sk_uI I 52 q 0) 48 13 q 52 j = I 52 j := fun j hj => by rw [sk_uI_o (by decide), sk_uI_s, sk_up_o hj]
  obtain ⟨g1, g2, g4, g5, g6, g7⟩ := g3
  rw [k12] at g1 g4
  have g2' : ∀ j, 0 ≤ j → j < I 48 12 → I3 49 j = I 49 j ∧ T3 j = TT j ∧ I3 51 j = I 51 j ∧ (j ≠ q → I3 52 j = I 52 j) ∧ ∀ a, 0 ≤ a ∧ a < 300 → sf_cb L j a → sf_cb L3 j a := fun j a b => by
    obtain ⟨x1, x2, x3, x4, x5⟩ := g2 j a (by rw [k12]; exact b)
    rw [k49] at x1
    rw [k51] at x3
    exact ⟨x1, x2, x3, fun z => by rw [x4, k52 j z], x5⟩
  have q3 := g2' q hq.1 hq.2
  have qc := (f2.2 q hq.1 (by omega)).2.2.2.2.1
  rw [q3.2.2.1] at qc
  obtain ⟨o1, o2⟩ := sf_or_b qc r3
  have e48 : I5 48 = I3 48 := e 48 (by decide) (by decide)
  have e49 : I5 49 = I3 49 := e 49 (by decide) (by decide)
  have e54 : I5 54 = I3 54 := e 54 (by decide) (by decide)
  have e55 : I5 55 = I3 55 := e 55 (by decide) (by decide)
  have e57 : I5 57 = I3 57 := e 57 (by decide) (by decide)
  have e58 : I5 58 = I3 58 := e 58 (by decide) (by decide)
  have ep : I5 p = I3 p := e p (by rcases hp with rfl | rfl <;> decide) (by rcases hp with rfl | rfl <;> decide)
  have n5 : I5 48 12 = I3 48 12 := by rw [e48]
  have c5 : ∀ j, 0 ≤ j → j < I3 48 12 → j ≠ q → I5 51 j = I3 51 j := fun j a b c => by rw [e51, sk_up_o c]
  have cq : I5 51 q = sk_or (I 51 q) v := by rw [e51, sk_up_s]
  have st : sf_st p I5 L3 T3 := by
    refine ⟨⟨by rw [n5]; exact n3, fun j a b => ?_⟩, ?_, ?_, ?_⟩
    · rw [n5] at b
      obtain ⟨a1, a2, a3, a4, a5, a6⟩ := f2.2 j a b
      rw [e49, ep]
      refine ⟨a1, a2, a3, a4, ?_, ?_⟩
      · by_cases z : j = q
        · subst z; rw [cq]; exact o1
        · rw [c5 j a b z]; exact a5
      · rcases e52 j a b with z | z
        · rw [z]; exact a6
        · exact Or.inr z
    · unfold sf_od; rw [n5, e49, e54]; exact f3
    · unfold sf_ct; rw [n5, e49, e55]; exact f4
    · unfold sf_zo; rw [e57, e58]; exact f5
  refine ⟨fun c a b c' d f g h i => by rw [e c c' d]; exact f1 c a b c' d f g h i, st, ⟨by omega, by rw [e49, (g2' 0 (by omega) (by omega)).1]; exact j3.2.1, by rw [(g2' 0 (by omega) (by omega)).2.1]; exact j3.2.2⟩, by rw [e48]; exact f7, fun z => ?_, fun z => f9 (by rw [e48] at z; exact z)⟩
  rw [e48] at z
  obtain ⟨go, wi⟩ := f8 z
  obtain ⟨xb, xv⟩ := x3 z
  have go5 : ∀ m T x, sf_G I TT m T x → sf_G I5 T3 m T x := by
    rintro m T x ⟨j, a, b, c, d, f⟩
    obtain ⟨y1, y2, y3, y4, y5⟩ := g2' j a b
    refine ⟨j, a, by omega, by rw [e49, y1, c], by rw [y2, d], ?_⟩
    by_cases w : j = q
    · subst w; rw [cq, o2 x]; exact Or.inl f
    · rw [c5 j a (by omega) w, y3]; exact f
  refine ⟨fun A G P O hc => ⟨fun j a b => ?_, ?_⟩, fun j a b hst => ?_⟩
  · rw [n5] at b
    rw [e49]
    obtain ⟨y1, y2⟩ := (wi A G P O hc).1 j a b
    refine ⟨y1, fun x hb => ?_⟩
    by_cases w : j = q
    · subst w
      rw [cq, o2 x, ← q3.2.2.1] at hb
      rcases hb with hb | hb
      · exact y2 x hb
      · have up : ∀ m T x, sf_G I TT m T x → G m T x := fun m T x hg => by
          obtain ⟨i, i0, i1, i2, i3, i4⟩ := (go m T x).mp hg
          have := ((wi A G P O hc).1 i i0 i1).2 x i4
          rw [i2, i3] at this
          exact this
        have w1 := sk_WB_mono (p := p) (C := C) up 300 _ _ _ ((xb x).mp hb)
        rw [← q3.1, ← q3.2.1] at w1
        exact (hc.2 _ _ y1).1 x (sf_b_x hb) w1
    · rw [c5 j a b w] at hb
      exact y2 x hb
  · rw [e57, e58]
    exact (wi A G P O hc).2
  · rw [n5] at b
    have s0 : I3 52 j = 0 := by
      rcases e52 j a b with w | w
      · rw [← w]; exact hst
      · omega
    have jn : j < I 48 12 := by
      apply Classical.byContradiction
      intro w
      have := (g4 j (by omega) b).2
      omega
    obtain ⟨y1, y2, y3, y4, y5⟩ := g2' j a jn
    -- the walk of j under the oracle before
    have bef : (∀ x, sk_WB p C (sf_G I TT) 300 (TT j) (C (p + 2) (I 49 j)) x → sf_b (I5 51 j) x) ∧ ∀ t T', sk_VB p C (sf_G I TT) 300 (TT j) (C (p + 2) (I 49 j)) t T' → sf_vs p C j I3 L3 T3 t T' := by
      by_cases w : j = q
      · subst w
        exact ⟨fun x hx => by rw [cq, o2 x]; exact Or.inr ((xb x).mpr hx), xv⟩
      · obtain ⟨u1, u2⟩ := j6 j a jn (by rw [← y4 w]; exact s0)
        refine ⟨fun x hx => by rw [c5 j a b w, y3]; exact u1 x hx, fun t T' ht => ?_⟩
        obtain ⟨h0, h1, h2, h3⟩ := u2 t T' ht
        refine ⟨h0, (g5 t).1 (by rw [k57]; exact h1), fun z1 z2 => (g5 t).2 (by rw [k58]; exact h2 z1 z2), fun z1 => ?_⟩
        obtain ⟨i, i0, i1, i2, i3, i4⟩ := h3 z1
        obtain ⟨b1, b2, b3, b4, b5⟩ := g2' i i0 i1
        exact ⟨i, i0, by omega, by rw [b1, i2], by rw [b2, i3], b5 j (by omega) i4⟩
    have agr := sk_B_agr (p := p) (C := C) (G := sf_G I TT) (G' := sf_G I5 T3) 300 (TT j) (C (p + 2) (I 49 j)) (fun t T' ht hw x => by
      obtain ⟨h0, h1, h2, h3⟩ := bef.2 t T' ht
      obtain ⟨i, i0, i1, i2, i3, i4⟩ := h3 hw
      have g1' := sf_go_q (m := C (p + 5) t) (B := sk_cT p C (C (p + 5) t) T') go f3 ⟨i0, i1⟩ i2 i3 x
      have g2'' := sf_go_q (Go := sf_G I5 T3) (I := I5) (TT := T3) (m := C (p + 5) t) (B := sk_cT p C (C (p + 5) t) T') (fun _ _ _ => Iff.rfl) st.2.1 ⟨i0, by rw [n5]; exact i1⟩ (by rw [e49]; exact i2) i3 x
      rw [g1', g2'']
      by_cases w : i = q
      · subst w
        by_cases ch : sk_or (I 51 i) v = I 51 i
        · rw [cq, ch, q3.2.2.1]
        · have := e52' ch j a b i4
          omega
      · rw [c5 i i0 i1 w])
    unfold sf_fs
    rw [e49, y1, y2]
    refine ⟨fun x hx => bef.1 x ((agr.1 x).mpr hx), fun t T' ht => ?_⟩
    obtain ⟨h0, h1, h2, h3⟩ := bef.2 t T' ((agr.2 t T').mpr ht)
    refine ⟨h0, by rw [e57]; exact h1, fun z1 z2 => by rw [e58]; exact h2 z1 z2, fun z1 => ?_⟩
    rw [n5, e49]
    exact h3 z1
end SKFf
