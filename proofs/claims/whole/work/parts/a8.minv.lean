/-! ===== what holds while the model walks ===== -/
def sg_ht (f : Int → Int) (b : Int) (T : sk_Tb) : Prop := ∀ r, 0 ≤ r → r < 80 → f (b + r) = T r
def sg_b (I : sk_SI) (q x : Int) : Prop := (x = 1 ∧ I 93 q = 1) ∨ (x = 4 ∧ I 94 q = 1) ∨ (x = 2 ∧ I 95 q = 1)
def sg_v (v x : Int) : Prop := (x = 1 ∧ v % 2 = 1) ∨ (x = 4 ∧ v / 2 % 2 = 1) ∨ (x = 2 ∧ v / 4 % 2 = 1)
def sg_fr (I0 I : sk_SI) : Prop := (∀ c, c ≠ 59 → ¬ (91 ≤ c ∧ c ≤ 99) → I c = I0 c) ∧ ∀ j, j ≠ 60 → j ≠ 70 → j ≠ 71 → I 59 j = I0 59 j
def sg_pr (p : Nat) (C I : sk_SI) (TT : Int → sk_Tb) : Prop := (0 ≤ I 59 60 ∧ I 59 60 ≤ 300) ∧ ∀ q, 0 ≤ q → q < I 59 60 → (0 ≤ I 91 q ∧ I 91 q < C p 9) ∧ sk_t8 (TT q) ∧ sf_cn (TT q) ∧ sg_ht (I 92) (80 * q) (TT q) ∧ (I 93 q = 0 ∨ I 93 q = 1) ∧ (I 94 q = 0 ∨ I 94 q = 1) ∧ (I 95 q = 0 ∨ I 95 q = 1)
def sg_di (I : sk_SI) (TT : Int → sk_Tb) : Prop := ∀ q q', 0 ≤ q → q < I 59 60 → 0 ≤ q' → q' < I 59 60 → I 91 q = I 91 q' → TT q = TT q' → q = q'
def sg_zo (I : sk_SI) : Prop := ∀ s, 0 ≤ s → s < 200 → (I 98 s = 0 ∨ I 98 s = 1) ∧ (I 99 s = 0 ∨ I 99 s = 1)
def sg_st (p : Nat) (C I : sk_SI) (TT : Int → sk_Tb) : Prop := sg_pr p C I TT ∧ sg_di I TT ∧ sg_zo I
def sg_G (I : sk_SI) (TT : Int → sk_Tb) : sk_Or := fun m T x => ∃ q, 0 ≤ q ∧ q < I 59 60 ∧ I 91 q = m ∧ TT q = T ∧ sg_b I q x
def sg_go (Go : sk_Or) (I : sk_SI) (TT : Int → sk_Tb) : Prop := ∀ m T x, Go m T x ↔ sg_G I TT m T x
def sg_in (I : sk_SI) (TT : Int → sk_Tb) (A : Int → sk_Tb → Prop) (G : sk_Or) (P O : Int → Prop) : Prop := (∀ q, 0 ≤ q → q < I 59 60 → A (I 91 q) (TT q) ∧ ∀ x, sg_b I q x → G (I 91 q) (TT q) x) ∧ ∀ s, 0 ≤ s → s < 200 → (I 98 s = 1 → P s) ∧ (I 99 s = 1 → O s)
def sg_wi (p : Nat) (C : sk_SI) (rm : Int) (rT : sk_Tb) (I : sk_SI) (TT : Int → sk_Tb) : Prop := ∀ A G P O, sk_clo p C rm rT A G P O → sg_in I TT A G P O
def sg_iv (p : Nat) (C : sk_SI) (rm : Int) (rT : sk_Tb) (Go : sk_Or) (I0 I : sk_SI) (TT : Int → sk_Tb) : Prop := sg_fr I0 I ∧ sg_st p C I TT ∧ (I 59 70 = 0 ∨ I 59 70 = 1) ∧ (I 59 71 = 0 ∨ I 59 71 = 1) ∧ (I 59 70 = 0 → sg_go Go I TT ∧ sg_wi p C rm rT I TT) ∧ (I 59 70 = 1 → sf_tm p C rm rT ∧ I 59 60 = 300)
def sg_N (I : sk_SI) : Int := I 59 60 + sk_sum (I 98) 200 + sk_sum (I 99) 200
def sg_gr (dp : Int) (I : sk_SI) (TT : Int → sk_Tb) (I' : sk_SI) (TT' : Int → sk_Tb) : Prop := I 59 60 ≤ I' 59 60 ∧ (∀ q, 0 ≤ q → q < I 59 60 → I' 91 q = I 91 q ∧ TT' q = TT q ∧ I' 93 q = I 93 q ∧ I' 94 q = I 94 q ∧ I' 95 q = I 95 q) ∧ (∀ q, I 59 60 ≤ q → q < I' 59 60 → I' 93 q = 0 ∧ I' 94 q = 0 ∧ I' 95 q = 0) ∧ (∀ s, (I 98 s = 1 → I' 98 s = 1) ∧ (I 99 s = 1 → I' 99 s = 1)) ∧ (I 59 70 = 1 → I' 59 70 = 1) ∧ (∀ i, i < 80 * (dp + 1) → I' 96 i = I 96 i) ∧ (I 59 71 = 1 → I' 59 71 = 1) ∧ sg_N I ≤ sg_N I' ∧ (I 59 71 = 0 → I' 59 71 = 1 → sg_N I + 1 ≤ sg_N I') ∧ (I' 59 71 = 0 → I' 59 60 = I 59 60 ∧ ∀ s, 0 ≤ s → s < 200 → I' 98 s = I 98 s ∧ I' 99 s = I 99 s)
def sg_vs (p : Nat) (C : sk_SI) (I : sk_SI) (TT : Int → sk_Tb) (t : Int) (T' : sk_Tb) : Prop := (0 ≤ t ∧ t < C p 10) ∧ I 98 t = 1 ∧ (C (p + 3) t = 0 → sk_rT p C t T' ≠ -1 → I 99 t = 1) ∧ (C (p + 3) t = 1 → ∃ q, 0 ≤ q ∧ q < I 59 60 ∧ I 91 q = C (p + 5) t ∧ TT q = sk_cT p C (C (p + 5) t) T')
def sg_po (p : Nat) (C : sk_SI) (rm : Int) (rT : sk_Tb) (Go : sk_Or) (I0 : sk_SI) (dp : Int) (I : sk_SI) (TT : Int → sk_Tb) (W : Int → Prop) (V : Int → sk_Tb → Prop) (v : Int) (I' : sk_SI) (TT' : Int → sk_Tb) : Prop := sg_iv p C rm rT Go I0 I' TT' ∧ sg_gr dp I TT I' TT' ∧ (0 ≤ v ∧ v ≤ 7) ∧ (I' 59 70 = 0 → (∀ x, sg_v v x ↔ W x) ∧ ∀ t T', V t T' → sg_vs p C I' TT' t T')
theorem sg_or_b {a b : Int} (ha : 0 ≤ a ∧ a ≤ 7) (hb : 0 ≤ b ∧ b ≤ 7) : (0 ≤ sk_or a b ∧ sk_or a b ≤ 7) ∧ ∀ x, sg_v (sk_or a b) x ↔ (sg_v a x ∨ sg_v b x) := by
  obtain ⟨n, rfl⟩ := Int.eq_ofNat_of_zero_le ha.1
  obtain ⟨k, rfl⟩ := Int.eq_ofNat_of_zero_le hb.1
  obtain ⟨t1, t2, t3, t4⟩ := sf_or_t n (by omega) k (by omega)
  refine ⟨t1, fun x => ?_⟩
  unfold sg_v
  rw [t2, t3, t4]
  constructor
  · rintro (⟨h, g | g⟩ | ⟨h, g | g⟩ | ⟨h, g | g⟩)
    · exact Or.inl (Or.inl ⟨h, g⟩)
    · exact Or.inr (Or.inl ⟨h, g⟩)
    · exact Or.inl (Or.inr (Or.inl ⟨h, g⟩))
    · exact Or.inr (Or.inr (Or.inl ⟨h, g⟩))
    · exact Or.inl (Or.inr (Or.inr ⟨h, g⟩))
    · exact Or.inr (Or.inr (Or.inr ⟨h, g⟩))
  · rintro ((⟨h, g⟩ | ⟨h, g⟩ | ⟨h, g⟩) | (⟨h, g⟩ | ⟨h, g⟩ | ⟨h, g⟩))
    · exact Or.inl ⟨h, Or.inl g⟩
    · exact Or.inr (Or.inl ⟨h, Or.inl g⟩)
    · exact Or.inr (Or.inr ⟨h, Or.inl g⟩)
    · exact Or.inl ⟨h, Or.inr g⟩
    · exact Or.inr (Or.inl ⟨h, Or.inr g⟩)
    · exact Or.inr (Or.inr ⟨h, Or.inr g⟩)
theorem sg_cl1 {a : Int} (ha : 0 ≤ a ∧ a ≤ 7) : (0 ≤ sk_and a (-2) ∧ sk_and a (-2) ≤ 7) ∧ ∀ x, sg_v (sk_and a (-2)) x ↔ (x ≠ 1 ∧ sg_v a x) := by
  rw [(sf_and_b ha).1]
  refine ⟨by omega, fun x => ?_⟩
  unfold sg_v
  omega
theorem sg_cl2 {a : Int} (ha : 0 ≤ a ∧ a ≤ 7) : (0 ≤ sk_and a (-5) ∧ sk_and a (-5) ≤ 7) ∧ ∀ x, sg_v (sk_and a (-5)) x ↔ (x ≠ 2 ∧ sg_v a x) := by
  rw [(sf_and_b ha).2.2.1]
  refine ⟨by omega, fun x => ?_⟩
  unfold sg_v
  omega
theorem sg_t1 {a : Int} (ha : 0 ≤ a ∧ a ≤ 7) : (sk_and a 1 = 0 ∨ sk_and a 1 = 1) ∧ (sk_and a 1 = 0 ↔ ¬ sg_v a 1) := by
  rw [(sf_and_b ha).2.2.2.1]
  unfold sg_v
  omega
theorem sg_t4 {a : Int} (ha : 0 ≤ a ∧ a ≤ 7) : (0 ≤ sk_and a 4 ∧ sk_and a 4 ≤ 7) ∧ (sk_and a 4 = 0 ↔ ¬ sg_v a 2) := by
  rw [(sf_and_b ha).2.2.2.2.2.1]
  unfold sg_v
  omega
theorem sg_t2 {a : Int} (ha : 0 ≤ a ∧ a ≤ 7) : (0 ≤ sk_and a 2 ∧ sk_and a 2 ≤ 7) ∧ (sk_and a 2 = 0 ↔ ¬ sg_v a 4) := by
  rw [(sf_and_b ha).2.2.2.2.1]
  unfold sg_v
  omega
theorem sg_v_1 (x : Int) : sg_v 1 x ↔ x = 1 := by unfold sg_v; omega
theorem sg_v_2 (x : Int) : sg_v 2 x ↔ x = 4 := by unfold sg_v; omega
theorem sg_v_4 (x : Int) : sg_v 4 x ↔ x = 2 := by unfold sg_v; omega
section SKG3
variable {p : Nat} {C : sk_SI} {rm dp m : Int} {rT B : sk_Tb} {Go : sk_Or} {I0 I I1 I2 : sk_SI} {TT T1 T2 : Int → sk_Tb}
theorem sg_q1 (h : sk_q1 p C I0) (f : sg_fr I0 I) : sk_q1 p C I := by
  unfold sk_q1
  rw [f.1 64 (by decide) (by decide), f.1 65 (by decide) (by decide), f.1 67 (by decide) (by decide), f.1 68 (by decide) (by decide), f.1 69 (by decide) (by decide), f.1 70 (by decide) (by decide), f.1 71 (by decide) (by decide), f.1 72 (by decide) (by decide), f.1 73 (by decide) (by decide), f.1 61 (by decide) (by decide), f.1 62 (by decide) (by decide), f.2 5 (by decide) (by decide) (by decide)]
  exact h
theorem sg_gr_rf (dp : Int) (I : sk_SI) (TT : Int → sk_Tb) : sg_gr dp I TT I TT := ⟨Int.le_refl _, fun _ _ _ => ⟨rfl, rfl, rfl, rfl, rfl⟩, fun q a b => by omega, fun _ => ⟨id, id⟩, id, fun _ _ => rfl, id, Int.le_refl _, fun a b => by omega, fun _ => ⟨rfl, fun _ _ _ => ⟨rfl, rfl⟩⟩⟩
theorem sg_gr_tr (h0 : 0 ≤ I 59 60) (hn : I1 59 71 = 0 ∨ I1 59 71 = 1) (h1 : sg_gr dp I TT I1 T1) (h2 : sg_gr dp I1 T1 I2 T2) : sg_gr dp I TT I2 T2 := by
  obtain ⟨a1, a2, a3, a4, a5, a6, a7, a8, a9, a10⟩ := h1
  obtain ⟨b1, b2, b3, b4, b5, b6, b7, b8, b9, b10⟩ := h2
  refine ⟨by omega, fun q q0 q1 => ?_, fun q q0 q1 => ?_, fun s => ⟨fun z => (b4 s).1 ((a4 s).1 z), fun z => (b4 s).2 ((a4 s).2 z)⟩, fun z => b5 (a5 z), fun i hi => (b6 i hi).trans (a6 i hi), fun z => b7 (a7 z), by omega, fun z y => ?_, fun z => ?_⟩
  · obtain ⟨x1, x2, x3, x4, x5⟩ := a2 q q0 q1
    obtain ⟨y1, y2, y3, y4, y5⟩ := b2 q q0 (by omega)
    exact ⟨y1.trans x1, y2.trans x2, y3.trans x3, y4.trans x4, y5.trans x5⟩
  · by_cases g : q < I1 59 60
    · obtain ⟨y1, y2, y3, y4, y5⟩ := b2 q (by omega) g
      rw [y3, y4, y5]
      exact a3 q q0 g
    · exact b3 q (by omega) q1
  · rcases hn with w | w
    · have := b9 w y
      omega
    · have := a9 z w
      omega
  · have w : I1 59 71 = 0 := by
      rcases hn with w | w
      · exact w
      · have := b7 w
        omega
    obtain ⟨c1, c2⟩ := a10 w
    obtain ⟨d1, d2⟩ := b10 z
    exact ⟨d1.trans c1, fun s a b => ⟨(d2 s a b).1.trans (c2 s a b).1, (d2 s a b).2.trans (c2 s a b).2⟩⟩
theorem sg_gr_dn {dp' : Int} (hd : dp ≤ dp') (h : sg_gr dp' I TT I1 T1) : sg_gr dp I TT I1 T1 := ⟨h.1, h.2.1, h.2.2.1, h.2.2.2.1, h.2.2.2.2.1, fun i hi => h.2.2.2.2.2.1 i (by omega), h.2.2.2.2.2.2⟩
theorem sg_vs_gr {t : Int} {T' : sk_Tb} (h : sg_vs p C I TT t T') (g : sg_gr dp I TT I1 T1) : sg_vs p C I1 T1 t T' := by
  obtain ⟨h0, h1, h2, h3⟩ := h
  obtain ⟨a1, a2, a3, a4, -⟩ := g
  refine ⟨h0, (a4 t).1 h1, fun z y => (a4 t).2 (h2 z y), fun z => ?_⟩
  obtain ⟨q, q0, q1, q2, q3⟩ := h3 z
  obtain ⟨x1, x2, -⟩ := a2 q q0 q1
  exact ⟨q, q0, by omega, x1.trans q2, x2.trans q3⟩
theorem sg_70 (h : I 59 70 = 0 ∨ I 59 70 = 1) (g : sg_gr dp I TT I1 T1) (z : I1 59 70 = 0) : I 59 70 = 0 := by
  rcases h with h | h
  · exact h
  · have := g.2.2.2.2.1 h
    omega
/-- only the tables at work change -/
theorem sg_iv_w (h : sg_iv p C rm rT Go I0 I TT) (e : ∀ c, c ≠ 96 → c ≠ 97 → I1 c = I c) : sg_iv p C rm rT Go I0 I1 TT := by
  obtain ⟨h1, ⟨h2, h3, h4⟩, h5, h6, h7, h8⟩ := h
  have k59 : I1 59 = I 59 := e 59 (by decide) (by decide)
  have k91 : I1 91 = I 91 := e 91 (by decide) (by decide)
  have k92 : I1 92 = I 92 := e 92 (by decide) (by decide)
  have k93 : I1 93 = I 93 := e 93 (by decide) (by decide)
  have k94 : I1 94 = I 94 := e 94 (by decide) (by decide)
  have k95 : I1 95 = I 95 := e 95 (by decide) (by decide)
  have k98 : I1 98 = I 98 := e 98 (by decide) (by decide)
  have k99 : I1 99 = I 99 := e 99 (by decide) (by decide)
  refine ⟨⟨fun c a b => by rw [e c (by omega) (by omega)]; exact h1.1 c a b, by rw [k59]; exact h1.2⟩, ⟨⟨by rw [k59]; exact h2.1, by rw [k59, k91, k92, k93, k94, k95]; exact h2.2⟩, by unfold sg_di; rw [k59, k91]; exact h3, by unfold sg_zo; rw [k98, k99]; exact h4⟩, by rw [k59]; exact h5, by rw [k59]; exact h6, fun z => ⟨?_, fun A G P O hc => ⟨?_, ?_⟩⟩, by rw [k59]; exact h8⟩
  · rw [k59] at z
    unfold sg_go sg_G sg_b
    rw [k59, k91, k93, k94, k95]
    exact (h7 z).1
  · rw [k59] at z
    unfold sg_b
    rw [k59, k91, k93, k94, k95]
    exact ((h7 z).2 A G P O hc).1
  · rw [k59] at z
    rw [k98, k99]
    exact ((h7 z).2 A G P O hc).2
theorem sg_gr_w (e : ∀ c, c ≠ 96 → c ≠ 97 → I1 c = I c) (h : ∀ i, i < 80 * (dp + 1) → I1 96 i = I 96 i) : sg_gr dp I TT I1 TT := by
  have k59 : I1 59 = I 59 := e 59 (by decide) (by decide)
  unfold sg_gr sg_N
  rw [k59, e 91 (by decide) (by decide), e 93 (by decide) (by decide), e 94 (by decide) (by decide), e 95 (by decide) (by decide), e 98 (by decide) (by decide), e 99 (by decide) (by decide)]
  exact ⟨Int.le_refl _, fun _ _ _ => ⟨rfl, rfl, rfl, rfl, rfl⟩, fun q a b => by omega, fun _ => ⟨id, id⟩, id, h, id, Int.le_refl _, fun a b => by omega, fun _ => ⟨rfl, fun _ _ _ => ⟨rfl, rfl⟩⟩⟩
theorem sg_iv_98 (h : sg_iv p C rm rT Go I0 I TT) {s nv : Int} (hs : 0 ≤ s ∧ s < 200) (hnv : (nv = 1 ∧ (I 59 71 = 1 ∨ I 98 s = 0)) ∨ (nv = 0 ∧ I 59 71 = 0 ∧ I 98 s = 1)) (hx : I 59 70 = 0 → ∀ A G P O, sk_clo p C rm rT A G P O → P s) : sg_iv p C rm rT Go I0 (sk_uI (sk_uI I 59 71 nv) 98 s 1) TT ∧ sg_gr dp I TT (sk_uI (sk_uI I 59 71 nv) 98 s 1) TT := by
  obtain ⟨h1, ⟨h2, h3, h4⟩, h5, h6, h7, h8⟩ := h
  have k60 : sk_uI (sk_uI I 59 71 nv) 98 s 1 59 60 = I 59 60 := by rw [sk_uI_o (by decide), sk_uI_s, sk_up_o (by decide)]
  have k70 : sk_uI (sk_uI I 59 71 nv) 98 s 1 59 70 = I 59 70 := by rw [sk_uI_o (by decide), sk_uI_s, sk_up_o (by decide)]
  have k71 : sk_uI (sk_uI I 59 71 nv) 98 s 1 59 71 = nv := by rw [sk_uI_o (by decide), sk_uI_s, sk_up_s]
  have k91 : sk_uI (sk_uI I 59 71 nv) 98 s 1 91 = I 91 := by rw [sk_uI_o (by decide), sk_uI_o (by decide)]
  have k92 : sk_uI (sk_uI I 59 71 nv) 98 s 1 92 = I 92 := by rw [sk_uI_o (by decide), sk_uI_o (by decide)]
  have k93 : sk_uI (sk_uI I 59 71 nv) 98 s 1 93 = I 93 := by rw [sk_uI_o (by decide), sk_uI_o (by decide)]
  have k94 : sk_uI (sk_uI I 59 71 nv) 98 s 1 94 = I 94 := by rw [sk_uI_o (by decide), sk_uI_o (by decide)]
  have k95 : sk_uI (sk_uI I 59 71 nv) 98 s 1 95 = I 95 := by rw [sk_uI_o (by decide), sk_uI_o (by decide)]
  have k96 : sk_uI (sk_uI I 59 71 nv) 98 s 1 96 = I 96 := by rw [sk_uI_o (by decide), sk_uI_o (by decide)]
  have ko : sk_uI (sk_uI I 59 71 nv) 98 s 1 99 = I 99 := by rw [sk_uI_o (by decide), sk_uI_o (by decide)]
  have kc : sk_uI (sk_uI I 59 71 nv) 98 s 1 98 = sk_up (I 98) s 1 := by rw [sk_uI_s, sk_uI_o (by decide)]
  have su := sk_sum_up (f := I 98) (c := 1) hs.1 200 (by omega)
  have zs := h4 s hs.1 hs.2
  have up : ∀ t, (I 98 t = 1 → sk_up (I 98) s 1 t = 1) ∧ (sk_up (I 98) s 1 t = 1 → t = s ∨ I 98 t = 1) ∧ (I 98 t = 0 ∨ I 98 t = 1 → sk_up (I 98) s 1 t = 0 ∨ sk_up (I 98) s 1 t = 1) := by
    intro t
    by_cases e : t = s
    · subst e
      rw [sk_up_s]
      exact ⟨fun _ => rfl, fun _ => Or.inl rfl, fun _ => Or.inr rfl⟩
    · rw [sk_up_o e]
      exact ⟨id, Or.inr, id⟩
  generalize hI1 : sk_uI (sk_uI I 59 71 nv) 98 s 1 = I1 at *
  have fr : sg_fr I0 I1 := by
    rw [← hI1]
    refine ⟨fun c a b => ?_, fun j a b e => ?_⟩
    · rw [sk_uI_o (by omega), sk_uI_o a]; exact h1.1 c a b
    · rw [sk_uI_o (by decide), sk_uI_s, sk_up_o e]; exact h1.2 j a b e
  clear hI1
  refine ⟨⟨fr, ⟨⟨by rw [k60]; exact h2.1, ?_⟩, ?_, ?_⟩, by rw [k70]; exact h5, by rw [k71]; omega, fun z => ?_, ?_⟩, ?_, ?_, ?_, ?_, ?_, ?_, ?_, ?_, ?_, ?_⟩
  · rw [k60, k91, k92, k93, k94, k95]; exact h2.2
  · unfold sg_di; rw [k60, k91]; exact h3
  · intro t t0 t1
    have := h4 t t0 t1
    rw [kc, ko]
    exact ⟨(up t).2.2 this.1, this.2⟩
  · rw [k70] at z
    refine ⟨?_, fun A G P O hc => ⟨?_, fun t t0 t1 => ?_⟩⟩
    · unfold sg_go sg_G sg_b; rw [k60, k91, k93, k94, k95]; exact (h7 z).1
    · unfold sg_b; rw [k60, k91, k93, k94, k95]; exact ((h7 z).2 A G P O hc).1
    · rw [kc, ko]
      have old := ((h7 z).2 A G P O hc).2 t t0 t1
      refine ⟨fun y => ?_, old.2⟩
      rcases (up t).2.1 y with e | e
      · subst e; exact hx z A G P O hc
      · exact old.1 e
  · rw [k70, k60]; exact h8
  · rw [k60]; exact Int.le_refl _
  · rw [k91, k93, k94, k95]; exact fun _ _ _ => ⟨rfl, rfl, rfl, rfl, rfl⟩
  · rw [k60]; exact fun q a b => by omega
  · rw [kc, ko]
    exact fun t => ⟨(up t).1, id⟩
  · rw [k70]; exact id
  · rw [k96]; exact fun _ _ => rfl
  · rw [k71]; intro z; omega
  · unfold sg_N; rw [k60, kc, ko, su]; omega
  · unfold sg_N; rw [k60, k71, kc, ko, su]; omega
  · rw [k71, k60, kc, ko]
    intro z
    refine ⟨rfl, fun t t0 t1 => ?_⟩
    by_cases e : t = s
    · subst e; rw [sk_up_s]; exact ⟨by omega, rfl⟩
    · rw [sk_up_o e]; exact ⟨rfl, rfl⟩
theorem sg_iv_99 (h : sg_iv p C rm rT Go I0 I TT) {s nv : Int} (hs : 0 ≤ s ∧ s < 200) (hnv : (nv = 1 ∧ (I 59 71 = 1 ∨ I 99 s = 0)) ∨ (nv = 0 ∧ I 59 71 = 0 ∧ I 99 s = 1)) (hx : I 59 70 = 0 → ∀ A G P O, sk_clo p C rm rT A G P O → O s) : sg_iv p C rm rT Go I0 (sk_uI (sk_uI I 59 71 nv) 99 s 1) TT ∧ sg_gr dp I TT (sk_uI (sk_uI I 59 71 nv) 99 s 1) TT := by
  obtain ⟨h1, ⟨h2, h3, h4⟩, h5, h6, h7, h8⟩ := h
  have k60 : sk_uI (sk_uI I 59 71 nv) 99 s 1 59 60 = I 59 60 := by rw [sk_uI_o (by decide), sk_uI_s, sk_up_o (by decide)]
  have k70 : sk_uI (sk_uI I 59 71 nv) 99 s 1 59 70 = I 59 70 := by rw [sk_uI_o (by decide), sk_uI_s, sk_up_o (by decide)]
  have k71 : sk_uI (sk_uI I 59 71 nv) 99 s 1 59 71 = nv := by rw [sk_uI_o (by decide), sk_uI_s, sk_up_s]
  have k91 : sk_uI (sk_uI I 59 71 nv) 99 s 1 91 = I 91 := by rw [sk_uI_o (by decide), sk_uI_o (by decide)]
  have k92 : sk_uI (sk_uI I 59 71 nv) 99 s 1 92 = I 92 := by rw [sk_uI_o (by decide), sk_uI_o (by decide)]
  have k93 : sk_uI (sk_uI I 59 71 nv) 99 s 1 93 = I 93 := by rw [sk_uI_o (by decide), sk_uI_o (by decide)]
  have k94 : sk_uI (sk_uI I 59 71 nv) 99 s 1 94 = I 94 := by rw [sk_uI_o (by decide), sk_uI_o (by decide)]
  have k95 : sk_uI (sk_uI I 59 71 nv) 99 s 1 95 = I 95 := by rw [sk_uI_o (by decide), sk_uI_o (by decide)]
  have k96 : sk_uI (sk_uI I 59 71 nv) 99 s 1 96 = I 96 := by rw [sk_uI_o (by decide), sk_uI_o (by decide)]
  have ko : sk_uI (sk_uI I 59 71 nv) 99 s 1 98 = I 98 := by rw [sk_uI_o (by decide), sk_uI_o (by decide)]
  have kc : sk_uI (sk_uI I 59 71 nv) 99 s 1 99 = sk_up (I 99) s 1 := by rw [sk_uI_s, sk_uI_o (by decide)]
  have su := sk_sum_up (f := I 99) (c := 1) hs.1 200 (by omega)
  have zs := h4 s hs.1 hs.2
  have up : ∀ t, (I 99 t = 1 → sk_up (I 99) s 1 t = 1) ∧ (sk_up (I 99) s 1 t = 1 → t = s ∨ I 99 t = 1) ∧ (I 99 t = 0 ∨ I 99 t = 1 → sk_up (I 99) s 1 t = 0 ∨ sk_up (I 99) s 1 t = 1) := by
    intro t
    by_cases e : t = s
    · subst e
      rw [sk_up_s]
      exact ⟨fun _ => rfl, fun _ => Or.inl rfl, fun _ => Or.inr rfl⟩
    · rw [sk_up_o e]
      exact ⟨id, Or.inr, id⟩
  generalize hI1 : sk_uI (sk_uI I 59 71 nv) 99 s 1 = I1 at *
  have fr : sg_fr I0 I1 := by
    rw [← hI1]
    refine ⟨fun c a b => ?_, fun j a b e => ?_⟩
    · rw [sk_uI_o (by omega), sk_uI_o a]; exact h1.1 c a b
    · rw [sk_uI_o (by decide), sk_uI_s, sk_up_o e]; exact h1.2 j a b e
  clear hI1
  refine ⟨⟨fr, ⟨⟨by rw [k60]; exact h2.1, ?_⟩, ?_, ?_⟩, by rw [k70]; exact h5, by rw [k71]; omega, fun z => ?_, ?_⟩, ?_, ?_, ?_, ?_, ?_, ?_, ?_, ?_, ?_, ?_⟩
  · rw [k60, k91, k92, k93, k94, k95]; exact h2.2
  · unfold sg_di; rw [k60, k91]; exact h3
  · intro t t0 t1
    have := h4 t t0 t1
    rw [kc, ko]
    exact ⟨this.1, (up t).2.2 this.2⟩
  · rw [k70] at z
    refine ⟨?_, fun A G P O hc => ⟨?_, fun t t0 t1 => ?_⟩⟩
    · unfold sg_go sg_G sg_b; rw [k60, k91, k93, k94, k95]; exact (h7 z).1
    · unfold sg_b; rw [k60, k91, k93, k94, k95]; exact ((h7 z).2 A G P O hc).1
    · rw [kc, ko]
      have old := ((h7 z).2 A G P O hc).2 t t0 t1
      refine ⟨old.1, fun y => ?_⟩
      rcases (up t).2.1 y with e | e
      · subst e; exact hx z A G P O hc
      · exact old.2 e
  · rw [k70, k60]; exact h8
  · rw [k60]; exact Int.le_refl _
  · rw [k91, k93, k94, k95]; exact fun _ _ _ => ⟨rfl, rfl, rfl, rfl, rfl⟩
  · rw [k60]; exact fun q a b => by omega
  · rw [kc, ko]
    exact fun t => ⟨id, (up t).1⟩
  · rw [k70]; exact id
  · rw [k96]; exact fun _ _ => rfl
  · rw [k71]; intro z; omega
  · unfold sg_N; rw [k60, kc, ko, su]; omega
  · unfold sg_N; rw [k60, k71, kc, ko, su]; omega
  · rw [k71, k60, kc, ko]
    intro z
    refine ⟨rfl, fun t t0 t1 => ?_⟩
    by_cases e : t = s
    · subst e; rw [sk_up_s]; exact ⟨rfl, by omega⟩
    · rw [sk_up_o e]; exact ⟨rfl, rfl⟩
theorem sg_tm_of (hO : sg_di I TT) (hn : I 59 60 = 300) (hw : sg_wi p C rm rT I TT) (hno : ∀ q, 0 ≤ q → q < I 59 60 → ¬ (I 91 q = m ∧ TT q = B)) (hx : ∀ A G P O, sk_clo p C rm rT A G P O → A m B) : sf_tm p C rm rT := by
  intro A G P O hc e he
  have hin := hw A G P O hc
  have ex : ∀ i : Nat, ∃ k : Nat, i ≤ 300 → k < 300 ∧ e k = (if i < 300 then (I 91 i, TT i) else (m, B)) := by
    intro i
    by_cases g : i < 300
    · obtain ⟨k, k0, k1, k2⟩ := he _ _ (hin.1 i (by omega) (by omega)).1
      refine ⟨k.toNat, fun _ => ⟨by omega, ?_⟩⟩
      rw [if_pos g, show ((k.toNat : Nat) : Int) = k by omega, k2]
    · obtain ⟨k, k0, k1, k2⟩ := he _ _ (hx A G P O hc)
      refine ⟨k.toNat, fun _ => ⟨by omega, ?_⟩⟩
      rw [if_neg g, show ((k.toNat : Nat) : Int) = k by omega, k2]
  obtain ⟨f, hf⟩ := Classical.axiomOfChoice ex
  refine sf_pig 300 f (fun i hi => (hf i hi).1) (fun i j hi hj hij => ?_)
  have a := (hf i hi).2
  have b := (hf j hj).2
  rw [hij, b] at a
  by_cases gi : i < 300
  · by_cases gj : j < 300
    · rw [if_pos gi, if_pos gj] at a
      have a1 := congrArg Prod.fst a
      have a2 := congrArg Prod.snd a
      dsimp only at a1 a2
      have := hO j i (by omega) (by omega) (by omega) (by omega) a1 a2
      omega
    · rw [if_pos gi, if_neg gj] at a
      have a1 := congrArg Prod.fst a
      have a2 := congrArg Prod.snd a
      dsimp only at a1 a2
      exact absurd ⟨a1.symm, a2.symm⟩ (hno i (by omega) (by omega))
  · by_cases gj : j < 300
    · rw [if_neg gi, if_pos gj] at a
      have a1 := congrArg Prod.fst a
      have a2 := congrArg Prod.snd a
      dsimp only at a1 a2
      exact absurd ⟨a1, a2⟩ (hno j (by omega) (by omega))
    · omega
theorem sg_iv_70 (h : sg_iv p C rm rT Go I0 I TT) (hn : I 59 60 = 300) (hno : ∀ q, 0 ≤ q → q < I 59 60 → ¬ (I 91 q = m ∧ TT q = B)) (hx : I 59 70 = 0 → ∀ A G P O, sk_clo p C rm rT A G P O → A m B) : sg_iv p C rm rT Go I0 (sk_uI I 59 70 1) TT ∧ sg_gr dp I TT (sk_uI I 59 70 1) TT ∧ sk_uI I 59 70 1 59 70 = 1 := by
  obtain ⟨h1, ⟨h2, h3, h4⟩, h5, h6, h7, h8⟩ := h
  have tm : sf_tm p C rm rT := by
    rcases h5 with z | z
    · exact sg_tm_of h3 hn (h7 z).2 hno (hx z)
    · exact (h8 z).1
  have k60 : sk_uI I 59 70 1 59 60 = I 59 60 := by rw [sk_uI_s, sk_up_o (by decide)]
  have k70 : sk_uI I 59 70 1 59 70 = 1 := by rw [sk_uI_s, sk_up_s]
  have k71 : sk_uI I 59 70 1 59 71 = I 59 71 := by rw [sk_uI_s, sk_up_o (by decide)]
  have ko : ∀ c, c ≠ 59 → sk_uI I 59 70 1 c = I c := fun c hc => sk_uI_o hc
  have kj : ∀ j, j ≠ 70 → sk_uI I 59 70 1 59 j = I 59 j := fun j hj => by rw [sk_uI_s, sk_up_o hj]
  generalize sk_uI I 59 70 1 = I1 at *
  have k91 := ko 91 (by decide)
  have k92 := ko 92 (by decide)
  have k93 := ko 93 (by decide)
  have k94 := ko 94 (by decide)
  have k95 := ko 95 (by decide)
  have k96 := ko 96 (by decide)
  have k98 := ko 98 (by decide)
  have k99 := ko 99 (by decide)
  refine ⟨⟨⟨fun c a b => by rw [ko c a]; exact h1.1 c a b, fun j a b c => by rw [kj j b]; exact h1.2 j a b c⟩, ⟨⟨by rw [k60]; exact h2.1, by rw [k60, k91, k92, k93, k94, k95]; exact h2.2⟩, by unfold sg_di; rw [k60, k91]; exact h3, by unfold sg_zo; rw [k98, k99]; exact h4⟩, Or.inr k70, by rw [k71]; exact h6, fun z => by omega, fun _ => ⟨tm, by rw [k60]; exact hn⟩⟩, ?_, k70⟩
  unfold sg_gr sg_N
  rw [k60, k70, k71, k91, k93, k94, k95, k96, k98, k99]
  exact ⟨Int.le_refl _, fun _ _ _ => ⟨rfl, rfl, rfl, rfl, rfl⟩, fun q a b => by omega, fun _ => ⟨id, id⟩, fun _ => rfl, fun _ _ => rfl, id, Int.le_refl _, fun a b => by omega, fun _ => ⟨rfl, fun _ _ _ => ⟨rfl, rfl⟩⟩⟩
theorem sg_iv_ins (h : sg_iv p C rm rT Go I0 I TT) {n : Int} (hn : I 59 60 = n) (hn3 : n < 300) (hno : ∀ q, 0 ≤ q → q < I 59 60 → ¬ (I 91 q = m ∧ TT q = B)) (hx : I 59 70 = 0 → ∀ A G P O, sk_clo p C rm rT A G P O → A m B) (hm : 0 ≤ m ∧ m < C p 9) (hB8 : sk_t8 B) (hB : sf_cn B) (hI : sg_ins m n B I I1) : sg_iv p C rm rT Go I0 I1 (sf_nT TT n B) ∧ sg_gr dp I TT I1 (sf_nT TT n B) ∧ I1 91 n = m ∧ sf_nT TT n B n = B ∧ I1 59 60 = n + 1 := by
  obtain ⟨h1, ⟨h2, h3, h4⟩, h5, h6, h7, h8⟩ := h
  obtain ⟨⟨k60, k71, kj⟩, k91, k92, k92', ⟨k93, k94, k95⟩, ko⟩ := hI
  have k70 : I1 59 70 = I 59 70 := kj 70 (by decide) (by decide)
  have k96 : I1 96 = I 96 := ko 96 (by decide) (by decide)
  have k98 : I1 98 = I 98 := ko 98 (by decide) (by decide)
  have k99 : I1 99 = I 99 := ko 99 (by decide) (by decide)
  have n0 := h2.1
  have eo : ∀ q, q < n → I1 91 q = I 91 q ∧ sf_nT TT n B q = TT q ∧ I1 93 q = I 93 q ∧ I1 94 q = I 94 q ∧ I1 95 q = I 95 q := fun q hq => ⟨by rw [k91, sk_up_o (by omega)], sf_nT_o (by omega), by rw [k93, sk_up_o (by omega)], by rw [k94, sk_up_o (by omega)], by rw [k95, sk_up_o (by omega)]⟩
  have en : I1 91 n = m ∧ sf_nT TT n B n = B ∧ I1 93 n = 0 ∧ I1 94 n = 0 ∧ I1 95 n = 0 := ⟨by rw [k91, sk_up_s], sf_nT_s, by rw [k93, sk_up_s], by rw [k94, sk_up_s], by rw [k95, sk_up_s]⟩
  have bo : ∀ q x, q < n → (sg_b I1 q x ↔ sg_b I q x) := fun q x hq => by
    unfold sg_b
    rw [(eo q hq).2.2.1, (eo q hq).2.2.2.1, (eo q hq).2.2.2.2]
  have bn : ∀ x, ¬ sg_b I1 n x := fun x z => by
    unfold sg_b at z
    rw [en.2.2.1, en.2.2.2.1, en.2.2.2.2] at z
    omega
  refine ⟨⟨⟨fun c a b => by rw [ko c a (by omega)]; exact h1.1 c a b, fun j a b c => by rw [kj j a c]; exact h1.2 j a b c⟩, ⟨⟨by omega, fun q q0 q1 => ?_⟩, fun q q' q0 q1 q0' q1' e1 e2 => ?_, by unfold sg_zo; rw [k98, k99]; exact h4⟩, by rw [k70]; exact h5, Or.inr k71, fun z => ?_, fun z => ?_⟩, ⟨by omega, fun q q0 q1 => eo q (by omega), fun q q0 q1 => ?_, by rw [k98, k99]; exact fun _ => ⟨id, id⟩, by rw [k70]; exact id, by rw [k96]; exact fun _ _ => rfl, fun _ => k71, ?_, ?_, fun z => by omega⟩, en.1, en.2.1, k60⟩
  · by_cases e : q = n
    · subst e
      rw [en.1, en.2.1, en.2.2.1, en.2.2.2.1, en.2.2.2.2]
      exact ⟨hm, hB8, hB, k92, Or.inl rfl, Or.inl rfl, Or.inl rfl⟩
    · obtain ⟨y1, y2, y3, y4, y5⟩ := eo q (by omega)
      obtain ⟨a1, a2, a3, a4, a5⟩ := h2.2 q q0 (by omega)
      rw [y1, y2, y3, y4, y5]
      refine ⟨a1, a2, a3, fun r r0 r1 => ?_, a5⟩
      rw [k92' _ (by omega)]
      exact a4 r r0 r1
  · by_cases e : q = n
    · by_cases e' : q' = n
      · omega
      · obtain ⟨y1, y2, -⟩ := eo q' (by omega)
        rw [e, en.1, y1] at e1
        rw [e, en.2.1, y2] at e2
        exact absurd ⟨e1.symm, e2.symm⟩ (hno q' q0' (by omega))
    · obtain ⟨x1, x2, -⟩ := eo q (by omega)
      by_cases e' : q' = n
      · rw [e', en.1, x1] at e1
        rw [e', en.2.1, x2] at e2
        exact absurd ⟨e1, e2⟩ (hno q q0 (by omega))
      · obtain ⟨y1, y2, -⟩ := eo q' (by omega)
        rw [x1, y1] at e1
        rw [x2, y2] at e2
        exact h3 q q' q0 (by omega) q0' (by omega) e1 e2
  · rw [k70] at z
    obtain ⟨g1, g2⟩ := h7 z
    refine ⟨fun m' T' x => ?_, fun A G P O hc => ⟨fun q q0 q1 => ?_, ?_⟩⟩
    · rw [g1 m' T' x]
      constructor
      · rintro ⟨q, q0, q1, q2, q3, q4⟩
        obtain ⟨y1, y2, -⟩ := eo q (by omega)
        exact ⟨q, q0, by omega, by rw [y1, q2], by rw [y2, q3], (bo q x (by omega)).mpr q4⟩
      · rintro ⟨q, q0, q1, q2, q3, q4⟩
        by_cases e : q = n
        · rw [e] at q4
          exact absurd q4 (bn x)
        · obtain ⟨y1, y2, -⟩ := eo q (by omega)
          exact ⟨q, q0, by omega, by rw [← y1, q2], by rw [← y2, q3], (bo q x (by omega)).mp q4⟩
    · by_cases e : q = n
      · rw [e, en.1, en.2.1]
        exact ⟨hx z A G P O hc, fun x hb => absurd hb (bn x)⟩
      · obtain ⟨y1, y2, -⟩ := eo q (by omega)
        rw [y1, y2]
        obtain ⟨u1, u2⟩ := (g2 A G P O hc).1 q q0 (by omega)
        exact ⟨u1, fun x hb => u2 x ((bo q x (by omega)).mp hb)⟩
    · rw [k98, k99]
      exact (g2 A G P O hc).2
  · rw [k70] at z
    have := (h8 z).2
    omega
  · have : q = n := by omega
    rw [this]
    exact ⟨en.2.2.1, en.2.2.2.1, en.2.2.2.2⟩
  · unfold sg_N; rw [k60, k98, k99]; omega
  · unfold sg_N; rw [k60, k98, k99]; omega
theorem sg_go_q (h : sg_go Go I TT) (hO : sg_di I TT) {q : Int} (hq : 0 ≤ q ∧ q < I 59 60) (h1 : I 91 q = m) (h2 : TT q = B) (x : Int) : Go m B x ↔ sg_b I q x := by
  rw [h m B x]
  constructor
  · rintro ⟨q', a, b, c, d, e⟩
    have := hO q' q a b hq.1 hq.2 (by rw [c, h1]) (by rw [d, h2])
    rw [← this]
    exact e
  · intro z
    exact ⟨q, hq.1, hq.2, h1, h2, z⟩
end SKG3
