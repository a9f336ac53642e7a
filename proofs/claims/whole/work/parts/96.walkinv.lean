/-! ===== what holds while Foresight walks ===== -/
theorem sf_pig : ∀ (n : Nat) (f : Nat → Nat), (∀ i, i ≤ n → f i < n) → (∀ i j, i ≤ n → j ≤ n → f i = f j → i = j) → False
  | 0, f, h, _ => absurd (h 0 (Nat.le_refl 0)) (by omega)
  | n + 1, f, h, g => by
    refine sf_pig n (fun i => if f i = n then f (n + 1) else f i) (fun i hi => ?_) (fun i j hi hj e => ?_)
    · by_cases c : f i = n
      · rw [if_pos c]
        have a := h (n + 1) (Nat.le_refl _)
        have b : f (n + 1) ≠ n := fun z => by
          have := g i (n + 1) (by omega) (Nat.le_refl _) (by rw [c, z])
          omega
        omega
      · rw [if_neg c]
        have := h i (by omega)
        omega
    · by_cases c : f i = n
      · by_cases c' : f j = n
        · exact g i j (by omega) (by omega) (by rw [c, c'])
        · rw [if_pos c, if_neg c'] at e
          have := g (n + 1) j (Nat.le_refl _) (by omega) e
          omega
      · by_cases c' : f j = n
        · rw [if_neg c, if_pos c'] at e
          have := g i (n + 1) (by omega) (Nat.le_refl _) e
          omega
        · rw [if_neg c, if_neg c'] at e
          exact g i j (by omega) (by omega) e
def sf_in (I : sk_SI) (TT : Int → sk_Tb) (A : Int → sk_Tb → Prop) (G : sk_Or) (P O : Int → Prop) : Prop := (∀ q, 0 ≤ q → q < I 48 12 → A (I 49 q) (TT q) ∧ ∀ x, sf_b (I 51 q) x → G (I 49 q) (TT q) x) ∧ ∀ s, 0 ≤ s → s < 200 → (I 57 s = 1 → P s) ∧ (I 58 s = 1 → O s)
/-- there are more than 300 pairs -/
def sf_tm (p : Nat) (C : sk_SI) (rm : Int) (rT : sk_Tb) : Prop := ∀ A G P O, sk_clo p C rm rT A G P O → ∀ e : Int → Int × sk_Tb, ¬ ∀ m T, A m T → ∃ i, 0 ≤ i ∧ i < 300 ∧ e i = (m, T)
def sf_go (Go : sk_Or) (I : sk_SI) (TT : Int → sk_Tb) : Prop := ∀ m T x, Go m T x ↔ ∃ q, 0 ≤ q ∧ q < I 48 12 ∧ I 49 q = m ∧ TT q = T ∧ sf_b (I 51 q) x
def sf_fr (C I : sk_SI) : Prop := ∀ c, c ≠ 48 → c ≠ 49 → c ≠ 51 → c ≠ 52 → c ≠ 54 → c ≠ 55 → c ≠ 57 → c ≠ 58 → I c = C c
def sf_zo (I : sk_SI) : Prop := ∀ s, 0 ≤ s → s < 200 → (I 57 s = 0 ∨ I 57 s = 1) ∧ (I 58 s = 0 ∨ I 58 s = 1)
def sf_st (p : Nat) (I : sk_SI) (L : sk_SL) (TT : Int → sk_Tb) : Prop := sf_pr p I L TT ∧ sf_od I TT ∧ sf_ct I ∧ sf_zo I
def sf_wi (p : Nat) (C : sk_SI) (rm : Int) (rT : sk_Tb) (I : sk_SI) (TT : Int → sk_Tb) : Prop := ∀ A G P O, sk_clo p C rm rT A G P O → sf_in I TT A G P O
def sf_iv (p : Nat) (C : sk_SI) (rm : Int) (rT : sk_Tb) (Go : sk_Or) (wk : Int) (I : sk_SI) (L : sk_SL) (TT : Int → sk_Tb) : Prop := sf_fr C I ∧ sf_st p I L TT ∧ (I 48 13 = wk ∧ 0 ≤ wk ∧ wk < I 48 12) ∧ (I 48 14 = 0 ∨ I 48 14 = 1) ∧ (I 48 14 = 0 → sf_go Go I TT ∧ sf_wi p C rm rT I TT) ∧ (I 48 14 = 1 → sf_tm p C rm rT)
def sf_hx (p : Nat) (C : sk_SI) (rm : Int) (rT : sk_Tb) (V : Int → sk_Tb → Prop) : Prop := ∀ A G P O, sk_clo p C rm rT A G P O → ∀ t T', V t T' → P t ∧ (C (p + 3) t = 0 → sk_rT p C t T' ≠ -1 → O t) ∧ (C (p + 3) t = 1 → A (C (p + 5) t) (sk_cT p C (C (p + 5) t) T'))
def sf_vs (p : Nat) (C : sk_SI) (wk : Int) (I : sk_SI) (L : sk_SL) (TT : Int → sk_Tb) (t : Int) (T' : sk_Tb) : Prop := (0 ≤ t ∧ t < C p 10) ∧ I 57 t = 1 ∧ (C (p + 3) t = 0 → sk_rT p C t T' ≠ -1 → I 58 t = 1) ∧ (C (p + 3) t = 1 → ∃ q, 0 ≤ q ∧ q < I 48 12 ∧ I 49 q = C (p + 5) t ∧ TT q = sk_cT p C (C (p + 5) t) T' ∧ sf_cb L q wk)
def sf_gr (dp : Int) (I : sk_SI) (L : sk_SL) (TT : Int → sk_Tb) (I' : sk_SI) (L' : sk_SL) (TT' : Int → sk_Tb) : Prop := I 48 12 ≤ I' 48 12 ∧ (∀ q, 0 ≤ q → q < I 48 12 → I' 49 q = I 49 q ∧ TT' q = TT q ∧ I' 51 q = I 51 q ∧ I' 52 q = I 52 q ∧ ∀ a, 0 ≤ a ∧ a < 300 → sf_cb L q a → sf_cb L' q a) ∧ (∀ q, I 48 12 ≤ q → q < I' 48 12 → I' 51 q = 0 ∧ I' 52 q = 1) ∧ (∀ s, (I 57 s = 1 → I' 57 s = 1) ∧ (I 58 s = 1 → I' 58 s = 1)) ∧ (I 48 14 = 1 → I' 48 14 = 1) ∧ (∀ i, i < (dp + 1) * 8 → L' 56 i = L 56 i)
section SKF8
variable {p : Nat} {C : sk_SI} {rm wk dp : Int} {rT : sk_Tb} {Go : sk_Or} {I I1 I2 : sk_SI} {L L1 L2 : sk_SL} {TT T1 T2 : Int → sk_Tb}
theorem sf_gr_rf (dp : Int) (I : sk_SI) (L : sk_SL) (TT : Int → sk_Tb) : sf_gr dp I L TT I L TT := ⟨Int.le_refl _, fun _ _ _ => ⟨rfl, rfl, rfl, rfl, fun _ _ h => h⟩, fun q a b => by omega, fun _ => ⟨id, id⟩, id, fun _ _ => rfl⟩
theorem sf_gr_tr (h0 : 0 ≤ I 48 12) (h1 : sf_gr dp I L TT I1 L1 T1) (h2 : sf_gr dp I1 L1 T1 I2 L2 T2) : sf_gr dp I L TT I2 L2 T2 := by
  obtain ⟨a1, a2, a3, a4, a5, a6⟩ := h1
  obtain ⟨b1, b2, b3, b4, b5, b6⟩ := h2
  refine ⟨by omega, fun q q0 q1 => ?_, fun q q0 q1 => ?_, fun s => ⟨fun z => (b4 s).1 ((a4 s).1 z), fun z => (b4 s).2 ((a4 s).2 z)⟩, fun z => b5 (a5 z), fun i hi => (b6 i hi).trans (a6 i hi)⟩
  · obtain ⟨x1, x2, x3, x4, x5⟩ := a2 q q0 q1
    obtain ⟨y1, y2, y3, y4, y5⟩ := b2 q q0 (by omega)
    exact ⟨y1.trans x1, y2.trans x2, y3.trans x3, y4.trans x4, fun a ha z => y5 a ha (x5 a ha z)⟩
  · by_cases g : q < I1 48 12
    · obtain ⟨y1, y2, y3, y4, y5⟩ := b2 q (by omega) g
      have := a3 q q0 g
      rw [y3, y4]
      exact this
    · exact b3 q (by omega) q1
theorem sf_gr_dn {dp' : Int} (hd : dp ≤ dp') (h : sf_gr dp' I L TT I1 L1 T1) : sf_gr dp I L TT I1 L1 T1 := ⟨h.1, h.2.1, h.2.2.1, h.2.2.2.1, h.2.2.2.2.1, fun i hi => h.2.2.2.2.2 i (by omega)⟩
theorem sf_vs_gr (hw : 0 ≤ wk ∧ wk < 300) {t : Int} {T' : sk_Tb} (h : sf_vs p C wk I L TT t T') (g : sf_gr dp I L TT I1 L1 T1) : sf_vs p C wk I1 L1 T1 t T' := by
  obtain ⟨h0, h1, h2, h3⟩ := h
  obtain ⟨a1, a2, a3, a4, a5, a6⟩ := g
  refine ⟨h0, (a4 t).1 h1, fun z y => (a4 t).2 (h2 z y), fun z => ?_⟩
  obtain ⟨q, q0, q1, q2, q3, q4⟩ := h3 z
  obtain ⟨x1, x2, x3, x4, x5⟩ := a2 q q0 q1
  exact ⟨q, q0, by omega, x1.trans q2, x2.trans q3, x5 wk hw q4⟩
theorem sf_hx_mono {V V' : Int → sk_Tb → Prop} (h : sf_hx p C rm rT V) (g : ∀ t T', V' t T' → V t T') : sf_hx p C rm rT V' := fun A G P O hc t T' hv => h A G P O hc t T' (g t T' hv)
/-- only longs change -/
theorem sf_iv_L (h : sf_iv p C rm rT Go wk I L TT) (e : L1 50 = L 50) : sf_iv p C rm rT Go wk I L1 TT := by
  obtain ⟨h1, ⟨h2, h3⟩, h4⟩ := h
  exact ⟨h1, ⟨sf_pr_L h2 e, h3⟩, h4⟩
theorem sf_gr_L (e : L1 53 = L 53) (h : ∀ i, i < (dp + 1) * 8 → L1 56 i = L 56 i) : sf_gr dp I L TT I L1 TT := ⟨Int.le_refl _, fun q _ _ => ⟨rfl, rfl, rfl, rfl, fun a _ z => by unfold sf_cb at z ⊢; rw [e]; exact z⟩, fun q a b => by omega, fun _ => ⟨id, id⟩, id, h⟩
/-- a step is passed -/
theorem sf_iv_57 (hp : sk_pg p) (h : sf_iv p C rm rT Go wk I L TT) {s : Int} (hx : I 48 14 = 0 → ∀ A G P O, sk_clo p C rm rT A G P O → P s) : sf_iv p C rm rT Go wk (sk_uI I 57 s 1) L TT ∧ sf_gr dp I L TT (sk_uI I 57 s 1) L TT := by
  obtain ⟨h1, ⟨⟨h2, h2'⟩, h3, h4, h5⟩, h6, h7, h8, h9⟩ := h
  have ep : sk_uI I 57 s 1 p = I p := sk_uI_o (by rcases hp with rfl | rfl <;> decide)
  have up : ∀ t, (I 57 t = 1 → sk_uI I 57 s 1 57 t = 1) ∧ (sk_uI I 57 s 1 57 t = 1 → t = s ∨ I 57 t = 1) ∧ (I 57 t = 0 ∨ I 57 t = 1 → sk_uI I 57 s 1 57 t = 0 ∨ sk_uI I 57 s 1 57 t = 1) := by
    intro t
    rw [sk_uI_s]
    by_cases e : t = s
    · subst e
      rw [sk_up_s]
      exact ⟨fun _ => rfl, fun _ => Or.inl rfl, fun _ => Or.inr rfl⟩
    · rw [sk_up_o e]
      exact ⟨id, Or.inr, id⟩
  refine ⟨⟨fun c a b c' d e f g i => ?_, ⟨⟨h2, ?_⟩, h3, h4, fun t t0 t1 => ⟨(up t).2.2 (h5 t t0 t1).1, (h5 t t0 t1).2⟩⟩, h6, h7, fun z => ⟨(h8 z).1, fun A G P O hc => ⟨((h8 z).2 A G P O hc).1, fun t t0 t1 => ⟨fun y => ?_, (((h8 z).2 A G P O hc).2 t t0 t1).2⟩⟩⟩, h9⟩, Int.le_refl _, fun _ _ _ => ⟨rfl, rfl, rfl, rfl, fun _ _ z => z⟩, fun q a b => absurd a (by have : sk_uI I 57 s 1 48 12 = I 48 12 := rfl; omega), fun t => ⟨(up t).1, id⟩, id, fun _ _ => rfl⟩
  · rw [sk_uI_o g]
    exact h1 c a b c' d e f g i
  · rw [ep]
    exact h2'
  · rcases (up t).2.1 y with e | e
    · subst e
      exact hx z A G P O hc
    · exact (((h8 z).2 A G P O hc).2 t t0 t1).1 e
/-- an ask is open -/
theorem sf_iv_58 (hp : sk_pg p) (h : sf_iv p C rm rT Go wk I L TT) {s : Int} (hx : I 48 14 = 0 → ∀ A G P O, sk_clo p C rm rT A G P O → O s) : sf_iv p C rm rT Go wk (sk_uI I 58 s 1) L TT ∧ sf_gr dp I L TT (sk_uI I 58 s 1) L TT := by
  obtain ⟨h1, ⟨⟨h2, h2'⟩, h3, h4, h5⟩, h6, h7, h8, h9⟩ := h
  have ep : sk_uI I 58 s 1 p = I p := sk_uI_o (by rcases hp with rfl | rfl <;> decide)
  have up : ∀ t, (I 58 t = 1 → sk_uI I 58 s 1 58 t = 1) ∧ (sk_uI I 58 s 1 58 t = 1 → t = s ∨ I 58 t = 1) ∧ (I 58 t = 0 ∨ I 58 t = 1 → sk_uI I 58 s 1 58 t = 0 ∨ sk_uI I 58 s 1 58 t = 1) := by
    intro t
    rw [sk_uI_s]
    by_cases e : t = s
    · subst e
      rw [sk_up_s]
      exact ⟨fun _ => rfl, fun _ => Or.inl rfl, fun _ => Or.inr rfl⟩
    · rw [sk_up_o e]
      exact ⟨id, Or.inr, id⟩
  refine ⟨⟨fun c a b c' d e f g i => ?_, ⟨⟨h2, ?_⟩, h3, h4, fun t t0 t1 => ⟨(h5 t t0 t1).1, (up t).2.2 (h5 t t0 t1).2⟩⟩, h6, h7, fun z => ⟨(h8 z).1, fun A G P O hc => ⟨((h8 z).2 A G P O hc).1, fun t t0 t1 => ⟨(((h8 z).2 A G P O hc).2 t t0 t1).1, fun y => ?_⟩⟩⟩, h9⟩, Int.le_refl _, fun _ _ _ => ⟨rfl, rfl, rfl, rfl, fun _ _ z => z⟩, fun q a b => absurd a (by have : sk_uI I 58 s 1 48 12 = I 48 12 := rfl; omega), fun t => ⟨id, (up t).1⟩, id, fun _ _ => rfl⟩
  · rw [sk_uI_o i]
    exact h1 c a b c' d e f g i
  · rw [ep]
    exact h2'
  · rcases (up t).2.1 y with e | e
    · subst e
      exact hx z A G P O hc
    · exact (((h8 z).2 A G P O hc).2 t t0 t1).2 e
/-- pairs differ -/
theorem sf_dis (hO : sf_od I TT) {q q' : Int} (hq : 0 ≤ q ∧ q < I 48 12) (hq' : 0 ≤ q' ∧ q' < I 48 12) (h1 : I 49 q = I 49 q') (h2 : TT q = TT q') : q = q' := by
  obtain ⟨i, i0, i1, i2⟩ := hO.2.2 q hq.1 hq.2
  obtain ⟨j, j0, j1, j2⟩ := hO.2.2 q' hq'.1 hq'.2
  by_cases a : i < j
  · have := hO.2.1 i j i0 a j1
    rw [i2, j2, h1, h2] at this
    exact absurd this sk_ah_irr
  · by_cases b : j < i
    · have := hO.2.1 j i j0 b i1
      rw [i2, j2, h1, h2] at this
      exact absurd this sk_ah_irr
    · rw [← i2, ← j2, show i = j by omega]
end SKF8
