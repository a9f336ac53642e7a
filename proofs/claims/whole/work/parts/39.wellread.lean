/-! ===== what is read is well formed: the steps are a tree, at most 12 deep ===== -/
def sk_no (m v : Int) : Prop := (m = -1 ∧ v = -1) ∨ (0 ≤ v ∧ v ≤ m)
def sk_w1 (n ms : Int) (D : Int → Int) (s w m a b x i o : Int) : Prop :=
  (0 ≤ w ∧ w ≤ 12) ∧ (0 ≤ m ∧ m < ms) ∧ sk_no (sk_mf w) a ∧ sk_no (sk_ms w) b ∧ (x = -1 ∨ (s < x ∧ x < n ∧ D x = D s)) ∧ (i = -1 ∨ (s < i ∧ i < n ∧ D i = D s + 1)) ∧ (o = -1 ∨ (s < o ∧ o < n ∧ D o = D s + 1)) ∧ (sk_bs w = 0 → i = -1) ∧ (sk_bs w ≠ 2 → o = -1) ∧ (1 ≤ D s ∧ D s ≤ 12) ∧ (sk_bs w ≠ 0 → D s ≤ 11)
def sk_wl (p : Nat) (I : sk_SI) (D : Int → Int) : Prop := ∀ s, 0 ≤ s → s < I p 10 → sk_w1 (I p 10) (I p 9) D s (I (p + 3) s) (I (p + 4) s) (I (p + 5) s) (I (p + 6) s) (I (p + 7) s) (I (p + 8) s) (I (p + 9) s)
theorem sk_w1_mono {n n' ms : Int} {D D' : Int → Int} {s w m a b x i o : Int} (h : sk_w1 n ms D s w m a b x i o) (hn : n ≤ n') (h0 : 0 ≤ s) (hs : s < n) (hD : ∀ j, 0 ≤ j → j < n → D' j = D j) : sk_w1 n' ms D' s w m a b x i o := by
  obtain ⟨a1, a2, a3, a4, a5, a6, a7, a8, a9, b1, b2⟩ := h
  have hs' := hD s h0 hs
  refine ⟨a1, a2, a3, a4, ?_, ?_, ?_, a8, a9, by omega, fun z => by have := b2 z; omega⟩
  · rcases a5 with a5 | a5
    · exact Or.inl a5
    · have := hD x (by omega) a5.2.1
      exact Or.inr ⟨a5.1, by omega, by omega⟩
  · rcases a6 with a6 | a6
    · exact Or.inl a6
    · have := hD i (by omega) a6.2.1
      exact Or.inr ⟨a6.1, by omega, by omega⟩
  · rcases a7 with a7 | a7
    · exact Or.inl a7
    · have := hD o (by omega) a7.2.1
      exact Or.inr ⟨a7.1, by omega, by omega⟩
theorem sk_wl_cg {p : Nat} {I I' : sk_SI} {D : Int → Int} (h : sk_wl p I D) (h10 : I' p 10 = I p 10) (h9 : I' p 9 = I p 9) (hr : ∀ c, p + 3 ≤ c → c ≤ p + 9 → I' c = I c) : sk_wl p I' D := by
  intro s h0 hs
  rw [h10] at hs
  rw [h10, h9, hr (p + 3) (by omega) (by omega), hr (p + 4) (by omega) (by omega), hr (p + 5) (by omega) (by omega), hr (p + 6) (by omega) (by omega), hr (p + 7) (by omega) (by omega), hr (p + 8) (by omega) (by omega), hr (p + 9) (by omega) (by omega)]
  exact h s h0 hs
theorem sk_wl_29 {p : Nat} (hp : sk_pg p) {I : sk_SI} {D : Int → Int} (h : sk_wl p I D) (j v : Int) : sk_wl p (sk_uI I 29 j v) D :=
  sk_wl_cg h (by rw [sk_uI_o (by rcases hp with rfl | rfl <;> omega)]) (by rw [sk_uI_o (by rcases hp with rfl | rfl <;> omega)]) (fun c h1 h2 => sk_uI_o (by rcases hp with rfl | rfl <;> omega))
theorem sk_wl_tk {p : Nat} (hp : sk_pg p) {I : sk_SI} {D : Int → Int} (h : sk_wl p I D) {due : Int} {x : Int × sk_SI} (hx : sk_tkI due I = .inr x) : sk_wl p x.2 D ∧ x.2 p = I p := by
  unfold sk_tkI at hx
  split at hx
  · cases hx
    exact ⟨sk_wl_29 hp h _ _, sk_uI_o (by rcases hp with rfl | rfl <;> omega)⟩
  · cases hx
theorem sk_wl_7 {p : Nat} {I : sk_SI} {D : Int → Int} (h : sk_wl p I D) {s v : Int} (h0 : 0 ≤ s) (hs : s < I p 10) (hv : s < v ∧ v < I p 10 ∧ D v = D s) : sk_wl p (sk_uI I (p + 7) s v) D := by
  intro t t0 ht
  have ep : sk_uI I (p + 7) s v p = I p := sk_uI_o (by omega)
  rw [ep] at ht ⊢
  rw [sk_uI_o (k := p + 7) (by omega), sk_uI_o (k := p + 7) (by omega), sk_uI_o (k := p + 7) (by omega), sk_uI_o (k := p + 7) (by omega), sk_uI_s, sk_uI_o (k := p + 7) (by omega), sk_uI_o (k := p + 7) (by omega)]
  obtain ⟨a1, a2, a3, a4, a5, a6⟩ := h t t0 ht
  by_cases e : t = s
  · subst e
    rw [sk_up_s]
    exact ⟨a1, a2, a3, a4, Or.inr hv, a6⟩
  · rw [sk_up_o e]
    exact ⟨a1, a2, a3, a4, a5, a6⟩
theorem sk_wl_8 {p : Nat} {I : sk_SI} {D : Int → Int} (h : sk_wl p I D) {s v : Int} (h0 : 0 ≤ s) (hs : s < I p 10) (hv : v = -1 ∨ (s < v ∧ v < I p 10 ∧ D v = D s + 1)) (hb : sk_bs (I (p + 3) s) ≠ 0) : sk_wl p (sk_uI I (p + 8) s v) D := by
  intro t t0 ht
  have ep : sk_uI I (p + 8) s v p = I p := sk_uI_o (by omega)
  rw [ep] at ht ⊢
  rw [sk_uI_o (k := p + 8) (by omega), sk_uI_o (k := p + 8) (by omega), sk_uI_o (k := p + 8) (by omega), sk_uI_o (k := p + 8) (by omega), sk_uI_o (k := p + 8) (by omega), sk_uI_s, sk_uI_o (k := p + 8) (by omega)]
  obtain ⟨a1, a2, a3, a4, a5, a6, a7, a8, a9⟩ := h t t0 ht
  by_cases e : t = s
  · subst e
    rw [sk_up_s]
    exact ⟨a1, a2, a3, a4, a5, hv, a7, fun z => absurd z hb, a9⟩
  · rw [sk_up_o e]
    exact ⟨a1, a2, a3, a4, a5, a6, a7, a8, a9⟩
theorem sk_wl_9 {p : Nat} {I : sk_SI} {D : Int → Int} (h : sk_wl p I D) {s v : Int} (h0 : 0 ≤ s) (hs : s < I p 10) (hv : v = -1 ∨ (s < v ∧ v < I p 10 ∧ D v = D s + 1)) (hb : sk_bs (I (p + 3) s) = 2) : sk_wl p (sk_uI I (p + 9) s v) D := by
  intro t t0 ht
  have ep : sk_uI I (p + 9) s v p = I p := sk_uI_o (by omega)
  rw [ep] at ht ⊢
  rw [sk_uI_o (k := p + 9) (by omega), sk_uI_o (k := p + 9) (by omega), sk_uI_o (k := p + 9) (by omega), sk_uI_o (k := p + 9) (by omega), sk_uI_o (k := p + 9) (by omega), sk_uI_o (k := p + 9) (by omega), sk_uI_s]
  obtain ⟨a1, a2, a3, a4, a5, a6, a7, a8, a9, b1⟩ := h t t0 ht
  by_cases e : t = s
  · subst e
    rw [sk_up_s]
    exact ⟨a1, a2, a3, a4, a5, a6, hv, a8, fun z => absurd hb z, b1⟩
  · rw [sk_up_o e]
    exact ⟨a1, a2, a3, a4, a5, a6, a7, a8, a9, b1⟩
/-- a number, if one is due: it is as it should be, and nothing else of the program is touched -/
theorem sk_n1_w {p a : Nat} (hp : sk_pg p) (ha : p + 1 ≤ a ∧ a ≤ p + 9) {most s : Int} {I : sk_SI} (hI : most = -1 → I a s = -1) {x : Int × sk_SI} (hx : sk_n1I most a s I = .inr x) : sk_no most (x.2 a s) ∧ (∀ j, j ≠ s → x.2 a j = I a j) ∧ ∀ c, c ≠ a → c ≠ 29 → x.2 c = I c := by
  unfold sk_n1I at hx
  split at hx
  · rename_i hm
    cases hx
    exact ⟨Or.inl ⟨hm, hI hm⟩, fun _ _ => rfl, fun _ _ _ => rfl⟩
  · split at hx
    · cases hx
    · rename_i y hy
      cases hx
      obtain ⟨q1, q2, q3, q4⟩ := sk_nuI_r hy
      have h29 : a ≠ 29 := by rcases hp with rfl | rfl <;> omega
      refine ⟨?_, fun j hj => ?_, fun c hc h2 => ?_⟩
      · show sk_no most (sk_uI y.2 a s y.1 a s)
        rw [sk_uI_s, sk_up_s]
        exact Or.inr ⟨by omega, by omega⟩
      · show sk_uI y.2 a s y.1 a j = _
        rw [sk_uI_s, sk_up_o hj, q1, sk_uI_o h29]
      · show sk_uI y.2 a s y.1 c = _
        rw [sk_uI_o hc, q1, sk_uI_o h2]
theorem sk_rn_w {p : Nat} (hp : sk_pg p) {s w : Int} {I : sk_SI} (h5 : I (p + 5) s = -1) (h6 : I (p + 6) s = -1) {x : Int × sk_SI} (hx : sk_rnI p s w I = .inr x) : sk_no (sk_mf w) (x.2 (p + 5) s) ∧ sk_no (sk_ms w) (x.2 (p + 6) s) ∧ (∀ j, j ≠ s → x.2 (p + 5) j = I (p + 5) j ∧ x.2 (p + 6) j = I (p + 6) j) ∧ (∀ c, c ≠ p + 5 → c ≠ p + 6 → c ≠ 29 → c ≠ 33 → x.2 c = I c) ∧ x.2 33 = sk_up (I 33) s (I 29 3) := by
  unfold sk_rnI at hx
  have p33 : p + 5 ≠ 33 ∧ p + 6 ≠ 33 ∧ p + 5 ≠ 29 ∧ p + 6 ≠ 29 := by rcases hp with rfl | rfl <;> omega
  split at hx
  · cases hx
  · rename_i y hy
    obtain ⟨a1, a2, a3⟩ := sk_n1_w hp ⟨by omega, by omega⟩ (fun _ => by rw [sk_uI_o p33.1]; exact h5) hy
    have e6 : y.2 (p + 6) = I (p + 6) := by rw [a3 (p + 6) (by omega) p33.2.2.2, sk_uI_o p33.2.1]
    obtain ⟨b1, b2, b3⟩ := sk_n1_w hp ⟨by omega, by omega⟩ (fun _ => by rw [e6]; exact h6) hx
    have e5 : x.2 (p + 5) = y.2 (p + 5) := b3 (p + 5) (by omega) p33.2.2.1
    refine ⟨by rw [e5]; exact a1, b1, fun j hj => ⟨by rw [e5, a2 j hj, sk_uI_o p33.1], by rw [b2 j hj, e6]⟩, fun c c1 c2 c3 c4 => by rw [b3 c c2 c3, a3 c c1 c3, sk_uI_o c4], ?_⟩
    rw [b3 33 (by omega) (by decide), a3 33 (by omega) (by decide), sk_uI_s]
