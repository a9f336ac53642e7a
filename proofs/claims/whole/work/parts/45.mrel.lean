/-! ===== the model's reader against the class's: the relation ===== -/
theorem sk_tk_gap (t : Int → Int) (n p : Int) (hp : 0 ≤ p ∧ p < n) : sk_tk t n p ≤ 19 ∨ 100 ≤ sk_tk t n p := by
  unfold sk_tk
  by_cases hl : sk_ltr t p = true
  · rw [if_pos hl]
    have hb := sk_end_b (sk_ltr t) (n := n) (i := p) (by omega)
    have := sk_word_rel t p (sk_end (sk_ltr t) n p) (fun i a b => by have := sk_end_in a b; simpa [sk_ltr] using this) hb.1
    omega
  · rw [if_neg hl]
    by_cases hd : sk_dgt t p = true
    · rw [if_pos hd]
      have hb := sk_end_b (sk_dgt t) (n := n) (i := p) (by omega)
      have hin : ∀ i, p ≤ i → i < sk_end (sk_dgt t) n p → 48 ≤ t i ∧ t i ≤ 57 := fun i a b => by have := sk_end_in a b; simpa [sk_dgt] using this
      generalize sk_end (sk_dgt t) n p = e at hb hin
      unfold sk_nt
      by_cases h3 : e - p ≤ 3
      · rw [if_neg (by omega)]
        have := sk_nm_b t p (e - p).toNat (by omega) (fun j hj => hin _ (by omega) (by omega))
        omega
      · rw [if_pos (by omega)]
        omega
    · rw [if_neg hd]
      unfold sk_sgn
      split
      · omega
      · split
        · omega
        · split <;> omega
theorem sk_mnu_in (t : Int → Int) (n p old : Int) (hp : 0 ≤ p ∧ p < n) (ho : sk_in old) : sk_in (sk_mnu t n p old) := by
  unfold sk_mnu
  split
  · exact ho
  · split
    · rename_i hl hd
      have hb := sk_end_b (sk_dgt t) (n := n) (i := p) (by omega)
      have hin : ∀ i, p ≤ i → i < sk_end (sk_dgt t) n p → 48 ≤ t i ∧ t i ≤ 57 := fun i a b => by have := sk_end_in a b; simpa [sk_dgt] using this
      split
      · have := sk_nm_b t p (sk_end (sk_dgt t) n p - p).toNat (by omega) (fun j hj => hin _ (by omega) (by omega))
        unfold sk_in
        omega
      · unfold sk_in; omega
    · exact ho
def sk_tkn (t : Int → Int) (n : Int) (C : sk_SI) : Prop := ∃ N : Nat, C 30 2 = N + 1 ∧ (N : Int) ≤ n ∧ sk_fr t n N = n ∧ sk_rows t n C N ∧ C 31 N = 20 ∧ C 32 N = n
def sk_mr1 (p : Nat) (C I : sk_SI) (s : Int) : Prop := I 67 (200 + s) = C (p + 3) s ∧ I 68 (200 + s) = C (p + 4) s ∧ I 69 (200 + s) = C (p + 5) s ∧ I 70 (200 + s) = C (p + 6) s ∧ I 71 (200 + s) = C (p + 7) s ∧ I 72 (200 + s) = C (p + 8) s ∧ I 73 (200 + s) = C (p + 9) s
/-- the model stands where the class stands, its text and its tokens are the same -/
def sk_MT (t : Int → Int) (n : Int) (C I : sk_SI) : Prop := sk_tkn t n C ∧ (I 60 = t ∧ I 59 21 = n ∧ sk_tm I ∧ I 59 26 = 0 ∧ sk_in (I 59 25)) ∧ ∃ i : Nat, C 29 3 = i ∧ sk_mat t n I i
def sk_MP (p : Nat) (xs : Int) (C I : sk_SI) : Prop := (I 63 1 = C p 9 ∧ I 66 1 = C p 10 ∧ I 74 1 = C p 11) ∧ ∀ s, 0 ≤ s → s < C p 10 → sk_mr1 p C I s ∧ (s ≠ xs → (C (p + 3) s = 1 ∨ C (p + 3) s = 6) → I 76 s = C 32 (C 33 s))
def sk_MR (t : Int → Int) (n : Int) (p : Nat) (xs : Int) (C I : sk_SI) : Prop := sk_iv p C ∧ sk_MT t n C I ∧ sk_MP p xs C I
/-- what the model's reader leaves alone -/
def sk_mfr (I I' : sk_SI) : Prop := (∀ c, c ≠ 59 → c ≠ 66 → ¬ (67 ≤ c ∧ c ≤ 74) → c ≠ 76 → I' c = I c) ∧ (∀ c j, 67 ≤ c ∧ c ≤ 73 → j < 200 → I' c j = I c j) ∧ (∀ j, j ≠ 1 → I' 66 j = I 66 j ∧ I' 74 j = I 74 j) ∧ ∀ j, ¬ (22 ≤ j ∧ j ≤ 27) → I' 59 j = I 59 j
/-- where there is a fault -/
def sk_MF (C I : sk_SI) (e : Int × Int) (I' : sk_SI) : Prop := sk_mfr I I' ∧ I' 59 26 = e.1 ∧ I' 59 27 = C 32 e.2 ∧ ((sk_in (I' 59 24) ∧ sk_in (I' 59 25)) ∧ 0 ≤ I' 66 1 ∧ I' 66 1 ≤ 200) ∧ (1 ≤ e.1 ∧ e.1 ≤ 5)
theorem sk_mfr_rf (I : sk_SI) : sk_mfr I I := ⟨fun _ _ _ _ _ => rfl, fun _ _ _ _ => rfl, fun _ _ => ⟨rfl, rfl⟩, fun _ _ => rfl⟩
theorem sk_mfr_tr {I I1 I2 : sk_SI} (h1 : sk_mfr I I1) (h2 : sk_mfr I1 I2) : sk_mfr I I2 :=
  ⟨fun c a b x y => (h2.1 c a b x y).trans (h1.1 c a b x y), fun c j a b => (h2.2.1 c j a b).trans (h1.2.1 c j a b), fun j a => ⟨(h2.2.2.1 j a).1.trans (h1.2.2.1 j a).1, (h2.2.2.1 j a).2.trans (h1.2.2.1 j a).2⟩, fun j a => (h2.2.2.2 j a).trans (h1.2.2.2 j a)⟩
theorem sk_mfr_nx {I I' : sk_SI} (h : sk_m22 I I') : sk_mfr I I' :=
  ⟨fun c a _ _ _ => h.2 c a, fun c j a _ => by rw [h.2 c (by omega)], fun j _ => ⟨by rw [h.2 66 (by decide)], by rw [h.2 74 (by decide)]⟩, fun j a => h.1 j (by omega) (by omega) (by omega) (by omega)⟩
/-- a store into a row's second half -/
theorem sk_mfr_row (I : sk_SI) (c : Nat) (j v : Int) (h : (67 ≤ c ∧ c ≤ 73 ∧ 200 ≤ j) ∨ ((c = 66 ∨ c = 74) ∧ j = 1) ∨ c = 76) : sk_mfr I (sk_uI I c j v) := by
  refine ⟨fun k a b x y => sk_uI_o (by omega), fun k i a b => ?_, fun i hi => ⟨?_, ?_⟩, fun i _ => by rw [sk_uI_o (by omega)]⟩
  · by_cases hk : k = c
    · subst hk; rw [sk_uI_s, sk_up_o (by omega)]
    · rw [sk_uI_o hk]
  · by_cases hk : 66 = c
    · subst hk; rw [sk_uI_s, sk_up_o (by omega)]
    · rw [sk_uI_o hk]
  · by_cases hk : 74 = c
    · subst hk; rw [sk_uI_s, sk_up_o (by omega)]
    · rw [sk_uI_o hk]
theorem sk_mfr_59 (I : sk_SI) (j v : Int) (h : 22 ≤ j ∧ j ≤ 27) : sk_mfr I (sk_uI I 59 j v) :=
  ⟨fun c a _ _ _ => sk_uI_o a, fun c i a _ => by rw [sk_uI_o (by omega)], fun i _ => ⟨by rw [sk_uI_o (by decide)], by rw [sk_uI_o (by decide)]⟩, fun i hi => by rw [sk_uI_s, sk_up_o (by omega)]⟩
theorem sk_MF_tr {C C1 I I1 I2 : sk_SI} {e : Int × Int} (h1 : sk_mfr I I1) (h2 : sk_MF C1 I1 e I2) (h3 : C1 32 = C 32) : sk_MF C I e I2 := by
  obtain ⟨a, b, c, x⟩ := h2
  rw [h3] at c
  exact ⟨sk_mfr_tr h1 a, b, c, x⟩
theorem sk_MF_row {C I I' : sk_SI} {e : Int × Int} (h : sk_MF C I e I') (c : Nat) (j v : Int) (hc : (67 ≤ c ∧ c ≤ 73 ∧ 200 ≤ j) ∨ (c = 74 ∧ j = 1) ∨ c = 76) : sk_MF C I e (sk_uI I' c j v) := by
  obtain ⟨a, b, x, y, z⟩ := h
  have o : sk_uI I' c j v 59 = I' 59 := sk_uI_o (by omega)
  have o66 : sk_uI I' c j v 66 = I' 66 := sk_uI_o (by omega)
  exact ⟨sk_mfr_tr a (sk_mfr_row I' c j v (by omega)), by rw [o]; exact b, by rw [o]; exact x, by rw [o, o66]; exact y, z⟩
theorem sk_fp_32 {p : Nat} {I I' : sk_SI} (hp : sk_pg p) (hf : sk_fp p I I') : I' 32 = I 32 := hf.1 32 (by decide) (by decide) (by rcases hp with rfl | rfl <;> omega)
theorem sk_tkn_cg {t : Int → Int} {n : Int} {C C' : sk_SI} (h : sk_tkn t n C) (h30 : C' 30 = C 30) (h31 : C' 31 = C 31) (h32 : C' 32 = C 32) : sk_tkn t n C' := by
  obtain ⟨N, a1, a2, a3, a4, a5, a6⟩ := h
  exact ⟨N, by rw [h30]; exact a1, a2, a3, fun i hi => by rw [h31, h32]; exact a4 i hi, by rw [h31]; exact a5, by rw [h32]; exact a6⟩
theorem sk_tkn_fp {t : Int → Int} {n : Int} {p : Nat} {C C' : sk_SI} (hp : sk_pg p) (h : sk_tkn t n C) (hf : sk_fp p C C') : sk_tkn t n C' :=
  sk_tkn_cg h (sk_fp_30 hp hf) (hf.1 31 (by decide) (by decide) (by rcases hp with rfl | rfl <;> omega)) (sk_fp_32 hp hf)
/-- the token at which both stand -/
theorem sk_MT_tok {t : Int → Int} {n : Int} {p : Nat} {C I : sk_SI} (h : sk_iv p C) (hm : sk_MT t n C I) : I 59 24 = sk_c2m (sk_tok C (C 29 3)) ∧ (100 ≤ sk_tok C (C 29 3) → I 59 25 = sk_tok C (C 29 3) - 100) ∧ I 59 22 = C 32 (C 29 3) ∧ (0 ≤ I 59 23 ∧ I 59 23 ≤ I 59 21) ∧ (sk_tok C (C 29 3) ≤ 20 ∨ 100 ≤ sk_tok C (C 29 3)) ∧ (0 ≤ I 59 24 ∧ I 59 24 ≤ 25) := by
  obtain ⟨⟨N, a1, a2, a3, a4, a5, a6⟩, ⟨b1, b2, b3, b4, b5⟩, i, c1, c2, c3, c4, c5⟩ := hm
  have hi := h.2.1
  have n0 : 0 ≤ n := by have := b3.1; omega
  have hpos := sk_pos_b t n0 (i + 1)
  have hb := sk_fr_b t n0 i
  have hpi := sk_pos_b t n0 i
  have etok : sk_tok C (C 29 3) = C 31 i := by
    unfold sk_tok
    rw [if_pos ⟨by omega, hi⟩, c1]
  have c2b : ∀ x : Int, 0 ≤ sk_c2m x ∨ x < 0 := by
    intro x
    by_cases hx : x < 0
    · exact Or.inr hx
    · unfold sk_c2m
      by_cases h16 : x < 16
      · rw [if_pos h16]; exact Or.inl (sk_wp_b ⟨by omega, h16⟩).1
      · rw [if_neg h16]
        left
        split
        · omega
        · split
          · omega
          · split
            · omega
            · split
              · omega
              · split <;> omega
  have c2u : ∀ x : Int, 0 ≤ x → sk_c2m x ≤ 25 := by
    intro x hx
    unfold sk_c2m
    by_cases h16 : x < 16
    · rw [if_pos h16]; have := (sk_wp_b ⟨hx, h16⟩).2; omega
    · rw [if_neg h16]
      split
      · omega
      · split
        · omega
        · split
          · omega
          · split
            · omega
            · split <;> omega
  rw [etok]
  by_cases hN : i = N
  · subst hN
    rw [a5, c4, if_neg (by omega)]
    exact ⟨rfl, fun z => by omega, by rw [c1, a6, c2]; exact a3, ⟨by omega, by omega⟩, Or.inl (by omega), by omega, by omega⟩
  · obtain ⟨r1, r2, r3⟩ := a4 i (by omega)
    have hq : 0 ≤ sk_fr t n i ∧ sk_fr t n i < n := ⟨by omega, r1⟩
    have rel := sk_tk_rel t n (sk_fr t n i) 0 hq
    have gap := sk_tk_gap t n (sk_fr t n i) hq
    rw [r2, c4, if_pos r1, rel.1]
    refine ⟨rfl, fun z => c5 r1 z, by rw [c1, r3]; exact c2, ⟨by omega, by omega⟩, by omega, ?_, ?_⟩
    · rcases c2b (sk_tk t n (sk_fr t n i)) with z | z
      · exact z
      · omega
    · exact c2u _ rel.2.1
/-- both go one token on -/
theorem sk_MT_next {t : Int → Int} {n : Int} {p : Nat} {C I I' : sk_SI} (h : sk_iv p C) (hm : sk_MT t n C I) (hx : sk_nxs I I') : sk_MT t n (sk_uI C 29 3 (C 29 3 + 1)) I' := by
  obtain ⟨a, ⟨b1, b2, b3, b4, b5⟩, i, c1, c2, c3, c4⟩ := hm
  have n0 : 0 ≤ n := by have := b3.1; omega
  have h21 : I' 59 21 = I 59 21 := hx.1.1 21 (by decide) (by decide) (by decide) (by decide)
  have h60 : I' 60 = I 60 := hx.1.2 60 (by decide)
  have hmn := sk_mat_next (i := i + 1) n0 b1 b2 c3 hx
  refine ⟨sk_tkn_cg a (sk_uI_o (by decide)) (sk_uI_o (by decide)) (sk_uI_o (by decide)), ⟨by rw [h60]; exact b1, by rw [h21]; exact b2, ?_, ?_, ?_⟩, i + 1, by rw [sk_uI_s, sk_up_s, c1]; omega, hmn⟩
  · unfold sk_tm
    rw [h21, h60]
    exact b3
  · rw [hx.1.1 26 (by decide) (by decide) (by decide) (by decide)]
    exact b4
  · obtain ⟨-, f1, f2, f3⟩ := hx
    have hpos := sk_pos_b t n0 (i + 1)
    have hb := sk_end_b (sk_spb (I 60)) (n := I 59 21) (i := I 59 23) (by rw [c3, b2]; omega)
    by_cases hlt : I' 59 22 < I 59 21
    · rw [(f3 hlt).2.2]
      exact sk_mnu_in _ _ _ _ ⟨by rw [f1]; omega, hlt⟩ b5
    · rw [(f2 (by omega)).2.2]
      exact b5
/-- the program's rows of the model stand while its cells 22 .. 27 change -/
theorem sk_MP_cg {p : Nat} {xs : Int} {C C' I I' : sk_SI} (h : sk_MP p xs C I) (hI : ∀ c, c ≠ 59 → I' c = I c) (hC : ∀ c, c ≠ 29 → C' c = C c) (hp : sk_pg p) : sk_MP p xs C' I' := by
  have e : ∀ k, k ≤ 9 → C' (p + k) = C (p + k) := fun k hk => hC _ (by rcases hp with rfl | rfl <;> omega)
  have e0 : C' p = C p := e 0 (by omega)
  unfold sk_MP sk_mr1
  rw [e0, e 3 (by omega), e 4 (by omega), e 5 (by omega), e 6 (by omega), e 7 (by omega), e 8 (by omega), e 9 (by omega), hC 32 (by decide), hC 33 (by decide), hI 63 (by decide), hI 66 (by decide), hI 74 (by decide), hI 67 (by decide), hI 68 (by decide), hI 69 (by decide), hI 70 (by decide), hI 71 (by decide), hI 72 (by decide), hI 73 (by decide), hI 76 (by decide)]
  exact h
