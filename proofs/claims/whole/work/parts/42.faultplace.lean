/-! ===== a fault's token is one of the text's; so are the tokens of the steps' first numbers ===== -/
def sk_w33 (p : Nat) (I : sk_SI) : Prop := ∀ s, 0 ≤ s → s < I p 10 → 0 ≤ I 33 s ∧ I 33 s < I 30 2
def sk_fb (I : sk_SI) (e : Int × Int) : Prop := 0 ≤ e.2 ∧ e.2 < I 30 2
def sk_fk (p : Nat) (f : sk_SI → sk_PR) : Prop := ∀ I, sk_iv p I → sk_w33 p I → (∀ e, f I = .inl e → sk_fb I e) ∧ ∀ x, f I = .inr x → sk_w33 p x.2
theorem sk_w33_cg {p : Nat} {I I' : sk_SI} (h : sk_w33 p I) (h1 : I' p 10 = I p 10) (h2 : I' 33 = I 33) (h3 : I' 30 = I 30) : sk_w33 p I' := by
  intro s a b
  rw [h1] at b
  rw [h2, h3]
  exact h s a b
theorem sk_iv_fb {p : Nat} {I : sk_SI} (h : sk_iv p I) {e : Int × Int} (he : e.2 = I 29 3) : sk_fb I e := by
  have a := h.1.2.2.2.1
  have b := h.2.1
  exact ⟨by omega, by omega⟩
theorem sk_fb_30 {I I' : sk_SI} {e : Int × Int} (h : sk_fb I' e) (h0 : I' 30 = I 30) : sk_fb I e := by
  unfold sk_fb at h ⊢
  rw [← h0]; exact h
theorem sk_fp_30 {p : Nat} {I I' : sk_SI} (hp : sk_pg p) (hf : sk_fp p I I') : I' 30 = I 30 := hf.1 30 (by decide) (by decide) (by rcases hp with rfl | rfl <;> omega)
theorem sk_fe_nu {most : Int} {I : sk_SI} {e : Int × Int} (h : sk_nuI most I = .inl e) : e.2 = I 29 3 := by
  unfold sk_nuI at h
  split at h
  · cases h; rfl
  · split at h <;> cases h
    rfl
theorem sk_fe_tk {due : Int} {I : sk_SI} {e : Int × Int} (h : sk_tkI due I = .inl e) : e.2 = I 29 3 := by
  unfold sk_tkI at h
  split at h <;> cases h
  rfl
theorem sk_tk_r {due : Int} {I : sk_SI} {x : Int × sk_SI} (h : sk_tkI due I = .inr x) : x.2 = sk_uI I 29 3 (I 29 3 + 1) ∧ sk_tok I (I 29 3) = due := by
  unfold sk_tkI at h
  split at h <;> cases h
  rename_i hc
  exact ⟨rfl, hc⟩
theorem sk_w33_29 {p : Nat} {I : sk_SI} (hp : sk_pg p) (h : sk_w33 p I) (j v : Int) : sk_w33 p (sk_uI I 29 j v) :=
  sk_w33_cg h (by rw [sk_uI_o (by rcases hp with rfl | rfl <;> omega)]) (sk_uI_o (by decide)) (sk_uI_o (by decide))
theorem sk_w33_row {p : Nat} {I : sk_SI} (hp : sk_pg p) (h : sk_w33 p I) (k : Nat) (hk : p + 1 ≤ k ∧ k ≤ p + 9) (j v : Int) : sk_w33 p (sk_uI I k j v) :=
  sk_w33_cg h (by rw [sk_uI_o (by omega)]) (sk_uI_o (by rcases hp with rfl | rfl <;> omega)) (sk_uI_o (by rcases hp with rfl | rfl <;> omega))
theorem sk_fk_tk {p : Nat} (hp : sk_pg p) (due : Int) : sk_fk p (sk_tkI due) := by
  intro I h hw
  refine ⟨fun e he => sk_iv_fb h (sk_fe_tk he), fun x hx => ?_⟩
  rw [(sk_tk_r hx).1]
  exact sk_w33_29 hp hw _ _
theorem sk_fe_n1 {most s : Int} {a : Nat} {I : sk_SI} {e : Int × Int} (h : sk_n1I most a s I = .inl e) : e.2 = I 29 3 := by
  unfold sk_n1I at h
  split at h
  · cases h
  · split at h <;> cases h
    rename_i he
    exact sk_fe_nu he
theorem sk_n1_o {most s : Int} {a : Nat} {I : sk_SI} {x : Int × sk_SI} (h : sk_n1I most a s I = .inr x) : ∀ c, c ≠ a → c ≠ 29 → x.2 c = I c := by
  intro c hc h2
  unfold sk_n1I at h
  split at h
  · cases h; rfl
  · split at h
    · cases h
    · rename_i y hy
      cases h
      show sk_uI y.2 a s y.1 c = _
      rw [sk_uI_o hc, (sk_nuI_r hy).1, sk_uI_o h2]
theorem sk_fk_rn {p : Nat} (hp : sk_pg p) {s w : Int} {I : sk_SI} (h : sk_iv p I) (hw : ∀ t, 0 ≤ t → t < I p 10 → t ≠ s → 0 ≤ I 33 t ∧ I 33 t < I 30 2) : (∀ e, sk_rnI p s w I = .inl e → sk_fb I e) ∧ ∀ x, sk_rnI p s w I = .inr x → sk_w33 p x.2 := by
  have g0 := sk_gd_row hp h 33 s (I 29 3) (Or.inl rfl)
  have e29 : sk_uI I 33 s (I 29 3) 29 = I 29 := sk_uI_o (by decide)
  have p33 : p ≠ 33 ∧ p + 5 ≠ 33 ∧ p + 6 ≠ 33 ∧ p ≠ 29 ∧ p + 5 ≠ 30 ∧ p + 6 ≠ 30 ∧ p + 5 ≠ 29 ∧ p + 6 ≠ 29 := by rcases hp with rfl | rfl <;> omega
  refine ⟨fun e he => ?_, fun x hx => ?_⟩
  · unfold sk_rnI at he
    split at he
    · rename_i e' he'
      cases he
      refine sk_iv_fb h ?_
      rw [sk_fe_n1 he', e29]
    · rename_i y hy
      have g1 := sk_gd_n1 hp g0.1 (p + 5) (by omega) hy
      exact sk_fb_30 (sk_iv_fb g1.1 (sk_fe_n1 he)) (sk_fp_30 hp (sk_gd_tr g0 g1).2.1)
  · unfold sk_rnI at hx
    split at hx
    · cases hx
    · rename_i y hy
      have o1 := sk_n1_o hy
      have o2 := sk_n1_o hx
      have a33 : x.2 33 = sk_up (I 33) s (I 29 3) := by rw [o2 33 (Ne.symm p33.2.2.1) (by decide), o1 33 (Ne.symm p33.2.1) (by decide), sk_uI_s]
      have a30 : x.2 30 = I 30 := by rw [o2 30 (by omega) (by decide), o1 30 (by omega) (by decide), sk_uI_o (by decide)]
      have ap : x.2 p = I p := by rw [o2 p (by omega) (by omega), o1 p (by omega) (by omega), sk_uI_o (by omega)]
      intro t t0 t1
      rw [ap] at t1
      rw [a33, a30]
      by_cases e : t = s
      · subst e
        rw [sk_up_s]
        exact ⟨h.1.2.2.2.1, h.2.1⟩
      · rw [sk_up_o e]
        exact hw t t0 t1 e
theorem sk_fk_rr {p : Nat} {bl : sk_SI → sk_PR} (hp : sk_pg p) (hg : ∀ I x, sk_iv p I → bl I = .inr x → sk_gd p I x.2) (hb : sk_fk p bl) (s w : Int) : sk_fk p (sk_rrI bl p s w) := by
  intro I h hw
  unfold sk_rrI
  by_cases h0 : sk_bs w = 0
  · rw [if_pos h0]
    exact sk_fk_tk hp 18 I h hw
  · rw [if_neg h0]
    obtain ⟨b1, b2⟩ := hb I h hw
    cases hbl : bl I with
    | inl e => exact ⟨fun e' he => by cases he; exact b1 e hbl, fun x hx => by cases hx⟩
    | inr y =>
      have g1 := hg I y h hbl
      have w1 := sk_w33_row hp (b2 y hbl) (p + 8) (by omega) s y.1
      have g2 := sk_gd_tr g1 (sk_gd_row hp g1.1 (p + 8) s y.1 (Or.inr (by omega)))
      dsimp only
      by_cases h1 : sk_bs w = 1
      · rw [if_pos h1]
        exact ⟨fun e he => (by cases he), fun x hx => by cases hx; exact w1⟩
      · rw [if_neg h1]
        obtain ⟨c1, c2⟩ := sk_fk_tk hp (if w = 11 then 14 else 13) _ g2.1 w1
        cases htk : sk_tkI (if w = 11 then 14 else 13) (sk_uI y.2 (p + 8) s y.1) with
        | inl e => exact ⟨fun e' he => by cases he; exact sk_fb_30 (c1 e htk) (sk_fp_30 hp g2.2.1), fun x hx => by cases hx⟩
        | inr z =>
          have g3 := sk_gd_tr g2 (sk_gd_tk hp g2.1 (by split <;> decide) htk)
          obtain ⟨d1, d2⟩ := hb z.2 g3.1 (c2 z htk)
          dsimp only
          cases hz : bl z.2 with
          | inl e => exact ⟨fun e' he => by cases he; exact sk_fb_30 (d1 e hz) (sk_fp_30 hp g3.2.1), fun x hx => by cases hx⟩
          | inr u => exact ⟨fun e he => (by cases he), fun x hx => by cases hx; exact sk_w33_row hp (d2 u hz) (p + 9) (by omega) s u.1⟩
theorem sk_fk_st {p : Nat} {bl : sk_SI → sk_PR} (hp : sk_pg p) (hg : ∀ I x, sk_iv p I → bl I = .inr x → sk_gd p I x.2) (hb : sk_fk p bl) : sk_fk p (sk_stI bl p) := by
  intro I h hw
  unfold sk_stI
  by_cases h12 : 12 < sk_tok I (I 29 3)
  · rw [if_pos h12]
    exact ⟨fun e he => by cases he; exact sk_iv_fb h rfl, fun x hx => by cases hx⟩
  · rw [if_neg h12]
    by_cases h200 : 200 ≤ I p 10
    · rw [if_pos h200]
      exact ⟨fun e he => by cases he; exact sk_iv_fb h rfl, fun x hx => by cases hx⟩
    · rw [if_neg h200]
      have g1 := sk_gd_as hp h (by omega) (sk_tok I (I 29 3))
      have p33 : ∀ c, c = 29 ∨ c = 30 ∨ c = 33 → (c ≠ p ∧ c ≠ p + 9 ∧ c ≠ p + 8 ∧ c ≠ p + 7 ∧ c ≠ p + 6 ∧ c ≠ p + 5 ∧ c ≠ p + 4 ∧ c ≠ p + 3) := by intro c hc; rcases hp with rfl | rfl <;> omega
      have eo : ∀ c, c = 29 ∨ c = 30 ∨ c = 33 → sk_asI p (sk_tok I (I 29 3)) I c = I c := by
        intro c hc
        obtain ⟨q1, q2, q3, q4, q5, q6, q7, q8⟩ := p33 c hc
        unfold sk_asI
        rw [sk_uI_o q1, sk_uI_o q2, sk_uI_o q3, sk_uI_o q4, sk_uI_o q5, sk_uI_o q6, sk_uI_o q7, sk_uI_o q8]
      have e3 := congrFun (eo 29 (by omega)) 3
      have g2 := sk_gd_adv hp g1.1.1 (by rw [e3, sk_tok_fp hp g1.1.2.1]; omega)
      rw [e3] at g2
      have g12 := sk_gd_tr g1.1 g2
      obtain ⟨r1, r2⟩ := sk_fk_rn hp (s := I p 10) (w := sk_tok I (I 29 3)) g2.1 (fun t t0 t1 t2 => by
        rw [sk_uI_o (by have := (p33 29 (by omega)).1; omega), g1.2] at t1
        rw [sk_uI_o (by decide), sk_uI_o (by decide), eo 33 (by omega), eo 30 (by omega)]
        exact hw t t0 (by omega))
      cases hrn : sk_rnI p (I p 10) (sk_tok I (I 29 3)) (sk_uI (sk_asI p (sk_tok I (I 29 3)) I) 29 3 (I 29 3 + 1)) with
      | inl e => exact ⟨fun e' he => by cases he; exact sk_fb_30 (r1 e hrn) (sk_fp_30 hp g12.2.1), fun x hx => by cases hx⟩
      | inr y =>
        have g3 := sk_gd_tr g12 (sk_gd_rn hp g2.1 hrn)
        obtain ⟨s1, s2⟩ := sk_fk_rr hp hg hb (I p 10) (sk_tok I (I 29 3)) y.2 g3.1 (r2 y hrn)
        dsimp only
        cases hrr : sk_rrI bl p (I p 10) (sk_tok I (I 29 3)) y.2 with
        | inl e => exact ⟨fun e' he => by cases he; exact sk_fb_30 (s1 e hrr) (sk_fp_30 hp g3.2.1), fun x hx => by cases hx⟩
        | inr z => exact ⟨fun e he => (by cases he), fun x hx => by cases hx; exact s2 z hrr⟩
theorem sk_fk_lp {p : Nat} {ps : sk_SI → sk_PR} (hp : sk_pg p) (hg : ∀ I x, sk_iv p I → ps I = .inr x → sk_gd p I x.2) (hb : sk_fk p ps) : ∀ (m : Nat) (f la : Int), sk_fk p (sk_lpI ps p m f la)
  | 0, f, la => by
    intro I h hw
    unfold sk_lpI
    obtain ⟨a1, a2⟩ := sk_fk_tk hp 17 I h hw
    cases htk : sk_tkI 17 I with
    | inl e => exact ⟨fun e' he => by cases he; exact a1 e htk, fun x hx => by cases hx⟩
    | inr y => exact ⟨fun e he => (by cases he), fun x hx => by cases hx; exact a2 y htk⟩
  | m + 1, f, la => by
    intro I h hw
    unfold sk_lpI
    by_cases h17 : sk_tok I (I 29 3) = 17
    · rw [if_pos h17]
      exact ⟨fun e he => (by cases he), fun x hx => by cases hx; exact sk_w33_29 hp hw _ _⟩
    · rw [if_neg h17]
      obtain ⟨a1, a2⟩ := hb I h hw
      cases hps : ps I with
      | inl e => exact ⟨fun e' he => by cases he; exact a1 e hps, fun x hx => by cases hx⟩
      | inr y =>
        have g1 := hg I y h hps
        have w1 := a2 y hps
        dsimp only
        by_cases hla : 0 ≤ la
        · rw [if_pos hla]
          have g2 := sk_gd_row hp g1.1 (p + 7) la y.1 (by omega)
          obtain ⟨b1, b2⟩ := sk_fk_lp hp hg hb m f y.1 _ g2.1 (sk_w33_row hp w1 (p + 7) (by omega) la y.1)
          exact ⟨fun e he => sk_fb_30 (b1 e he) (sk_fp_30 hp (sk_gd_tr g1 g2).2.1), b2⟩
        · rw [if_neg hla]
          obtain ⟨b1, b2⟩ := sk_fk_lp hp hg hb m y.1 y.1 _ g1.1 w1
          exact ⟨fun e he => sk_fb_30 (b1 e he) (sk_fp_30 hp g1.2.1), b2⟩
theorem sk_fk_bl {p : Nat} (hp : sk_pg p) : ∀ (k : Nat), k ≤ 12 → sk_fk p (sk_blI p k)
  | 0, _ => by
    intro I h hw
    unfold sk_blI
    cases htk : sk_tkI 16 I with
    | inl e => exact ⟨fun e' he => by cases he; exact sk_iv_fb h (sk_fe_tk htk), fun x hx => by cases hx⟩
    | inr y =>
      have e1 := (sk_tk_r htk).1
      refine ⟨fun e he => ?_, fun x hx => by cases hx⟩
      cases he
      have a := h.1.2.2.2.1
      have b := h.2.1
      show 0 ≤ y.2 29 3 - 1 ∧ y.2 29 3 - 1 < I 30 2
      rw [e1, sk_uI_s, sk_up_s]
      omega
  | k + 1, hk => by
    intro I h hw
    unfold sk_blI
    cases htk : sk_tkI 16 I with
    | inl e => exact ⟨fun e' he => by cases he; exact sk_iv_fb h (sk_fe_tk htk), fun x hx => by cases hx⟩
    | inr y =>
      have g1 := sk_gd_tk hp h (by decide) htk
      have w1 := (sk_fk_tk hp 16 I h hw).2 y htk
      have h11 := g1.1.2.2.2.2.2
      have g2 := sk_iv_11 hp g1.1 (max (y.2 p 11) (12 - k)) (by omega)
      have w2 : sk_w33 p (sk_uI y.2 p 11 (max (y.2 p 11) (12 - k))) := sk_w33_cg w1 (by rw [sk_uI_s, sk_up_o (by decide)]) (sk_uI_o (by rcases hp with rfl | rfl <;> omega)) (sk_uI_o (by rcases hp with rfl | rfl <;> omega))
      have hbl : ∀ A u, sk_iv p A → sk_blI p k A = .inr u → sk_gd p A u.2 := fun A u hA hu => (sk_gd_bl hp k (by omega) A u hA hu).1
      obtain ⟨b1, b2⟩ := sk_fk_lp hp (fun A u hA hu => (sk_gd_st hp hbl hA hu).1) (sk_fk_st hp hbl (sk_fk_bl hp k (by omega))) 201 (-1) (-1) _ g2.1 w2
      exact ⟨fun e he => sk_fb_30 (b1 e he) (sk_fp_30 hp (sk_gd_tr g1 g2).2.1), b2⟩
