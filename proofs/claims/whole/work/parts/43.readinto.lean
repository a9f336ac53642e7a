/-! ===== Reader.readInto ===== -/
/-- the owners and starts are left alone -/
def sk_ko (p : Nat) (f : sk_SI → sk_PR) : Prop := ∀ I x, f I = .inr x → x.2 (p + 1) = I (p + 1) ∧ x.2 (p + 2) = I (p + 2)
theorem sk_ko_tk {p : Nat} (hp : sk_pg p) (due : Int) : sk_ko p (sk_tkI due) := by
  intro I x hx
  rw [(sk_tk_r hx).1, sk_uI_o (by rcases hp with rfl | rfl <;> omega), sk_uI_o (by rcases hp with rfl | rfl <;> omega)]
  exact ⟨rfl, rfl⟩
theorem sk_ko_rn {p : Nat} (hp : sk_pg p) (s w : Int) : sk_ko p (sk_rnI p s w) := by
  intro I x hx
  unfold sk_rnI at hx
  have q : p + 1 ≠ 29 ∧ p + 2 ≠ 29 ∧ p + 1 ≠ 33 ∧ p + 2 ≠ 33 := by rcases hp with rfl | rfl <;> omega
  split at hx
  · cases hx
  · rename_i y hy
    have o1 := sk_n1_o hy
    have o2 := sk_n1_o hx
    rw [o2 (p + 1) (by omega) q.1, o1 (p + 1) (by omega) q.1, o2 (p + 2) (by omega) q.2.1, o1 (p + 2) (by omega) q.2.1, sk_uI_o q.2.2.1, sk_uI_o q.2.2.2]
    exact ⟨rfl, rfl⟩
theorem sk_ko_rr {p : Nat} {bl : sk_SI → sk_PR} (hp : sk_pg p) (hb : sk_ko p bl) (s w : Int) : sk_ko p (sk_rrI bl p s w) := by
  intro I x hx
  unfold sk_rrI at hx
  split at hx
  · exact sk_ko_tk hp 18 I x hx
  · split at hx
    · cases hx
    · rename_i y hy
      have a := hb I y hy
      have b : sk_uI y.2 (p + 8) s y.1 (p + 1) = I (p + 1) ∧ sk_uI y.2 (p + 8) s y.1 (p + 2) = I (p + 2) := by
        rw [sk_uI_o (by omega), sk_uI_o (by omega)]; exact a
      split at hx
      · cases hx; exact b
      · split at hx
        · cases hx
        · rename_i z hz
          have c := sk_ko_tk hp _ _ z hz
          split at hx
          · cases hx
          · rename_i u hu
            have e := hb _ u hu
            cases hx
            show sk_uI u.2 (p + 9) s u.1 (p + 1) = _ ∧ sk_uI u.2 (p + 9) s u.1 (p + 2) = _
            rw [sk_uI_o (by omega), sk_uI_o (by omega)]
            exact ⟨e.1.trans (c.1.trans b.1), e.2.trans (c.2.trans b.2)⟩
theorem sk_ko_st {p : Nat} {bl : sk_SI → sk_PR} (hp : sk_pg p) (hb : sk_ko p bl) : sk_ko p (sk_stI bl p) := by
  intro I x hx
  unfold sk_stI at hx
  have q : p + 1 ≠ 29 ∧ p + 2 ≠ 29 := by rcases hp with rfl | rfl <;> omega
  split at hx
  · cases hx
  · split at hx
    · cases hx
    · split at hx
      · cases hx
      · rename_i y hy
        have a := sk_ko_rn hp _ _ _ y hy
        split at hx
        · cases hx
        · rename_i z hz
          have b := sk_ko_rr hp hb _ _ _ z hz
          cases hx
          refine ⟨b.1.trans (a.1.trans ?_), b.2.trans (a.2.trans ?_)⟩
          · unfold sk_asI
            rw [sk_uI_o q.1, sk_uI_o (by omega), sk_uI_o (by omega), sk_uI_o (by omega), sk_uI_o (by omega), sk_uI_o (by omega), sk_uI_o (by omega), sk_uI_o (by omega), sk_uI_o (by omega)]
          · unfold sk_asI
            rw [sk_uI_o q.2, sk_uI_o (by omega), sk_uI_o (by omega), sk_uI_o (by omega), sk_uI_o (by omega), sk_uI_o (by omega), sk_uI_o (by omega), sk_uI_o (by omega), sk_uI_o (by omega)]
theorem sk_ko_lp {p : Nat} {ps : sk_SI → sk_PR} (hp : sk_pg p) (hb : sk_ko p ps) : ∀ (m : Nat) (f la : Int), sk_ko p (sk_lpI ps p m f la)
  | 0, f, la => by
    intro I x hx
    unfold sk_lpI at hx
    split at hx
    · cases hx
    · rename_i y hy
      cases hx
      exact sk_ko_tk hp 17 I y hy
  | m + 1, f, la => by
    intro I x hx
    unfold sk_lpI at hx
    split at hx
    · cases hx
      show sk_uI I 29 3 (I 29 3 + 1) (p + 1) = _ ∧ sk_uI I 29 3 (I 29 3 + 1) (p + 2) = _
      rw [sk_uI_o (by rcases hp with rfl | rfl <;> omega), sk_uI_o (by rcases hp with rfl | rfl <;> omega)]
      exact ⟨rfl, rfl⟩
    · split at hx
      · cases hx
      · rename_i y hy
        have a := hb I y hy
        split at hx
        · have b := sk_ko_lp hp hb m f y.1 _ x hx
          rw [sk_uI_o (by omega), sk_uI_o (by omega)] at b
          exact ⟨b.1.trans a.1, b.2.trans a.2⟩
        · have b := sk_ko_lp hp hb m y.1 y.1 _ x hx
          exact ⟨b.1.trans a.1, b.2.trans a.2⟩
theorem sk_ko_bl {p : Nat} (hp : sk_pg p) : ∀ (k : Nat), sk_ko p (sk_blI p k)
  | 0 => by
    intro I x hx
    unfold sk_blI at hx
    split at hx <;> cases hx
  | k + 1 => by
    intro I x hx
    unfold sk_blI at hx
    split at hx
    · cases hx
    · rename_i y hy
      have a := sk_ko_tk hp 16 I y hy
      have b := sk_ko_lp hp (sk_ko_st hp (sk_ko_bl hp k)) 201 (-1) (-1) _ x hx
      rw [sk_uI_o (by omega), sk_uI_o (by omega)] at b
      exact ⟨b.1.trans a.1, b.2.trans a.2⟩
/-- the methods are well formed -/
def sk_wm (p : Nat) (I : sk_SI) (D : Int → Int) : Prop := ∀ m, 0 ≤ m → m < I p 9 → (0 ≤ I (p + 1) m ∧ I (p + 1) m ≤ 7) ∧ (I (p + 2) m = -1 ∨ (0 ≤ I (p + 2) m ∧ I (p + 2) m < I p 10 ∧ D (I (p + 2) m) = 1))
/-- all that is kept between two methods -/
def sk_wf (p : Nat) (I : sk_SI) (D : Int → Int) : Prop := sk_iv p I ∧ sk_w33 p I ∧ sk_wl p I D ∧ sk_wm p I D
theorem sk_wf_md {p : Nat} (hp : sk_pg p) {I : sk_SI} {D : Int → Int} (h : sk_wf p I D) : (∀ e, sk_mdI p I = .inl e → sk_fb I e) ∧ ∀ x, sk_mdI p I = .inr x → (∃ D', sk_wf p x.2 D') ∧ sk_fp p I x.2 ∧ x.2 p 9 = I p 9 + 1 := by
  obtain ⟨h1, h2, h3, h4⟩ := h
  unfold sk_mdI
  cases htk : sk_tkI 15 I with
  | inl e => exact ⟨fun e' he => by cases he; exact sk_iv_fb h1 (sk_fe_tk htk), fun x hx => by cases hx⟩
  | inr y =>
    have g1 := sk_gd_tk hp h1 (by decide) htk
    have w1 := (sk_fk_tk hp 15 I h1 h2).2 y htk
    have ey := (sk_tk_r htk).1
    obtain ⟨l1, l1p⟩ := sk_wl_tk hp h3 htk
    have ko1 := sk_ko_tk hp 15 I y htk
    have hm1 : sk_wm p y.2 D := by
      intro m m0 m1
      rw [l1p] at m1
      rw [ko1.1, ko1.2, l1p]
      exact h4 m m0 m1
    dsimp only
    by_cases h20 : 20 ≤ y.2 p 9
    · rw [if_pos h20]
      refine ⟨fun e he => ?_, fun x hx => by cases hx⟩
      cases he
      have a := h1.1.2.2.2.1
      have b := h1.2.1
      show 0 ≤ y.2 29 3 - 1 ∧ y.2 29 3 - 1 < I 30 2
      rw [ey, sk_uI_s, sk_up_s]
      omega
    · rw [if_neg h20]
      cases hnu : sk_nuI 7 y.2 with
      | inl e => exact ⟨fun e' he => by cases he; exact sk_fb_30 (sk_iv_fb g1.1 (sk_fe_nu hnu)) (sk_fp_30 hp g1.2.1), fun x hx => by cases hx⟩
      | inr z =>
        obtain ⟨q1, q2, q3, q4⟩ := sk_nuI_r hnu
        have g2 := sk_gd_adv hp g1.1 (by omega)
        rw [← q1] at g2
        have g12 := sk_gd_tr g1 g2
        have w2 : sk_w33 p z.2 := by rw [q1]; exact sk_w33_29 hp w1 _ _
        have l2 : sk_wl p z.2 D := by rw [q1]; exact sk_wl_29 hp l1 _ _
        have q29 : p ≠ 29 ∧ p + 1 ≠ 29 ∧ p + 2 ≠ 29 := by rcases hp with rfl | rfl <;> omega
        have zp : z.2 p = I p := by rw [q1, sk_uI_o q29.1, l1p]
        have z1 : z.2 (p + 1) = I (p + 1) := by rw [q1, sk_uI_o q29.2.1, ko1.1]
        have z2 : z.2 (p + 2) = I (p + 2) := by rw [q1, sk_uI_o q29.2.2, ko1.2]
        have h9 := h1.2.2.2.2.1
        have e9 : y.2 p 9 = I p 9 := by rw [l1p]
        obtain ⟨a1, a2, a3, a4, a5, a6, a7⟩ := sk_iv_am hp g2.1 z.1 (by rw [zp]; omega)
        have w3 : sk_w33 p (sk_amS p z.1 z.2) := sk_w33_cg w2 a4 (a5 33 (by rcases hp with rfl | rfl <;> omega)) (a5 30 (by rcases hp with rfl | rfl <;> omega))
        have l3 : sk_wl p (sk_amS p z.1 z.2) D := by
          intro s s0 s1
          rw [a4] at s1
          rw [a4, a3, a5 (p + 3) (by omega), a5 (p + 4) (by omega), a5 (p + 5) (by omega), a5 (p + 6) (by omega), a5 (p + 7) (by omega), a5 (p + 8) (by omega), a5 (p + 9) (by omega)]
          obtain ⟨r1, r2, r3⟩ := l2 s s0 s1
          exact ⟨r1, ⟨r2.1, by omega⟩, r3⟩
        obtain ⟨b1, b2⟩ := sk_fk_bl hp 12 (by omega) _ a1 w3
        have f12 := sk_fp_tr g12.2.1 a2
        dsimp only
        cases hbl : sk_blI p 12 (sk_amS p z.1 z.2) with
        | inl e => exact ⟨fun e' he => by cases he; exact sk_fb_30 (b1 e hbl) (sk_fp_30 hp f12), fun x hx => by cases hx⟩
        | inr u =>
          refine ⟨fun e he => (by cases he), fun x hx => ?_⟩
          cases hx
          dsimp only
          obtain ⟨g3, u1, u2⟩ := sk_gd_bl hp 12 (by omega) _ u a1 hbl
          obtain ⟨D', c1, c2, c3, c4⟩ := sk_wl_bl hp 12 (by omega) _ D u a1 l3 (by rw [a3, zp]; omega) hbl
          have ko3 := sk_ko_bl hp 12 _ u hbl
          have g4 := sk_gd_row hp g3.1 (p + 2) (z.2 p 9) u.1 (by omega)
          have f9 : u.2 p 9 = I p 9 + 1 := by rw [g3.2.2.2, a3, zp]
          have o : sk_uI u.2 (p + 2) (z.2 p 9) u.1 p = u.2 p := sk_uI_o (by omega)
          refine ⟨⟨D', g4.1, sk_w33_row hp (b2 u hbl) (p + 2) (by omega) _ _, ?_, ?_⟩, ?_, ?_⟩
          · exact sk_wl_cg c1 (by rw [o]) (by rw [o]) (fun c k1 k2 => sk_uI_o (by omega))
          · intro m m0 m1
            rw [o] at m1
            rw [o, sk_uI_o (by omega), sk_uI_s, ko3.1, ko3.2, a6, a7, z1, z2, zp]
            have h10 := h1.2.2.2.1
            have s10 := g3.2.2.1
            rw [a4, zp] at s10
            rw [a4, zp] at c3
            rw [a4, zp] at c2
            by_cases em : m = I p 9
            · subst em
              rw [sk_up_s, sk_up_s]
              refine ⟨by omega, ?_⟩
              rcases c3 with c3 | c3
              · exact Or.inl c3
              · exact Or.inr ⟨by omega, u2, by rw [c3.2]; omega⟩
            · rw [sk_up_o em, sk_up_o em, sk_up_o em]
              have hm := h4 m m0 (by omega)
              refine ⟨hm.1, ?_⟩
              rcases hm.2 with k | k
              · exact Or.inl k
              · exact Or.inr ⟨k.1, by omega, by rw [c2 _ k.2.1]; exact k.2.2⟩
          · exact sk_fp_tr f12 (sk_gd_tr g3 g4).2.1
          · show sk_uI u.2 (p + 2) (z.2 p 9) u.1 p 9 = _
            rw [o, f9]
def sk_mlI (p : Nat) : Nat → sk_SI → sk_PR
  | 0, I => .inr (0, I)
  | m + 1, I => if sk_tok I (I 29 3) = 20 then .inr (0, I) else match sk_mdI p I with
    | .inl e => .inl e
    | .inr x => sk_mlI p m x.2
theorem sk_wf_ml {p : Nat} (hp : sk_pg p) : ∀ (m : Nat) (I : sk_SI) (D : Int → Int), sk_wf p I D → 1 ≤ I p 9 → (∀ e, sk_mlI p m I = .inl e → sk_fb I e) ∧ ∀ x, sk_mlI p m I = .inr x → (∃ D', sk_wf p x.2 D') ∧ sk_fp p I x.2 ∧ 1 ≤ x.2 p 9
  | 0, I, D, h, h9 => ⟨fun e he => (by cases he), fun x hx => by cases hx; exact ⟨⟨D, h⟩, sk_fp_rf p I, h9⟩⟩
  | m + 1, I, D, h, h9 => by
    unfold sk_mlI
    by_cases ht : sk_tok I (I 29 3) = 20
    · rw [if_pos ht]
      exact ⟨fun e he => (by cases he), fun x hx => by cases hx; exact ⟨⟨D, h⟩, sk_fp_rf p I, h9⟩⟩
    · rw [if_neg ht]
      obtain ⟨a1, a2⟩ := sk_wf_md hp h
      cases hmd : sk_mdI p I with
      | inl e => exact ⟨fun e' he => by cases he; exact a1 e hmd, fun x hx => by cases hx⟩
      | inr y =>
        obtain ⟨⟨D', b1⟩, b2, b3⟩ := a2 y hmd
        obtain ⟨c1, c2⟩ := sk_wf_ml hp m y.2 D' b1 (by omega)
        refine ⟨fun e he => sk_fb_30 (c1 e he) (sk_fp_30 hp b2), fun x hx => ?_⟩
        obtain ⟨d1, d2, d3⟩ := c2 x hx
        exact ⟨d1, sk_fp_tr b2 d2, d3⟩
/-- the reader's cells as the first method is begun -/
def sk_ri0 (p : Nat) (I : sk_SI) : sk_SI := sk_uI (sk_uI (sk_cut (sk_uI (sk_uI (sk_uI I p 9 0) p 10 0) p 11 0)) 29 3 0) 29 5 0
def sk_riI (p : Nat) (I : sk_SI) : sk_PR := match sk_mdI p I with
  | .inl e => .inl e
  | .inr x => match sk_mlI p 20 x.2 with
    | .inl e => .inl e
    | .inr y => match sk_amI p y.2 (y.2 p 10).toNat 0 with
      | some e => .inl e
      | none => .inr (0, y.2)
theorem sk_am_fb {p : Nat} {I : sk_SI} (h : sk_w33 p I) : ∀ (n : Nat) (s : Int), 0 ≤ s → s + n = I p 10 → ∀ e, sk_amI p I n s = some e → sk_fb I e
  | 0, s, h0, hn, e, he => by cases he
  | n + 1, s, h0, hn, e, he => by
    unfold sk_amI at he
    split at he
    · cases he
      exact h s h0 (by omega)
    · exact sk_am_fb h n (s + 1) (by omega) (by omega) e he
theorem sk_wf_ri {p : Nat} (hp : sk_pg p) {I : sk_SI} {D : Int → Int} (h : sk_wf p I D) : (∀ e, sk_riI p I = .inl e → sk_fb I e) ∧ ∀ x, sk_riI p I = .inr x → (∃ D', sk_wf p x.2 D') ∧ sk_fp p I x.2 ∧ 1 ≤ x.2 p 9 ∧ sk_amI p x.2 (x.2 p 10).toNat 0 = none := by
  unfold sk_riI
  obtain ⟨a1, a2⟩ := sk_wf_md hp h
  cases hmd : sk_mdI p I with
  | inl e => exact ⟨fun e' he => by cases he; exact a1 e hmd, fun x hx => by cases hx⟩
  | inr y =>
    obtain ⟨⟨D', b1⟩, b2, b3⟩ := a2 y hmd
    have h9 := h.1.2.2.2.2.1
    obtain ⟨c1, c2⟩ := sk_wf_ml hp 20 y.2 D' b1 (by omega)
    dsimp only
    cases hml : sk_mlI p 20 y.2 with
    | inl e => exact ⟨fun e' he => by cases he; exact sk_fb_30 (c1 e hml) (sk_fp_30 hp b2), fun x hx => by cases hx⟩
    | inr z =>
      obtain ⟨⟨D2, d1⟩, d2, d3⟩ := c2 z hml
      have h10 := d1.1.2.2.2.1
      dsimp only
      cases ham : sk_amI p z.2 (z.2 p 10).toNat 0 with
      | some e => exact ⟨fun e' he => by cases he; exact sk_fb_30 (sk_am_fb d1.2.1 _ 0 (by omega) (by omega) e ham) (sk_fp_30 hp (sk_fp_tr b2 d2)), fun x hx => by cases hx⟩
      | none => exact ⟨fun e he => (by cases he), fun x hx => by cases hx; exact ⟨⟨D2, d1⟩, sk_fp_tr b2 d2, d3, ham⟩⟩
theorem sk_ri0_wf {p : Nat} (hp : sk_pg p) {I : sk_SI} (ht : sk_tp I) : sk_wf p (sk_ri0 p I) (fun _ => 0) ∧ (∀ c, c ≠ 29 → c ≠ 30 → c ≠ 31 → c ≠ 32 → c ≠ p → sk_ri0 p I c = I c) ∧ (∀ j, j ≠ 3 → j ≠ 5 → sk_ri0 p I 29 j = I 29 j) ∧ sk_ri0 p I p 9 = 0 ∧ sk_ri0 p I p 10 = 0 ∧ sk_ri0 p I p 11 = 0 ∧ sk_ri0 p I 29 3 = 0 ∧ sk_ri0 p I 29 5 = 0 ∧ (∀ j, j ≠ 9 → j ≠ 10 → j ≠ 11 → sk_ri0 p I p j = I p j) ∧ ∃ N : Nat, sk_ri0 p I 30 2 = N + 1 ∧ (N : Int) ≤ I 1 1 ∧ sk_fr (I 2) (I 1 1) N = I 1 1 ∧ sk_rows (I 2) (I 1 1) (sk_ri0 p I) N ∧ sk_ri0 p I 31 N = 20 ∧ sk_ri0 p I 32 N = I 1 1 := by
  unfold sk_ri0
  generalize hC : sk_uI (sk_uI (sk_uI I p 9 0) p 10 0) p 11 0 = C
  have q : p ≠ 1 ∧ p ≠ 2 ∧ p ≠ 29 ∧ p ≠ 30 ∧ p ≠ 31 ∧ p ≠ 32 := by rcases hp with rfl | rfl <;> omega
  have co : ∀ c, c ≠ p → C c = I c := fun c hc => by rw [← hC, sk_uI_o hc, sk_uI_o hc, sk_uI_o hc]
  have c9 : C p 9 = 0 := by rw [← hC, sk_uI_s, sk_up_o (by decide), sk_uI_s, sk_up_o (by decide), sk_uI_s, sk_up_s]
  have c10 : C p 10 = 0 := by rw [← hC, sk_uI_s, sk_up_o (by decide), sk_uI_s, sk_up_s]
  have c11 : C p 11 = 0 := by rw [← hC, sk_uI_s, sk_up_s]
  have cj : ∀ j, j ≠ 9 → j ≠ 10 → j ≠ 11 → C p j = I p j := fun j j1 j2 j3 => by rw [← hC, sk_uI_s, sk_up_o j3, sk_uI_s, sk_up_o j2, sk_uI_s, sk_up_o j1]
  have e1 : C 1 = I 1 := co 1 (by omega)
  have e2 : C 2 = I 2 := co 2 (by omega)
  have htC : sk_tp C := by unfold sk_tp; rw [e1, e2]; exact ht
  obtain ⟨N, s1, s2, s3, s4, s5, s6, s7, s8⟩ := sk_cut_spec C htC
  rw [e1] at s2 s3 s4 s6
  rw [e2] at s3 s4
  generalize hK : sk_cut C = K at *
  have o : ∀ c, c ≠ 29 → sk_uI (sk_uI K 29 3 0) 29 5 0 c = K c := fun c hc => by rw [sk_uI_o hc, sk_uI_o hc]
  have o3 : sk_uI (sk_uI K 29 3 0) 29 5 0 29 3 = 0 := by rw [sk_uI_s, sk_up_o (by decide), sk_uI_s, sk_up_s]
  have o5 : sk_uI (sk_uI K 29 3 0) 29 5 0 29 5 = 0 := by rw [sk_uI_s, sk_up_s]
  have op := (o p q.2.2.1).trans (s7 p q.2.2.2.1 q.2.2.2.2.1 q.2.2.2.2.2)
  have o30 := o 30 (by decide)
  have o31 := o 31 (by decide)
  have o32 := o 32 (by decide)
  have t1 := ht.2.1
  refine ⟨⟨⟨⟨?_, ?_, ?_, ?_⟩, ?_, ?_, ?_, ?_, ?_⟩, ?_, ?_, ?_⟩, ?_, ?_, ?_, ?_, ?_, o3, o5, ?_, N, ?_, s2, s3, ?_, ?_, ?_⟩
  · rw [o30, s1]; omega
  · rw [o30, s1]; omega
  · intro i i0 i1
    rw [o30, s1] at i1
    rw [o31]
    obtain ⟨n, rfl⟩ := Int.eq_ofNat_of_zero_le i0
    by_cases hn : n = N
    · subst hn; rw [s5]; omega
    · obtain ⟨r1, r2, r3⟩ := s4 n (by omega)
      rw [r2]
      have b1 := sk_fr_b (I 2) ht.1 n
      have b2 := sk_pos_b (I 2) ht.1 n
      have := sk_tk_rel (I 2) (I 1 1) (sk_fr (I 2) (I 1 1) n) 0 ⟨by omega, r1⟩
      exact ⟨this.2.1, this.2.2.1⟩
  · rw [o3]; omega
  · rw [o3, o30, s1]; omega
  · rw [o30, o31, s1, show (N : Int) + 1 - 1 = N by omega]; exact s5
  · rw [op, c10]; omega
  · rw [op, c9]; omega
  · rw [op, c11]; omega
  · intro s z1 z2; rw [op, c10] at z2; omega
  · intro s z1 z2; rw [op, c10] at z2; omega
  · intro s z1 z2; rw [op, c9] at z2; omega
  · intro c k1 k2 k3 k4 k5
    rw [o c k1, s7 c k2 k3 k4, co c k5]
  · intro j j1 j2
    rw [sk_uI_s, sk_up_o j2, sk_uI_s, sk_up_o j1, s7 29 (by decide) (by decide) (by decide), co 29 (by omega)]
  · rw [op, c9]
  · rw [op, c10]
  · rw [op, c11]
  · intro j j1 j2 j3
    rw [op, cj j j1 j2 j3]
  · rw [o30, s1]
  · intro i hi
    rw [o31, o32]
    exact s4 i hi
  · rw [o31]; exact s5
  · rw [o32]; exact s6
