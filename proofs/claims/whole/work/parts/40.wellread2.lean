/-! ===== what is read is well formed: steps and blocks ===== -/
theorem sk_asI_rows (p : Nat) (w : Int) (I : sk_SI) : sk_asI p w I (p + 3) = sk_up (I (p + 3)) (I p 10) w ∧ sk_asI p w I (p + 4) = sk_up (I (p + 4)) (I p 10) (I p 9 - 1) ∧ sk_asI p w I (p + 5) = sk_up (I (p + 5)) (I p 10) (-1) ∧ sk_asI p w I (p + 6) = sk_up (I (p + 6)) (I p 10) (-1) ∧ sk_asI p w I (p + 7) = sk_up (I (p + 7)) (I p 10) (-1) ∧ sk_asI p w I (p + 8) = sk_up (I (p + 8)) (I p 10) (-1) ∧ sk_asI p w I (p + 9) = sk_up (I (p + 9)) (I p 10) (-1) ∧ sk_asI p w I p = sk_up (I p) 10 (I p 10 + 1) ∧ ∀ c, c ≠ p → ¬ (p + 3 ≤ c ∧ c ≤ p + 9) → sk_asI p w I c = I c := by
  unfold sk_asI
  refine ⟨?_, ?_, ?_, ?_, ?_, ?_, ?_, ?_, fun c h1 h2 => ?_⟩
  · rw [sk_uI_o (by omega), sk_uI_o (by omega), sk_uI_o (by omega), sk_uI_o (by omega), sk_uI_o (by omega), sk_uI_o (by omega), sk_uI_o (by omega), sk_uI_s]
  · rw [sk_uI_o (by omega), sk_uI_o (by omega), sk_uI_o (by omega), sk_uI_o (by omega), sk_uI_o (by omega), sk_uI_o (by omega), sk_uI_s, sk_uI_o (by omega)]
  · rw [sk_uI_o (by omega), sk_uI_o (by omega), sk_uI_o (by omega), sk_uI_o (by omega), sk_uI_o (by omega), sk_uI_s, sk_uI_o (by omega), sk_uI_o (by omega)]
  · rw [sk_uI_o (by omega), sk_uI_o (by omega), sk_uI_o (by omega), sk_uI_o (by omega), sk_uI_s, sk_uI_o (by omega), sk_uI_o (by omega), sk_uI_o (by omega)]
  · rw [sk_uI_o (by omega), sk_uI_o (by omega), sk_uI_o (by omega), sk_uI_s, sk_uI_o (by omega), sk_uI_o (by omega), sk_uI_o (by omega), sk_uI_o (by omega)]
  · rw [sk_uI_o (by omega), sk_uI_o (by omega), sk_uI_s, sk_uI_o (by omega), sk_uI_o (by omega), sk_uI_o (by omega), sk_uI_o (by omega), sk_uI_o (by omega)]
  · rw [sk_uI_o (by omega), sk_uI_s, sk_uI_o (by omega), sk_uI_o (by omega), sk_uI_o (by omega), sk_uI_o (by omega), sk_uI_o (by omega), sk_uI_o (by omega)]
  · rw [sk_uI_s, sk_uI_o (by omega), sk_uI_o (by omega), sk_uI_o (by omega), sk_uI_o (by omega), sk_uI_o (by omega), sk_uI_o (by omega), sk_uI_o (by omega)]
  · rw [sk_uI_o (by omega), sk_uI_o (by omega), sk_uI_o (by omega), sk_uI_o (by omega), sk_uI_o (by omega), sk_uI_o (by omega), sk_uI_o (by omega), sk_uI_o (by omega)]
theorem sk_tk_o {due : Int} {I : sk_SI} {x : Int × sk_SI} (hx : sk_tkI due I = .inr x) (c : Nat) (hc : c ≠ 29) : x.2 c = I c := by
  unfold sk_tkI at hx
  split at hx
  · cases hx
    exact sk_uI_o hc
  · cases hx
/-- blocks at k more give well formed programs -/
def sk_wb (p : Nat) (k : Nat) (bl : sk_SI → sk_PR) : Prop := ∀ (I : sk_SI) (D : Int → Int) (x : Int × sk_SI), sk_iv p I → sk_wl p I D → 1 ≤ I p 9 → bl I = .inr x → ∃ D', sk_wl p x.2 D' ∧ (∀ j, j < I p 10 → D' j = D j) ∧ (x.1 = -1 ∨ (I p 10 ≤ x.1 ∧ D' x.1 = 13 - k)) ∧ ∀ j, 0 ≤ j → j < I p 10 → x.2 (p + 3) j = I (p + 3) j
theorem sk_wl_rr {p k : Nat} (hp : sk_pg p) (hk : k ≤ 12) {bl : sk_SI → sk_PR} (hg : ∀ I x, sk_iv p I → bl I = .inr x → sk_gd p I x.2 ∧ -1 ≤ x.1 ∧ x.1 < x.2 p 10) (hb : sk_wb p k bl) {I : sk_SI} {D : Int → Int} {s w : Int} (h : sk_iv p I) (hm : 1 ≤ I p 9) (hl : sk_wl p I D) (h0 : 0 ≤ s) (hs : s < I p 10) (hw : I (p + 3) s = w) (hD : D s = 12 - k) {x : Int × sk_SI} (hx : sk_rrI bl p s w I = .inr x) : ∃ D', sk_wl p x.2 D' ∧ (∀ j, j < I p 10 → D' j = D j) ∧ ∀ j, 0 ≤ j → j < I p 10 → x.2 (p + 3) j = I (p + 3) j := by
  unfold sk_rrI at hx
  split at hx
  · unfold sk_tkI at hx
    split at hx
    · cases hx
      exact ⟨D, sk_wl_29 hp hl _ _, fun _ _ => rfl, fun j _ _ => by show sk_uI I 29 3 _ (p + 3) j = _; rw [sk_uI_o (by rcases hp with rfl | rfl <;> omega)]⟩
    · cases hx
  · rename_i hb0
    split at hx
    · cases hx
    · rename_i y hy
      obtain ⟨D1, d1, d2, d3, d4⟩ := hb I D y h hl hm hy
      obtain ⟨g1, g2, g3⟩ := hg I y h hy
      have gle := g1.2.2.1
      have e1 : sk_wl p (sk_uI y.2 (p + 8) s y.1) D1 := by
        refine sk_wl_8 d1 h0 (by omega) ?_ (by rw [d4 s h0 hs, hw]; exact hb0)
        rcases d3 with d3 | d3
        · exact Or.inl d3
        · have := d2 s hs
          exact Or.inr ⟨by omega, by omega, by omega⟩
      have r1 : ∀ j, 0 ≤ j → j < I p 10 → sk_uI y.2 (p + 8) s y.1 (p + 3) j = I (p + 3) j := fun j a b => by rw [sk_uI_o (by omega)]; exact d4 j a b
      have gS := sk_gd_tr g1 (sk_gd_row hp g1.1 (p + 8) s y.1 (Or.inr (by omega)))
      split at hx
      · cases hx
        exact ⟨D1, e1, d2, r1⟩
      · rename_i hb1
        split at hx
        · cases hx
        · rename_i z hz
          have gz := sk_gd_tr gS (sk_gd_tk hp gS.1 (by split <;> decide) hz)
          obtain ⟨ez, epz⟩ := sk_wl_tk hp e1 hz
          have rz : z.2 (p + 3) = sk_uI y.2 (p + 8) s y.1 (p + 3) := sk_tk_o hz _ (by rcases hp with rfl | rfl <;> omega)
          split at hx
          · cases hx
          · rename_i u hu
            cases hx
            obtain ⟨D2, f1, f2, f3, f4⟩ := hb z.2 D1 u gz.1 ez (by rw [gz.2.2.2]; exact hm) hu
            obtain ⟨k1, k2, k3⟩ := hg z.2 u gz.1 hu
            have gl2 := gz.2.2.1
            have gl3 := k1.2.2.1
            have hbs : sk_bs w = 2 := by
              have := sk_bs_b (hl s h0 hs).1
              rw [hw] at this
              omega
            have r2 : ∀ j, 0 ≤ j → j < I p 10 → u.2 (p + 3) j = I (p + 3) j := fun j a b => by rw [f4 j a (by omega), rz]; exact r1 j a b
            refine ⟨D2, ?_, fun j hj => by rw [f2 j (by omega), d2 j hj], fun j a b => ?_⟩
            · refine sk_wl_9 f1 h0 (by omega) ?_ (by rw [r2 s h0 hs, hw]; exact hbs)
              rcases f3 with f3 | f3
              · exact Or.inl f3
              · have q1 := f2 s (by omega)
                have q2 := d2 s hs
                exact Or.inr ⟨by omega, by omega, by omega⟩
            · show sk_uI u.2 (p + 9) s u.1 (p + 3) j = _
              rw [sk_uI_o (by omega)]
              exact r2 j a b
theorem sk_wl_st {p k : Nat} (hp : sk_pg p) (hk : k ≤ 11) {bl : sk_SI → sk_PR} (hg : ∀ I x, sk_iv p I → bl I = .inr x → sk_gd p I x.2 ∧ -1 ≤ x.1 ∧ x.1 < x.2 p 10) (hb : sk_wb p k bl) (hz0 : k = 0 → ∀ A u, bl A = .inr u → False) {I : sk_SI} {D : Int → Int} (h : sk_iv p I) (hm : 1 ≤ I p 9) (hl : sk_wl p I D) {x : Int × sk_SI} (hx : sk_stI bl p I = .inr x) : ∃ D', sk_wl p x.2 D' ∧ (∀ j, j < I p 10 → D' j = D j) ∧ D' x.1 = 12 - k ∧ ∀ j, 0 ≤ j → j < I p 10 → x.2 (p + 3) j = I (p + 3) j := by
  have hx0 := hx
  unfold sk_stI at hx
  have hb2 := sk_tok_b h.1 (I 29 3)
  split at hx
  · cases hx
  · split at hx
    · cases hx
    · rename_i h12 h200
      have h10 := h.2.2.2.1
      obtain ⟨ga, gb⟩ := sk_gd_as hp h (by omega) (sk_tok I (I 29 3))
      have e29 := sk_asI_29 hp (sk_tok I (I 29 3)) I
      have gc := sk_gd_adv hp ga.1 (by rw [e29, sk_tok_fp hp ga.2.1]; omega)
      rw [e29] at gc
      obtain ⟨r3, r4, r5, r6, r7, r8, r9, r0, rr⟩ := sk_asI_rows p (sk_tok I (I 29 3)) I
      generalize hw : sk_tok I (I 29 3) = w at *
      split at hx
      · cases hx
      · rename_i y hy
        split at hx
        · cases hx
        · rename_i z hz
          cases hx
          have o29 : ∀ c, p ≤ c → c ≤ p + 9 → sk_uI (sk_asI p w I) 29 3 (I 29 3 + 1) c = sk_asI p w I c := fun c c1 c2 => sk_uI_o (by rcases hp with rfl | rfl <;> omega)
          have gn := sk_gd_rn hp gc.1 hy
          have n29 : ∀ c, p ≤ c → c ≤ p + 9 → c ≠ 29 ∧ c ≠ 33 := fun c c1 c2 => by rcases hp with rfl | rfl <;> omega
          obtain ⟨n1, n2, n3, n4, -⟩ := sk_rn_w hp (by rw [o29 (p + 5) (by omega) (by omega), r5, sk_up_s]) (by rw [o29 (p + 6) (by omega) (by omega), r6, sk_up_s]) hy
          have yo : ∀ c, p ≤ c → c ≤ p + 9 → c ≠ p + 5 → c ≠ p + 6 → y.2 c = sk_asI p w I c := fun c c1 c2 c3 c4 => by rw [n4 c c3 c4 (n29 c c1 c2).1 (n29 c c1 c2).2, o29 c c1 c2]
          have y3 : y.2 (p + 3) = sk_up (I (p + 3)) (I p 10) w := by rw [yo _ (by omega) (by omega) (by omega) (by omega), r3]
          have y10 : y.2 p 10 = I p 10 + 1 := by rw [yo _ (by omega) (by omega) (by omega) (by omega)]; exact gb
          have y9 : y.2 p 9 = I p 9 := by rw [yo _ (by omega) (by omega) (by omega) (by omega), r0, sk_up_o (by decide)]
          have hkb : sk_bs w = 0 ∨ 1 ≤ k := by
            by_cases e : sk_bs w = 0
            · exact Or.inl e
            · right
              rcases Nat.eq_zero_or_pos k with k0 | k0
              · exfalso
                unfold sk_rrI at hz
                rw [if_neg e] at hz
                cases hbl : bl y.2 with
                | inl u => rw [hbl] at hz; cases hz
                | inr u => exact hz0 k0 _ u hbl
              · exact k0
          have hl2 : sk_wl p y.2 (sk_up D (I p 10) (12 - k)) := by
            intro t t0 ht
            rw [y10] at ht
            rw [y10, y9, y3, yo (p + 4) (by omega) (by omega) (by omega) (by omega), r4, yo (p + 7) (by omega) (by omega) (by omega) (by omega), r7, yo (p + 8) (by omega) (by omega) (by omega) (by omega), r8, yo (p + 9) (by omega) (by omega) (by omega) (by omega), r9]
            by_cases e : t = I p 10
            · subst e
              rw [sk_up_s, sk_up_s, sk_up_s, sk_up_s, sk_up_s]
              refine ⟨by omega, by omega, n1, n2, Or.inl rfl, Or.inl rfl, Or.inl rfl, fun _ => rfl, fun _ => rfl, ?_, fun z => ?_⟩
              · rw [sk_up_s]; omega
              · rw [sk_up_s]; omega
            · rw [sk_up_o e, sk_up_o e, sk_up_o e, sk_up_o e, sk_up_o e, (n3 t e).1, (n3 t e).2, o29 (p + 5) (by omega) (by omega), o29 (p + 6) (by omega) (by omega), r5, r6, sk_up_o e, sk_up_o e]
              exact sk_w1_mono (hl t t0 (by omega)) (by omega) t0 (by omega) (fun j j0 hj => sk_up_o (by omega))
          obtain ⟨D', a1, a2, a3⟩ := sk_wl_rr hp (by omega) hg hb gn.1 (by rw [y9]; exact hm) hl2 h10.1 (by omega) (by rw [y3, sk_up_s]) (by rw [sk_up_s]) hz
          refine ⟨D', a1, fun j hj => ?_, ?_, fun j j0 hj => ?_⟩
          · rw [a2 j (by omega), sk_up_o (by omega)]
          · show D' (I p 10) = _
            rw [a2 (I p 10) (by omega), sk_up_s]
          · rw [a3 j j0 (by omega), y3, sk_up_o (by omega)]
theorem sk_wl_lp {p k : Nat} (hp : sk_pg p) (hk : k ≤ 11) {bl : sk_SI → sk_PR} (hg : ∀ I x, sk_iv p I → bl I = .inr x → sk_gd p I x.2 ∧ -1 ≤ x.1 ∧ x.1 < x.2 p 10) (hb : sk_wb p k bl) (hz0 : k = 0 → ∀ A u, bl A = .inr u → False) (n0 : Int) (h00 : 0 ≤ n0) : ∀ (m : Nat) (f la : Int) (I : sk_SI) (D : Int → Int) (x : Int × sk_SI), sk_iv p I → 1 ≤ I p 9 → sk_wl p I D → n0 ≤ I p 10 → ((f = -1 ∧ la = -1) ∨ (n0 ≤ f ∧ f < I p 10 ∧ D f = 12 - k ∧ 0 ≤ la ∧ la < I p 10 ∧ D la = 12 - k)) → sk_lpI (sk_stI bl p) p m f la I = .inr x → ∃ D', sk_wl p x.2 D' ∧ (∀ j, j < I p 10 → D' j = D j) ∧ (x.1 = -1 ∨ (n0 ≤ x.1 ∧ D' x.1 = 12 - k)) ∧ ∀ j, 0 ≤ j → j < I p 10 → x.2 (p + 3) j = I (p + 3) j
  | 0, f, la, I, D, x, h, hm, hl, hn, hf, hx => by
    unfold sk_lpI at hx
    split at hx
    · cases hx
    · rename_i y hy
      cases hx
      have p3 : p + 3 ≠ 29 := by rcases hp with rfl | rfl <;> omega
      refine ⟨D, (sk_wl_tk hp hl hy).1, fun _ _ => rfl, ?_, fun j _ _ => by rw [sk_tk_o hy _ p3]⟩
      rcases hf with hf | hf
      · exact Or.inl hf.1
      · exact Or.inr ⟨hf.1, hf.2.2.1⟩
  | m + 1, f, la, I, D, x, h, hm, hl, hn, hf, hx => by
    unfold sk_lpI at hx
    split at hx
    · cases hx
      have p3 : p + 3 ≠ 29 := by rcases hp with rfl | rfl <;> omega
      refine ⟨D, sk_wl_29 hp hl _ _, fun _ _ => rfl, ?_, fun j _ _ => by show sk_uI I 29 3 _ (p + 3) j = _; rw [sk_uI_o p3]⟩
      rcases hf with hf | hf
      · exact Or.inl hf.1
      · exact Or.inr ⟨hf.1, hf.2.2.1⟩
    · split at hx
      · cases hx
      · rename_i y hy
        obtain ⟨D1, a1, a2, a3, a4⟩ := sk_wl_st hp hk hg hb hz0 h hm hl hy
        obtain ⟨g, e1, e2⟩ := sk_gd_st hp (fun A u hA hu => (hg A u hA hu).1) h hy
        have g0 := g.2.2.1
        have h10 := h.2.2.2.1
        have gm : 1 ≤ y.2 p 9 := by rw [g.2.2.2]; exact hm
        split at hx
        · have g2 := sk_gd_row hp g.1 (p + 7) la y.1 (by omega)
          have hfl : n0 ≤ f ∧ f < I p 10 ∧ D f = 12 - k ∧ 0 ≤ la ∧ la < I p 10 ∧ D la = 12 - k := by
            rcases hf with hf | hf
            · omega
            · exact hf
          have q1 := a2 f hfl.2.1
          have q2 := a2 la hfl.2.2.2.2.1
          have w7 := sk_wl_7 a1 hfl.2.2.2.1 (by omega) (v := y.1) ⟨by omega, by omega, by omega⟩
          have e10 : sk_uI y.2 (p + 7) la y.1 p = y.2 p := sk_uI_o (by omega)
          have e3 : sk_uI y.2 (p + 7) la y.1 (p + 3) = y.2 (p + 3) := sk_uI_o (by omega)
          obtain ⟨D2, b1, b2, b3, b4⟩ := sk_wl_lp hp hk hg hb hz0 n0 h00 m f y.1 _ D1 x g2.1 (by rw [e10]; exact gm) w7 (by rw [e10]; omega) (Or.inr (by rw [e10]; omega)) hx
          rw [e10] at b2 b4
          rw [e3] at b4
          exact ⟨D2, b1, fun j hj => by rw [b2 j (by omega), a2 j hj], b3, fun j j0 hj => by rw [b4 j j0 (by omega), a4 j j0 hj]⟩
        · obtain ⟨D2, b1, b2, b3, b4⟩ := sk_wl_lp hp hk hg hb hz0 n0 h00 m y.1 y.1 _ D1 x g.1 gm a1 (by omega) (Or.inr (by omega)) hx
          exact ⟨D2, b1, fun j hj => by rw [b2 j (by omega), a2 j hj], b3, fun j j0 hj => by rw [b4 j j0 (by omega), a4 j j0 hj]⟩
theorem sk_wl_bl {p : Nat} (hp : sk_pg p) : ∀ (k : Nat), k ≤ 12 → sk_wb p k (sk_blI p k)
  | 0, _ => by
    intro I D x h hl hm hx
    unfold sk_blI at hx
    split at hx <;> cases hx
  | k + 1, hk => by
    intro I D x h hl hm hx
    unfold sk_blI at hx
    split at hx
    · cases hx
    · rename_i y hy
      have g1 := sk_gd_tk hp h (by decide) hy
      obtain ⟨l1, l2⟩ := sk_wl_tk hp hl hy
      have p3 : p + 3 ≠ 29 := by rcases hp with rfl | rfl <;> omega
      have y3 := sk_tk_o hy (p + 3) p3
      have h11 := g1.1.2.2.2.2.2
      have g2 := sk_iv_11 hp g1.1 (max (y.2 p 11) (12 - k)) (by omega)
      have h10 := h.2.2.2.1
      have e10 : ∀ v, sk_uI y.2 p 11 v p 10 = I p 10 := fun v => by rw [sk_uI_s, sk_up_o (by decide), l2]
      have e9 : ∀ v, sk_uI y.2 p 11 v p 9 = I p 9 := fun v => by rw [sk_uI_s, sk_up_o (by decide), l2]
      have w11 : sk_wl p (sk_uI y.2 p 11 (max (y.2 p 11) (12 - k))) D := sk_wl_cg l1 (by rw [e10, l2]) (by rw [e9, l2]) (fun c c1 c2 => sk_uI_o (by omega))
      obtain ⟨D2, b1, b2, b3, b4⟩ := sk_wl_lp hp (by omega) (fun A u hA hu => sk_gd_bl hp k (by omega) A u hA hu) (sk_wl_bl hp k (by omega)) (fun k0 A u hu => by
        subst k0
        unfold sk_blI at hu
        split at hu <;> cases hu) (I p 10) h10.1 201 (-1) (-1) _ D x g2.1 (by rw [e9]; exact hm) w11 (by rw [e10]; omega) (Or.inl ⟨rfl, rfl⟩) hx
      rw [e10] at b2 b4
      refine ⟨D2, b1, b2, ?_, fun j j0 hj => ?_⟩
      · rcases b3 with b3 | b3
        · exact Or.inl b3
        · exact Or.inr ⟨b3.1, by have := b3.2; omega⟩
      · rw [b4 j j0 hj, sk_uI_o (by omega), y3]
