/-! ===== the model's program: its methods ===== -/
/-- the owners and starts of the program that is being read -/
def sk_MO (p : Nat) (C I : sk_SI) : Prop := ∀ m, 0 ≤ m → m < C p 9 → I 64 (20 + m) = C (p + 1) m ∧ I 65 (20 + m) = C (p + 2) m
/-- what the model's reading leaves alone -/
def sk_mf2 (I I' : sk_SI) : Prop := (∀ c, c ≠ 59 → ¬ (63 ≤ c ∧ c ≤ 74) → c ≠ 76 → I' c = I c) ∧ (∀ c j, 67 ≤ c ∧ c ≤ 73 → j < 200 → I' c j = I c j) ∧ (∀ j, j ≠ 1 → I' 63 j = I 63 j ∧ I' 66 j = I 66 j ∧ I' 74 j = I 74 j) ∧ (∀ j, j < 20 → I' 64 j = I 64 j ∧ I' 65 j = I 65 j) ∧ ∀ j, ¬ (22 ≤ j ∧ j ≤ 27) → I' 59 j = I 59 j
theorem sk_mf2_rf (I : sk_SI) : sk_mf2 I I := ⟨fun _ _ _ _ => rfl, fun _ _ _ _ => rfl, fun _ _ => ⟨rfl, rfl, rfl⟩, fun _ _ => ⟨rfl, rfl⟩, fun _ _ => rfl⟩
theorem sk_mf2_tr {I I1 I2 : sk_SI} (h1 : sk_mf2 I I1) (h2 : sk_mf2 I1 I2) : sk_mf2 I I2 :=
  ⟨fun c a b x => (h2.1 c a b x).trans (h1.1 c a b x), fun c j a b => (h2.2.1 c j a b).trans (h1.2.1 c j a b), fun j a => ⟨(h2.2.2.1 j a).1.trans (h1.2.2.1 j a).1, (h2.2.2.1 j a).2.1.trans (h1.2.2.1 j a).2.1, (h2.2.2.1 j a).2.2.trans (h1.2.2.1 j a).2.2⟩, fun j a => ⟨(h2.2.2.2.1 j a).1.trans (h1.2.2.2.1 j a).1, (h2.2.2.2.1 j a).2.trans (h1.2.2.2.1 j a).2⟩, fun j a => (h2.2.2.2.2 j a).trans (h1.2.2.2.2 j a)⟩
theorem sk_mf2_fr {I I' : sk_SI} (h : sk_mfr I I') : sk_mf2 I I' := by
  refine ⟨fun c a b x => h.1 c a (by omega) (by omega) x, h.2.1, fun j a => ⟨?_, (h.2.2.1 j a).1, (h.2.2.1 j a).2⟩, fun j _ => ⟨?_, ?_⟩, h.2.2.2⟩
  · rw [h.1 63 (by decide) (by decide) (by decide) (by decide)]
  · rw [h.1 64 (by decide) (by decide) (by decide) (by decide)]
  · rw [h.1 65 (by decide) (by decide) (by decide) (by decide)]
theorem sk_mf2_row (I : sk_SI) (c : Nat) (j v : Int) (h : (c = 63 ∧ j = 1) ∨ ((c = 64 ∨ c = 65) ∧ 20 ≤ j)) : sk_mf2 I (sk_uI I c j v) := by
  have o : ∀ k, k ≠ c → sk_uI I c j v k = I k := fun k hk => sk_uI_o hk
  have one : ∀ k i, (k = c → i ≠ j) → sk_uI I c j v k i = I k i := by
    intro k i hi
    by_cases hk : k = c
    · subst hk; rw [sk_uI_s, sk_up_o (hi rfl)]
    · rw [o k hk]
  exact ⟨fun k a b x => o k (by omega), fun k i a b => one k i (by omega), fun i hi => ⟨one 63 i (by omega), one 66 i (by omega), one 74 i (by omega)⟩, fun i hi => ⟨one 64 i (by omega), one 65 i (by omega)⟩, fun i hi => one 59 i (by omega)⟩
/-- a fault, with the wider frame -/
def sk_M2 (C I : sk_SI) (e : Int × Int) (I' : sk_SI) : Prop := sk_mf2 I I' ∧ I' 59 26 = e.1 ∧ I' 59 27 = C 32 e.2 ∧ ((sk_in (I' 59 24) ∧ sk_in (I' 59 25)) ∧ 0 ≤ I' 66 1 ∧ I' 66 1 ≤ 200) ∧ (1 ≤ e.1 ∧ e.1 ≤ 5)
theorem sk_M2_tr {C C1 I I1 I2 : sk_SI} {e : Int × Int} (h1 : sk_mf2 I I1) (h2 : sk_M2 C1 I1 e I2) (h3 : C1 32 = C 32) : sk_M2 C I e I2 := by
  obtain ⟨a, b, c, x⟩ := h2
  rw [h3] at c
  exact ⟨sk_mf2_tr h1 a, b, c, x⟩
theorem sk_M2_F {C I I' : sk_SI} {e : Int × Int} (h : sk_MF C I e I') : sk_M2 C I e I' := ⟨sk_mf2_fr h.1, h.2⟩
theorem sk_M2_row {C I I' : sk_SI} {e : Int × Int} (h : sk_M2 C I e I') (c : Nat) (j v : Int) (hc : (c = 64 ∨ c = 65) ∧ 20 ≤ j) : sk_M2 C I e (sk_uI I' c j v) := by
  obtain ⟨a, b, x, y, z⟩ := h
  have o : sk_uI I' c j v 59 = I' 59 := sk_uI_o (by omega)
  have o66 : sk_uI I' c j v 66 = I' 66 := sk_uI_o (by omega)
  exact ⟨sk_mf2_tr a (sk_mf2_row I' c j v (by omega)), by rw [o]; exact b, by rw [o]; exact x, by rw [o, o66]; exact y, z⟩
theorem sk_iv_c12 {p : Nat} {C C' : sk_SI} (hp : sk_pg p) (h : sk_iv p C) (hc : ∀ c, c ≠ p + 1 → c ≠ p + 2 → C' c = C c) : sk_iv p C' := by
  have q : ∀ c, c = 29 ∨ c = 30 ∨ c = 31 ∨ c = p → C' c = C c := fun c h => hc c (by rcases hp with rfl | rfl <;> omega) (by rcases hp with rfl | rfl <;> omega)
  unfold sk_iv sk_tv
  rw [q 29 (by omega), q 30 (by omega), q 31 (by omega), q p (by omega)]
  exact h
theorem sk_MR_c12 {t : Int → Int} {n : Int} {p : Nat} {xs : Int} {C C' I : sk_SI} (hp : sk_pg p) (h : sk_MR t n p xs C I) (hc : ∀ c, c ≠ p + 1 → c ≠ p + 2 → C' c = C c) : sk_MR t n p xs C' I := by
  obtain ⟨hi, hm, hP⟩ := h
  have q : ∀ c, c = 29 ∨ c = 30 ∨ c = 31 ∨ c = 32 ∨ c = 33 ∨ c = p → C' c = C c := fun c h => hc c (by rcases hp with rfl | rfl <;> omega) (by rcases hp with rfl | rfl <;> omega)
  refine ⟨sk_iv_c12 hp hi hc, ?_, ?_⟩
  · obtain ⟨a, b, i, c1, c2⟩ := hm
    exact ⟨sk_tkn_cg a (q 30 (by omega)) (q 31 (by omega)) (q 32 (by omega)), b, i, by rw [q 29 (by omega)]; exact c1, c2⟩
  · unfold sk_MP sk_mr1
    rw [q p (by omega), hc (p + 3) (by omega) (by omega), hc (p + 4) (by omega) (by omega), hc (p + 5) (by omega) (by omega), hc (p + 6) (by omega) (by omega), hc (p + 7) (by omega) (by omega), hc (p + 8) (by omega) (by omega), hc (p + 9) (by omega) (by omega), q 32 (by omega), q 33 (by omega)]
    exact hP
/-- the model's cells 64, 65 don't matter there -/
theorem sk_MR_64 {t : Int → Int} {n : Int} {p : Nat} {xs : Int} {C I : sk_SI} (h : sk_MR t n p xs C I) (c : Nat) (hc : c = 64 ∨ c = 65) (j v : Int) : sk_MR t n p xs C (sk_uI I c j v) := by
  obtain ⟨hi, ⟨a, ⟨b1, b2, b3, b4, b5⟩, i, c1, c2⟩, hP⟩ := h
  have o : ∀ k, k ≠ c → sk_uI I c j v k = I k := fun k hk => sk_uI_o hk
  refine ⟨hi, ⟨a, ?_, i, c1, ?_⟩, ?_⟩
  · unfold sk_tm
    rw [o 59 (by omega), o 60 (by omega)]
    exact ⟨b1, b2, b3, b4, b5⟩
  · unfold sk_mat
    rw [o 59 (by omega)]
    exact c2
  · unfold sk_MP sk_mr1
    rw [o 63 (by omega), o 66 (by omega), o 67 (by omega), o 68 (by omega), o 69 (by omega), o 70 (by omega), o 71 (by omega), o 72 (by omega), o 73 (by omega), o 74 (by omega), o 76 (by omega)]
    exact hP
/-- one method more in both -/
theorem sk_MR_9 {t : Int → Int} {n : Int} {p : Nat} {xs : Int} {C I : sk_SI} (hp : sk_pg p) (h : sk_MR t n p xs C I) (v : Int) (hv : 0 ≤ v ∧ v ≤ 20) : sk_MR t n p xs (sk_uI C p 9 v) (sk_uI I 63 1 v) := by
  obtain ⟨hi, hm, hP⟩ := h
  have gd := sk_iv_9 hp hi v hv
  have o : ∀ c, c ≠ 63 → sk_uI I 63 1 v c = I c := fun c hc => sk_uI_o hc
  have q : ∀ c, c ≠ p → sk_uI C p 9 v c = C c := fun c hc => sk_uI_o hc
  have qp : ∀ j, j ≠ 9 → sk_uI C p 9 v p j = C p j := fun j hj => by rw [sk_uI_s, sk_up_o hj]
  refine ⟨gd.1, ?_, ?_⟩
  · obtain ⟨a, ⟨b1, b2, b3, b4, b5⟩, i, c1, c2⟩ := hm
    refine ⟨sk_tkn_fp hp a gd.2, ?_, i, by rw [q 29 (by rcases hp with rfl | rfl <;> omega)]; exact c1, ?_⟩
    · unfold sk_tm
      rw [o 59 (by decide), o 60 (by decide)]
      exact ⟨b1, b2, b3, b4, b5⟩
    · unfold sk_mat
      rw [o 59 (by decide)]
      exact c2
  · obtain ⟨⟨a1, a2, a3⟩, a4⟩ := hP
    unfold sk_MP sk_mr1
    rw [qp 11 (by decide), qp 10 (by decide), q (p + 3) (by omega), q (p + 4) (by omega), q (p + 5) (by omega), q (p + 6) (by omega), q (p + 7) (by omega), q (p + 8) (by omega), q (p + 9) (by omega), q 32 (by rcases hp with rfl | rfl <;> omega), q 33 (by rcases hp with rfl | rfl <;> omega), o 74 (by decide), o 66 (by decide), o 67 (by decide), o 68 (by decide), o 69 (by decide), o 70 (by decide), o 71 (by decide), o 72 (by decide), o 73 (by decide), o 76 (by decide)]
    refine ⟨⟨?_, a2, a3⟩, a4⟩
    rw [sk_uI_s, sk_up_s, sk_uI_s, sk_up_s]
section SKS6
variable {l : Launch} {E : sk_En} {d : Nat} {L : sk_SL} {cu sp io rp tp fp p : Nat} {t : Int → Int} {n : Int} {Q : Option sk_V → List sk_Sh → sk_St → Prop}
theorem sk_nuI_cg {m : Int} {A B : sk_SI} (h29 : A 29 3 = B 29 3) (h30 : A 30 = B 30) (h31 : A 31 = B 31) : (∀ e, sk_nuI m A = .inl e → sk_nuI m B = .inl e) ∧ ∀ x, sk_nuI m A = .inr x → sk_nuI m B = .inr (x.1, sk_uI B 29 3 (B 29 3 + 1)) ∧ x.2 = sk_uI A 29 3 (A 29 3 + 1) := by
  have et : sk_tok A (A 29 3) = sk_tok B (B 29 3) := by unfold sk_tok; rw [h29, h30, h31]
  unfold sk_nuI
  rw [et, h29]
  by_cases h1 : sk_tok B (B 29 3) < 100
  · rw [if_pos h1, if_pos h1]
    exact ⟨fun e he => he, fun x hx => by cases hx⟩
  · rw [if_neg h1, if_neg h1]
    by_cases h2 : 100 + m < sk_tok B (B 29 3)
    · rw [if_pos h2, if_pos h2]
      exact ⟨fun e he => he, fun x hx => by cases hx⟩
    · rw [if_neg h2, if_neg h2]
      exact ⟨fun e he => (by cases he), fun x hx => by cases hx; exact ⟨rfl, rfl⟩⟩
/-- one round of program's loop: a method. More is local 1 -/
theorem c_M_meth (hp : sk_pg p) (C I : sk_SI) (h : sk_MR t n p (-1) C I) (ho : sk_MO p C I) (hF : ∀ e, sk_mdI p C = .inl e → ∀ I', sk_M2 C I e I' → AW l E (d + 33) 0 0 mX10_program 56 [some (vr 59), some (vi 0), none, none] [vi 0] sk_G (I', L, sk_J cu sp io rp tp fp) Q) (hT : ∀ x, sk_mdI p C = .inr x → ∀ I', sk_MR t n p (-1) x.2 I' → sk_MO p x.2 I' → sk_mf2 I I' → ∀ b : Int, (b = if sk_tok x.2 (x.2 29 3) = 20 then 0 else 1) → AW l E (d + 33) 0 0 mX10_program 56 [some (vr 59), some (vi b), none, none] [vi b] sk_G (I', L, sk_J cu sp io rp tp fp) Q) : AW l E (d + 33) 0 0 mX10_program 59 [some (vr 59), some (vi 1), none, none] [] sk_G (I, L, sk_J cu sp io rp tp fp) Q := by
  obtain ⟨a1, a2, a3, a4, a5, a6⟩ := sk_MT_tok h.1 h.2.1
  have hb := sk_tok_b h.1.1 (C 29 3)
  have h26 := h.2.1.2.1.2.2.2.1
  have h9 := h.1.2.2.2.2.1
  have e63 : I 63 1 = C p 9 := h.2.2.1.1
  have du := sk_du_15 _ hb.1 a5
  have blk := c_M_block (l := l) (E := E) (d := d) (L := L) (cu := cu) (sp := sp) (io := io) (rp := rp) (tp := tp) (fp := fp) (t := t) (n := n) hp 12 (by omega)
  have i26 : ∀ {A B : sk_SI} {e : Int × Int} {I'}, sk_M2 A B e I' → sk_in (I' 59 26) ∧ I' 59 26 ≠ 0 := by
    intro A B e I' hI
    have := hI.2.1
    have := hI.2.2.2.2
    unfold sk_in
    omega
  have tw : ∀ e I', sk_mdI p C = .inl e → sk_M2 C I e I' → AW l E (d + 33) 0 0 mX10_program 154 [some (vr 59), some (vi 1), none, none] [vi (I' 59 26)] sk_G (I', L, sk_J cu sp io rp tp fp) Q := by
    intro e I' he hI
    have hF := hF e he I' hI
    refine AW_ifne rfl (fun g => ?_) (fun g => absurd g (i26 hI).2) (i26 hI).1
    refine AW_run 80 rfl ?_
    exact hF
  have tw0 : ∀ e I', sk_mdI p C = .inl e → sk_M2 C I e I' → AW l E (d + 33) 0 0 mX10_program 94 [some (vr 59), some (vi 1), none, none] [vi (I' 59 26)] sk_G (I', L, sk_J cu sp io rp tp fp) Q := by
    intro e I' he hI
    have tw := tw e I' he hI
    refine AW_ifne rfl (fun g => ?_) (fun g => absurd g (i26 hI).2) (i26 hI).1
    refine AW_run 80 rfl ?_
    exact tw
  have must : ¬ (sk_tok C (C 29 3) = 15 ∧ 20 ≤ C p 9) → AW l E (d + 33) 0 0 mX10_program 87 [some (vr 59), some (vi 1), none, none] [vi 13, vr 59] sk_G (I, L, sk_J cu sp io rp tp fp) Q := by
    intro hnm
    refine AW_cV (M' := mX10_must) (d' := d + 6) rfl kkX10_228 lcX10_must rfl rfl rfl rfl rfl rfl (by omega) ?_
    refine c_M_mustF (dc := 15) hp h sk_du_15 (by unfold sk_in; omega) (by omega) (fun e he I' hI => ?_) (fun x hx I1 hI hfr => ?_)
    · have tw0 := tw0 e I' (by unfold sk_mdI; rw [he]) (sk_M2_F hI)
      refine AW_run 80 rfl ?_
      exact tw0
    · obtain ⟨ex, etk⟩ := sk_tk_r hx
      have gx := sk_gd_tk hp h.1 (by decide) hx
      have x9 : x.2 p = C p := by rw [ex, sk_uI_o (by rcases hp with rfl | rfl <;> omega)]
      have hlt : C p 9 < 20 := by omega
      have z26 := hI.2.1.2.1.2.2.2.1
      have m63 : I1 63 1 = C p 9 := by rw [hI.2.2.1.1, x9]
      have hC1 := sk_MR_9 hp hI (C p 9 + 1) (by omega)
      have f1 := sk_mf2_tr (sk_mf2_fr hfr) (sk_mf2_row I1 63 1 (C p 9 + 1) (by omega))
      have ei : 20 + (C p 9 + 1) - 1 = 20 + C p 9 := by omega
      have hb2 : sk_in (20 + C p 9) := by unfold sk_in; omega
      have ed : d + 33 = (d + 31) + 2 := by omega
      have hmd : sk_mdI p C = (match sk_nuI 7 x.2 with
        | .inl e => .inl e
        | .inr y => match sk_blI p 12 (sk_amS p y.1 y.2) with
          | .inl e => .inl e
          | .inr z => .inr (0, sk_uI z.2 (p + 2) (y.2 p 9) z.1)) := by
        unfold sk_mdI
        rw [hx]
        dsimp only
        rw [if_neg (by rw [x9]; omega)]
        all_goals rfl
      have s64 : sk_uI I1 63 1 (C p 9 + 1) 64 = I 64 := by rw [sk_uI_o (by decide), hfr.1 64 (by decide) (by decide) (by decide) (by decide)]
      have s65 : sk_uI I1 63 1 (C p 9 + 1) 65 = I 65 := by rw [sk_uI_o (by decide), hfr.1 65 (by decide) (by decide) (by decide) (by decide)]
      have cg := sk_nuI_cg (m := 7) (A := sk_uI x.2 p 9 (C p 9 + 1)) (B := x.2) (by rw [sk_uI_o (by rcases hp with rfl | rfl <;> omega)]) (sk_uI_o (by rcases hp with rfl | rfl <;> omega)) (sk_uI_o (by rcases hp with rfl | rfl <;> omega))
      have q32x : sk_uI x.2 p 9 (C p 9 + 1) 32 = C 32 := by rw [sk_uI_o (by rcases hp with rfl | rfl <;> omega), ex, sk_uI_o (by decide)]
      have num : AW l E (d + 33) 0 0 mX10_program 125 [some (vr 59), some (vi 1), none, none] [vi 7, vr 59, vi (20 + C p 9), vr 64] sk_G (sk_uI I1 63 1 (C p 9 + 1), L, sk_J cu sp io rp tp fp) Q := by
        generalize sk_uI I1 63 1 (C p 9 + 1) = S1 at *
        refine AW_cV (M' := mX10_numberTo) (d' := d + 6) rfl kkX10_235 lcX10_numberTo rfl rfl rfl rfl rfl rfl (by omega) ?_
        refine c_M_numF hp hC1 (by omega) (fun e he I2 hJ => ?_) (fun y hy I2 hJ hfr2 => ?_)
        · have he2 : sk_mdI p C = .inl e := by rw [hmd, cg.1 e he]
          have hK := sk_M2_row (sk_M2_tr f1 (sk_M2_F hJ) q32x) 64 (20 + C p 9) 0 (by omega)
          have hK2 := sk_M2_row hK 65 (20 + C p 9) (-1) (by omega)
          have tw := tw e _ he2 hK2
          have w63 : I2 63 1 = C p 9 + 1 := by rw [hJ.1.1 63 (by decide) (by decide) (by decide) (by decide), hC1.2.2.1.1, sk_uI_s, sk_up_s]
          refine AW_run 80 rfl ?_
          refine AW_iast rfl rfl ⟨by omega, by omega⟩ (by decide) ?_
          refine AW_run 80 rfl ?_
          refine AW_iald rfl rfl ⟨by omega, by omega⟩ (by decide) ?_
          (try simp only [sk_uI_s, sk_uI_o, sk_up_s, sk_up_o, sk_uL_s, sk_uL_o, ne_eq, Nat.reduceEqDiff, Nat.reduceAdd, Int.reduceEq, not_false_eq_true])
          rw [w63]
          refine AW_run 80 rfl ?_
          rw [ei]
          refine AW_cV (M' := mX10_block) (d' := d + 2) rfl kkX10_238 lcX10_block rfl rfl rfl rfl rfl rfl (by omega) ?_
          refine c_M_block_w (i26 hK).1 (i26 hK).2 _ ?_
          refine AW_run 80 rfl ?_
          refine AW_iast rfl rfl ⟨by omega, by omega⟩ (by decide) ?_
          refine AW_run 80 rfl ?_
          exact tw
        · obtain ⟨hy2, ey⟩ := cg.2 y hy
          rw [hy2] at hmd
          dsimp only at hmd
          have f2 := sk_mf2_tr f1 (sk_mf2_fr hfr2)
          have y9 : sk_uI x.2 29 3 (x.2 29 3 + 1) p 9 = C p 9 := by rw [sk_uI_o (by rcases hp with rfl | rfl <;> omega), x9]
          have gy := sk_gd_adv hp gx.1 (by have := (sk_nuI_r hy2).2.2.1; omega)
          rw [y9] at hmd
          obtain ⟨b1, b2, b3, b4, b5, b6, b7⟩ := sk_iv_am hp gy.1 y.1 (by rw [y9]; omega)
          rw [y9] at b6 b7
          have r1 : sk_uI x.2 29 3 (x.2 29 3 + 1) (p + 1) = C (p + 1) := by rw [sk_uI_o (by rcases hp with rfl | rfl <;> omega), ex, sk_uI_o (by rcases hp with rfl | rfl <;> omega)]
          have r2 : sk_uI x.2 29 3 (x.2 29 3 + 1) (p + 2) = C (p + 2) := by rw [sk_uI_o (by rcases hp with rfl | rfl <;> omega), ex, sk_uI_o (by rcases hp with rfl | rfl <;> omega)]
          rw [r1] at b6
          rw [r2] at b7
          have hR := sk_MR_c12 (C' := sk_amS p y.1 (sk_uI x.2 29 3 (x.2 29 3 + 1))) hp hJ (fun c c1 c2 => by
            unfold sk_amS
            rw [ey, y9]
            by_cases hcp : c = p
            · subst hcp
              have : c ≠ 29 := by rcases hp with rfl | rfl <;> omega
              rw [sk_uI_s, sk_uI_o c2, sk_uI_o c1, sk_uI_o this, sk_uI_o this, sk_uI_s]
            · rw [sk_uI_o hcp, sk_uI_o c2, sk_uI_o c1]
              by_cases h29 : c = 29
              · subst h29
                rw [sk_uI_s, sk_uI_s, sk_uI_o hcp]
              · rw [sk_uI_o h29, sk_uI_o h29, sk_uI_o hcp])
          have hR := sk_MR_64 hR 64 (by omega) (20 + C p 9) y.1
          have f3 := sk_mf2_tr f2 (sk_mf2_row I2 64 (20 + C p 9) y.1 (by omega))
          have w63 : I2 63 1 = C p 9 + 1 := by rw [hJ.2.2.1.1, ey, sk_uI_o (by rcases hp with rfl | rfl <;> omega), sk_uI_s, sk_up_s]
          have q32y : sk_amS p y.1 (sk_uI x.2 29 3 (x.2 29 3 + 1)) 32 = C 32 := by rw [b5 32 (by rcases hp with rfl | rfl <;> omega), sk_uI_o (by decide), ex, sk_uI_o (by decide)]
          generalize hA : sk_amS p y.1 (sk_uI x.2 29 3 (x.2 29 3 + 1)) = A at *
          have bl : AW l E (d + 33) 0 0 mX10_program 146 [some (vr 59), some (vi 1), none, none] [vi 0, vr 59, vi (20 + C p 9), vr 65] sk_G (sk_uI I2 64 (20 + C p 9) y.1, L, sk_J cu sp io rp tp fp) Q := by
            generalize hS3 : sk_uI I2 64 (20 + C p 9) y.1 = S3 at *
            refine AW_cV (M' := mX10_block) (d' := d + 32) rfl kkX10_238 lcX10_block rfl rfl rfl rfl rfl rfl (by omega) ?_
            refine blk A S3 _ hR (fun e he v I4 hv hK => ?_) (fun z hz I4 hK hfr4 => ?_)
            · have he2 : sk_mdI p C = .inl e := by rw [hmd, he]
              have hK2 := sk_M2_row (sk_M2_tr f3 (sk_M2_F hK) q32y) 65 (20 + C p 9) v (by omega)
              have tw := tw e _ he2 hK2
              refine AW_run 80 rfl ?_
              refine AW_iast rfl rfl ⟨by omega, by omega⟩ (by decide) ?_
              refine AW_run 80 rfl ?_
              exact tw
            · rw [hz] at hmd
              have hz2 := hmd
              dsimp only at hz2
              obtain ⟨gz, gz1, gz2⟩ := sk_gd_bl hp 12 (by omega) _ z b1 hz
              have ko := sk_ko_bl hp 12 _ z hz
              have hR2 := sk_MR_64 (sk_MR_c12 (C' := sk_uI z.2 (p + 2) (C p 9) z.1) hp hK (fun c c1 c2 => sk_uI_o c2)) 65 (by omega) (20 + C p 9) z.1
              have f4 := sk_mf2_tr f3 (sk_mf2_tr (sk_mf2_fr hfr4) (sk_mf2_row I4 65 (20 + C p 9) z.1 (by omega)))
              have ho2 : sk_MO p (sk_uI z.2 (p + 2) (C p 9) z.1) (sk_uI I4 65 (20 + C p 9) z.1) := by
                intro m m0 m1
                rw [sk_uI_o (by omega)] at m1
                have z9 : z.2 p 9 = C p 9 + 1 := by rw [gz.2.2.2, b3, y9]
                have k64 : I4 64 = sk_up (I 64) (20 + C p 9) y.1 := by
                  rw [hfr4.1 64 (by decide) (by decide) (by decide) (by decide), ← hS3, sk_uI_s, hfr2.1 64 (by decide) (by decide) (by decide) (by decide), s64]
                have k65 : I4 65 = I 65 := by
                  rw [hfr4.1 65 (by decide) (by decide) (by decide) (by decide), ← hS3, sk_uI_o (by decide), hfr2.1 65 (by decide) (by decide) (by decide) (by decide), s65]
                rw [sk_uI_o (by decide), sk_uI_o (by omega), sk_uI_s, sk_uI_s, k64, k65, ko.1, ko.2, b6, b7]
                by_cases em : m = C p 9
                · subst em
                  rw [sk_up_s, sk_up_s, sk_up_s, sk_up_s]
                  exact ⟨rfl, rfl⟩
                · rw [sk_up_o (by omega), sk_up_o em, sk_up_o (by omega), sk_up_o em, sk_up_o em]
                  exact ho m m0 (by omega)
              have hT := fun b hb => hT _ hz2 _ hR2 ho2 f4 b hb
              obtain ⟨c1, c2, c3, c4, c5, c6⟩ := sk_MT_tok hR2.1 hR2.2.1
              have hb3 := sk_tok_b hR2.1.1 (sk_uI z.2 (p + 2) (C p 9) z.1 29 3)
              have du2 := sk_du_20 _ hb3.1 c5
              have y26 := hR2.2.1.2.1.2.2.2.1
              generalize sk_uI z.2 (p + 2) (C p 9) z.1 = Z at *
              refine AW_run 80 rfl ?_
              refine AW_iast rfl rfl ⟨by omega, by omega⟩ (by decide) ?_
              generalize sk_uI I4 65 (20 + C p 9) z.1 = S5 at *
              refine AW_run 80 rfl ?_
              refine AW_ifne rfl (fun g => absurd y26 g) (fun g => ?_) (by rw [y26]; unfold sk_in; omega)
              refine AW_run 80 rfl ?_
              refine AW_iceq rfl (fun g2 => ?_) (fun g2 => ?_) (by unfold sk_in; omega)
              · rw [c1] at g2
                have hT := hT 0 (by rw [if_pos (du2.mp g2)])
                refine AW_run 80 rfl ?_
                exact hT
              · rw [c1] at g2
                have hT := hT 1 (by rw [if_neg (fun z => g2 (du2.mpr z))])
                refine AW_run 80 rfl ?_
                exact hT
          refine AW_run 80 rfl ?_
          refine AW_iast rfl rfl ⟨by omega, by omega⟩ (by decide) ?_
          refine AW_run 80 rfl ?_
          refine AW_iald rfl rfl ⟨by omega, by omega⟩ (by decide) ?_
          (try simp only [sk_uI_s, sk_uI_o, sk_up_s, sk_up_o, sk_uL_s, sk_uL_o, ne_eq, Nat.reduceEqDiff, Nat.reduceAdd, Int.reduceEq, not_false_eq_true])
          rw [w63]
          refine AW_run 80 rfl ?_
          rw [ei]
          exact bl
      refine AW_run 80 rfl ?_
      refine AW_ifne rfl (fun g => absurd z26 g) (fun g => ?_) (by rw [z26]; unfold sk_in; omega)
      refine AW_run 80 rfl ?_
      refine AW_iald rfl rfl ⟨by omega, by omega⟩ (by decide) ?_
      rw [m63]
      refine AW_run 80 rfl ?_
      refine AW_iast rfl rfl ⟨by omega, by omega⟩ (by decide) ?_
      refine AW_run 80 rfl ?_
      refine AW_iald rfl rfl ⟨by omega, by omega⟩ (by decide) ?_
      (try simp only [sk_uI_s, sk_uI_o, sk_up_s, sk_up_o, sk_uL_s, sk_uL_o, ne_eq, Nat.reduceEqDiff, Nat.reduceAdd, Int.reduceEq, not_false_eq_true])
      refine AW_run 80 rfl ?_
      rw [ei]
      exact num
  refine AW_run 80 rfl ?_
  refine AW_icne rfl (fun g => ?_) (fun g => ?_) (by unfold sk_in; omega)
  · have must := must (fun z => g (by rw [a1]; exact du.mpr z.1))
    refine AW_run 80 rfl ?_
    exact must
  · rw [a1] at g
    have g := du.mp g
    refine AW_run 80 rfl ?_
    refine AW_iald rfl rfl ⟨by omega, by omega⟩ (by decide) ?_
    refine AW_run 80 rfl ?_
    refine AW_icne rfl (fun g2 => ?_) (fun g2 => ?_) (by unfold sk_in; omega)
    · have must := must (by omega)
      refine AW_run 80 rfl ?_
      exact must
    · have hMF := sk_MF_wr h 4 (by omega)
      have htk : sk_tkI 15 C = .inr (0, sk_uI C 29 3 (C 29 3 + 1)) := by unfold sk_tkI; rw [if_pos g]
      have tw0 := tw0 (4, C 29 3) _ (by
        unfold sk_mdI
        rw [htk]
        dsimp only
        rw [if_pos (by rw [sk_uI_o (by rcases hp with rfl | rfl <;> omega)]; omega), sk_uI_s, sk_up_s, show C 29 3 + 1 - 1 = C 29 3 by omega]) (sk_M2_F hMF)
      refine AW_run 80 rfl ?_
      refine AW_cV (M' := mX10_wrong) (d' := d) rfl kkX10_226 lcX10_wrong rfl rfl rfl rfl rfl rfl (by omega) ?_
      refine c_M_wrong 4 (by rw [h26]; unfold sk_in; omega) ?_
      generalize sk_mwr I 4 = S at *
      refine AW_run 80 rfl ?_
      refine AW_cV (M' := mX10_must) (d' := d + 6) rfl kkX10_228 lcX10_must rfl rfl rfl rfl rfl rfl (by omega) ?_
      refine c_M_must_w (d := d + 5) (i26 (sk_M2_F hMF)).1 (i26 (sk_M2_F hMF)).2 _ ?_
      refine AW_run 80 rfl ?_
      exact tw0
end SKS6
