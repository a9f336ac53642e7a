/-! ===== Runner.doStep, beginTurn: the code ===== -/
/-- what a valid step has -/
theorem sk_stp {p : Nat} {D : Int → Int} {I : sk_SI} (h : sk_pv p D I) {s : Int} (h0 : 0 ≤ s) (h1 : s < I p 10) : (0 ≤ I (p + 3) s ∧ I (p + 3) s ≤ 12) ∧ (-1 ≤ I (p + 5) s ∧ I (p + 5) s ≤ 999) ∧ (-1 ≤ I (p + 7) s ∧ I (p + 7) s < 200) ∧ (-1 ≤ I (p + 8) s ∧ I (p + 8) s < 200) ∧ (-1 ≤ I (p + 9) s ∧ I (p + 9) s < 200) ∧ (I (p + 3) s = 1 ∨ I (p + 3) s = 6 → 0 ≤ I (p + 5) s ∧ I (p + 5) s < I p 9) ∧ (I (p + 3) s = 4 ∨ I (p + 3) s = 5 → 0 ≤ I (p + 5) s ∧ I (p + 5) s ≤ 3) ∧ (I (p + 3) s = 8 → 0 ≤ I (p + 5) s ∧ I (p + 5) s ≤ 99) := by
  obtain ⟨v9, v10, vl, vm, vc⟩ := h
  obtain ⟨a1, a2, a3, a4, a5, a6, a7, -⟩ := vl s h0 h1
  have b1 : -1 ≤ sk_mf (I (p + 3) s) ∧ sk_mf (I (p + 3) s) ≤ 999 := by
    have tb : ∀ w, w < 13 → -1 ≤ sk_mf ((w : Nat) : Int) ∧ sk_mf ((w : Nat) : Int) ≤ 999 := by decide
    have := tb (I (p + 3) s).toNat (by omega)
    rw [show (((I (p + 3) s).toNat : Nat) : Int) = I (p + 3) s by omega] at this
    exact this
  unfold sk_no at a3
  refine ⟨a1, by omega, by omega, by omega, by omega, fun z => ?_, fun z => ?_, fun z => ?_⟩
  · have hc := vc s h0 h1 z
    rcases z with z | z <;> rw [z] at a3
    · have : sk_mf 1 = 99 := rfl
      omega
    · have : sk_mf 6 = 99 := rfl
      omega
  · rcases z with z | z <;> rw [z] at a3
    · have : sk_mf 4 = 3 := rfl
      omega
    · have : sk_mf 5 = 3 := rfl
      omega
  · rw [z] at a3
    have : sk_mf 8 = 99 := rfl
    omega
section SKX4
variable {l : Launch} {E : sk_En} {d : Nat} {L : sk_SL} {cu sp io fp p : Nat} {Q : Option sk_V → List sk_Sh → sk_St → Prop} {D lv mc : Int → Int}
theorem c_X_fir (hp : sk_pg p) (I : sk_SI) (s r : Int) (hr : -1 ≤ r ∧ r ≤ 7) (h5 : 0 ≤ I 5 1 ∧ I 5 1 < 3000) (hd : 0 ≤ I 35 5 ∧ I 35 5 ≤ 480) (h10 : 0 ≤ I p 10 ∧ I p 10 ≤ 200) (hF : ∀ i, 0 ≤ i → i < I 35 5 → (0 ≤ I 36 i ∧ I 36 i ≤ 3) ∧ (I 36 i = 1 → 0 ≤ I 37 i ∧ I 37 i < I p 10)) (hq : Q none sk_G (if r = -1 then I else sk_flI p s r I, L, sk_J cu sp io p p fp)) : AW l E (d + 3) 0 0 mX6_failIfRefused 0 [some (vr 34), some (vi s), some (vi r)] [] sk_G (I, L, sk_J cu sp io p p fp) Q := by
  refine AW_run 80 rfl ?_
  refine AW_iceq rfl (fun g => ?_) (fun g => ?_) (by unfold sk_in; omega)
  · rw [if_pos g] at hq
    refine AW_run 80 rfl ?_
    exact AW_vret rfl rfl hq
  · rw [if_neg g] at hq
    refine AW_run 80 rfl ?_
    refine AW_cV (M' := mX6_fail) rfl kkX6_225 lcX6_fail rfl rfl rfl rfl rfl rfl (Nat.le_refl _) ?_
    refine c_X_fail hp I s r h5 hd h10 hF ?_
    refine AW_run 80 rfl ?_
    exact AW_vret rfl rfl hq
theorem c_X_ds (hp : sk_pg p) (I : sk_SI) (s num st : Int) (hX : sk_XV p D lv mc 1 1 I) (hd : 0 < I 35 5) (hs : 0 ≤ s ∧ s < I p 10) (hD : D s = lv (I 35 5 - 1)) (hnum : num = I (p + 5) s) (hst : st = I 39 (I 35 5 - 1)) (hq : Q none sk_G (sk_dsI p s num st I, L, sk_J cu sp io p p fp)) : AW l E (d + 4) 0 0 mX6_doStep 0 [some (vr 34), some (vi s), some (vi num), some (vi st)] [] sk_G (I, L, sk_J cu sp io p p fp) Q := by
  obtain ⟨⟨hpv, hru, h3, hbits, h11⟩, hFV, hV4, hev, hJV, hSV, ⟨t0, t1, t4, t5, tn, tz⟩⟩ := hX
  have hdd := sk_FV_d hFV
  have hpv' := hpv
  obtain ⟨v9, v10, vl, vm, vc⟩ := hpv
  obtain ⟨s3, s5, s7, s8, s9, s16, s45, s88⟩ := sk_stp hpv' hs.1 hs.2
  obtain ⟨f1, f2, f3, f4, f5, f6, f7, f8, f9, f10⟩ := hFV.2 (I 35 5 - 1) (by omega) (by omega)
  have hV4 := hV4 hd
  obtain ⟨w1, w2, w3, w4, w5, w6, w7, w8, w9, w10, w11⟩ := vl s hs.1 hs.2
  have hz : 0 ≤ I 45 4 ∧ I 45 4 < 3021 := by have := hJV.1; omega
  have h5n : 0 ≤ I 5 1 ∧ I 5 1 < 3000 := by omega
  have hF : ∀ i, 0 ≤ i → i < I 35 5 → (0 ≤ I 36 i ∧ I 36 i ≤ 3) ∧ (I 36 i = 1 → 0 ≤ I 37 i ∧ I 37 i < I p 10) := by
    intro i i0 i1
    obtain ⟨g1, g2, g3, g4, g5, g6, g7, g8, g9, g10⟩ := hFV.2 i i0 i1
    exact ⟨g6, fun z => by have := g9 (Or.inl z); omega⟩
  have h36 : I 36 0 = 0 := by
    obtain ⟨g1, g2, g3, g4, g5, g6, g7, g8, g9, g10⟩ := hFV.2 0 (by omega) hd
    apply Classical.byContradiction
    intro z
    have := g8 z
    omega
  have hst2 : -1 ≤ st ∧ st < I 45 4 := by rw [hst]; omega
  have d480 : sk_bs (I (p + 3) s) ≠ 0 → 0 ≤ I 35 5 ∧ I 35 5 < 480 := by
    intro z
    have := w11 z
    omega
  have hs200 : 0 ≤ s ∧ s < 200 := by omega
  have hp' := hp
  have hsl : I (p + 3) s = 4 ∨ I (p + 3) s = 5 → sk_in (I 41 num) := by
    intro z
    have z := s45 z
    rw [← hnum] at z
    have := hSV num z.1 (by omega)
    unfold sk_in
    omega
  have bo := sk_sv_bmp hp (I := I) 7
  have jd : (I (p + 3) s = 0 ∨ I (p + 3) s = 10) → ∀ Q', Q' (some (vi (sk_rf p (sk_bmp 7 I) (I (p + 5) s) (I (p + 6) s) 3021 st))) sk_G (sk_bmp 7 I, L, sk_J cu sp io p p fp) → AW l E (d + 3) 0 0 mX6_judge 0 [some (vr 34), some (vi s), some (vi st)] [] sk_G (I, L, sk_J cu sp io p p fp) Q' := fun hw Q' h => c_X_judge hp I s st hpv' hev hru (by omega) hs hw hst2 h
  have rb : -1 ≤ sk_rf p (sk_bmp 7 I) (I (p + 5) s) (I (p + 6) s) 3021 st ∧ sk_rf p (sk_bmp 7 I) (I (p + 5) s) (I (p + 6) s) 3021 st ≤ 7 := sk_rf_b (sk_pv_cg hpv' bo) (sk_ev_cg hev bo (by unfold sk_bmp; exact sk_uI_o (by decide)) (by unfold sk_bmp; exact sk_uI_o (by decide)) (by unfold sk_bmp; (try simp only [sk_uI_s, sk_uI_o, sk_up_s, sk_up_o, sk_uL_s, sk_uL_o, ne_eq, Nat.reduceEqDiff, Nat.reduceAdd, Int.reduceEq, not_false_eq_true]))) _ _ 3021 st (by unfold sk_bmp; (try simp only [sk_uI_s, sk_uI_o, sk_up_s, sk_up_o, sk_uL_s, sk_uL_o, ne_eq, Nat.reduceEqDiff, Nat.reduceAdd, Int.reduceEq, not_false_eq_true]); exact hst2.2)
  have bp : sk_bmp 7 I p = I p := bo 0 (by omega)
  have b10 : 0 ≤ sk_bmp 7 I p 10 ∧ sk_bmp 7 I p 10 ≤ 200 := by rw [bp]; exact v10
  have b8 : sk_bmp 7 I (p + 8) = I (p + 8) := bo 8 (by omega)
  have b9 : sk_bmp 7 I (p + 9) = I (p + 9) := bo 9 (by omega)
  have bF : ∀ i, 0 ≤ i → i < sk_bmp 7 I 35 5 → (0 ≤ sk_bmp 7 I 36 i ∧ sk_bmp 7 I 36 i ≤ 3) ∧ (sk_bmp 7 I 36 i = 1 → 0 ≤ sk_bmp 7 I 37 i ∧ sk_bmp 7 I 37 i < sk_bmp 7 I p 10) := by
    rw [bp]
    unfold sk_bmp
    (try simp only [sk_uI_s, sk_uI_o, sk_up_s, sk_up_o, sk_uL_s, sk_uL_o, ne_eq, Nat.reduceEqDiff, Nat.reduceAdd, Int.reduceEq, not_false_eq_true])
    exact hF
  have m1 : I (p + 3) s = 1 → 0 ≤ num ∧ num < I p 9 := fun z => by rw [hnum]; exact s16 (Or.inl z)
  have m4 : I (p + 3) s = 4 ∨ I (p + 3) s = 5 → 0 ≤ num ∧ num ≤ 3 := fun z => by rw [hnum]; exact s45 z
  have m8 : I (p + 3) s = 8 → 0 ≤ num ∧ num ≤ 99 := fun z => by rw [hnum]; exact s88 z
  have i8 : sk_in (I (p + 8) s) := by unfold sk_in; omega
  have iw : sk_in (I (p + 3) s) := by unfold sk_in; omega
  have lt9 : I (p + 3) s = 12 ∨ I (p + 3) s = 0 ∨ I (p + 3) s = 1 ∨ I (p + 3) s = 2 ∨ I (p + 3) s = 3 ∨ I (p + 3) s = 4 ∨ I (p + 3) s = 5 ∨ I (p + 3) s = 6 ∨ I (p + 3) s = 7 ∨ I (p + 3) s = 8 ∨ I (p + 3) s = 9 ∨ I (p + 3) s = 10 ∨ I (p + 3) s = 11 := by omega
  clear w1 w2 w3 w4 w5 w6 w7 w8 w9 w10 w11 vl vm vc s3 s5 s7 s9
  unfold sk_dsI at hq
  rcases lt9 with e | e | e | e | e | e | e | e | e | e | e | e | e <;> rw [e] at hq d480 jd hsl m1 m4 m8 <;> simp only [Int.reduceEq, if_true, if_false, or_false, or_true, false_or, true_or, reduceIte] at hq
  · rcases hp with rfl | rfl <;>
    · refine AW_run 80 rfl ?_
      refine AW_iald rfl rfl ⟨by omega, by omega⟩ (by decide) ?_
      refine AW_tout rfl (Or.inr (by rw [e]; decide)) iw ?_
      refine AW_run 80 rfl ?_
      refine AW_cV (M' := mX6_goBack) rfl kkX6_215 lcX6_goBack rfl rfl rfl rfl rfl rfl (Nat.le_refl _) ?_
      refine c_X_gb I (by omega) (fun i a b => (hF i a b).1) h36 ?_
      refine AW_run 80 rfl ?_
      exact AW_vret rfl rfl hq
  · have jd := jd (Or.inl rfl)
    have fir := fun Q' (h : Q' none sk_G (if sk_rf p (sk_bmp 7 I) (I (p + 5) s) (I (p + 6) s) 3021 st = -1 then sk_bmp 7 I else sk_flI p s (sk_rf p (sk_bmp 7 I) (I (p + 5) s) (I (p + 6) s) 3021 st) (sk_bmp 7 I), L, sk_J cu sp io p p fp)) => c_X_fir (l := l) (E := E) (d := d) (Q := Q') hp (sk_bmp 7 I) s _ rb (by unfold sk_bmp; (try simp only [sk_uI_s, sk_uI_o, sk_up_s, sk_up_o, sk_uL_s, sk_uL_o, ne_eq, Nat.reduceEqDiff, Nat.reduceAdd, Int.reduceEq, not_false_eq_true]); exact h5n) (by unfold sk_bmp; (try simp only [sk_uI_s, sk_uI_o, sk_up_s, sk_up_o, sk_uL_s, sk_uL_o, ne_eq, Nat.reduceEqDiff, Nat.reduceAdd, Int.reduceEq, not_false_eq_true]); exact hdd) b10 bF h
    generalize sk_rf p (sk_bmp 7 I) (I (p + 5) s) (I (p + 6) s) 3021 st = r at *
    rcases hp with rfl | rfl <;>
    · refine AW_run 80 rfl ?_
      refine AW_iald rfl rfl ⟨by omega, by omega⟩ (by decide) ?_
      refine AW_tin 0 rfl e rfl iw ?_
      refine AW_run 80 rfl ?_
      refine AW_cV (M' := mX6_judge) rfl kkX6_185 lcX6_judge rfl rfl rfl rfl rfl rfl (Nat.le_refl _) ?_
      refine jd _ ?_
      refine AW_run 80 rfl ?_
      refine AW_cV (M' := mX6_failIfRefused) rfl kkX6_188 lcX6_failIfRefused rfl rfl rfl rfl rfl rfl (Nat.le_refl _) ?_
      refine fir _ ?_
      refine AW_run 80 rfl ?_
      exact AW_vret rfl rfl hq
  · have m1 := m1 rfl
    rcases hp with rfl | rfl <;>
    · refine AW_run 80 rfl ?_
      refine AW_iald rfl rfl ⟨by omega, by omega⟩ (by decide) ?_
      refine AW_tin 1 rfl e rfl iw ?_
      refine AW_run 80 rfl ?_
      refine AW_cV (M' := mX6_openMethod) rfl kkX6_125 lcX6_openMethod rfl rfl rfl rfl rfl rfl (Nat.le_refl _) ?_
      refine c_X_om hp' num st m1 v9.2 (by omega) t4 (fun z => by omega) hz ?_
      refine AW_run 80 rfl ?_
      exact AW_vret rfl rfl hq
  · have d480 := d480 (by decide)
    rcases hp with rfl | rfl <;>
    · refine AW_run 80 rfl ?_
      refine AW_iald rfl rfl ⟨by omega, by omega⟩ (by decide) ?_
      refine AW_tin 2 rfl e rfl iw ?_
      refine AW_run 80 rfl ?_
      refine AW_iald rfl rfl ⟨by omega, by omega⟩ (by decide) ?_
      refine AW_run 80 rfl ?_
      refine AW_cV (M' := mX7_withBlock) (d' := d + 3) rfl kkX6_191 lcX7_withBlock rfl rfl rfl rfl rfl rfl (by omega) ?_
      refine c_St_block (d := d + 1) s st hz ?_
      refine AW_run 80 rfl ?_
      refine AW_cV (M' := mX6_open) (d' := d + 3) rfl kkX6_194 lcX6_open rfl rfl rfl rfl rfl rfl (by omega) ?_
      refine c_X_open (d := d + 2) _ _ _ _ (by (try simp only [sk_uI_s, sk_uI_o, sk_up_s, sk_up_o, sk_uL_s, sk_uL_o, ne_eq, Nat.reduceEqDiff, Nat.reduceAdd, Int.reduceEq, not_false_eq_true]); exact d480) ?_
      refine AW_run 80 rfl ?_
      exact AW_vret rfl rfl hq
  · have d480 := d480 (by decide)
    rcases hp with rfl | rfl <;>
    · refine AW_run 80 rfl ?_
      refine AW_iald rfl rfl ⟨by omega, by omega⟩ (by decide) ?_
      refine AW_tin 3 rfl e rfl iw ?_
      refine AW_run 80 rfl ?_
      refine AW_iald rfl rfl ⟨by omega, by omega⟩ (by decide) ?_
      refine AW_run 80 rfl ?_
      refine AW_cV (M' := mX7_withBlock) (d' := d + 3) rfl kkX6_191 lcX7_withBlock rfl rfl rfl rfl rfl rfl (by omega) ?_
      refine c_St_block (d := d + 1) s st hz ?_
      refine AW_run 80 rfl ?_
      refine AW_cV (M' := mX6_open) (d' := d + 3) rfl kkX6_194 lcX6_open rfl rfl rfl rfl rfl rfl (by omega) ?_
      refine c_X_open (d := d + 2) _ _ _ _ (by (try simp only [sk_uI_s, sk_uI_o, sk_up_s, sk_up_o, sk_uL_s, sk_uL_o, ne_eq, Nat.reduceEqDiff, Nat.reduceAdd, Int.reduceEq, not_false_eq_true]); exact d480) ?_
      refine AW_run 80 rfl ?_
      exact AW_vret rfl rfl hq
  · have m4 := m4 (Or.inl rfl)
    rcases hp with rfl | rfl <;>
    · refine AW_run 80 rfl ?_
      refine AW_iald rfl rfl ⟨by omega, by omega⟩ (by decide) ?_
      refine AW_tin 4 rfl e rfl iw ?_
      refine AW_run 80 rfl ?_
      refine AW_cV (M' := mX6_keep) rfl kkX6_197 lcX6_keep rfl rfl rfl rfl rfl rfl (Nat.le_refl _) ?_
      refine AW_run 80 rfl ?_
      refine AW_within rfl kkX6_118 rfl (by omega) (fun w1 w2 => ?_) (fun w3 => by omega)
      refine AW_run 80 rfl ?_
      first | refine AW_e1 rfl ?_ | refine AW_e0 rfl ?_ | refine AW_n1 rfl ?_ | refine AW_n0 rfl ?_
      refine AW_run 80 rfl ?_
      refine AW_iast rfl rfl ⟨by omega, by omega⟩ (by decide) ?_
      refine AW_run 80 rfl ?_
      refine AW_vret rfl rfl ?_
      refine AW_run 80 rfl ?_
      exact AW_vret rfl rfl hq
  · have d480 := d480 (by decide)
    have m4 := m4 (Or.inr rfl)
    have hsl := hsl (Or.inr rfl)
    rcases hp with rfl | rfl <;>
    · refine AW_run 80 rfl ?_
      refine AW_iald rfl rfl ⟨by omega, by omega⟩ (by decide) ?_
      refine AW_tin 5 rfl e rfl iw ?_
      refine AW_run 80 rfl ?_
      refine AW_cV (M' := mX6_under) rfl kkX6_200 lcX6_under rfl rfl rfl rfl rfl rfl (Nat.le_refl _) ?_
      refine c_X_under hp' I s num m4 hs v10 hsl h5n d480 hz hF ?_
      refine AW_run 80 rfl ?_
      exact AW_vret rfl rfl hq
  · rcases hp with rfl | rfl <;>
    · refine AW_run 80 rfl ?_
      refine AW_iald rfl rfl ⟨by omega, by omega⟩ (by decide) ?_
      refine AW_tin 6 rfl e rfl iw ?_
      refine AW_run 80 rfl ?_
      refine AW_cV (M' := mX6_putOff) (d' := d + 3) rfl kkX6_55 lcX6_putOff rfl rfl rfl rfl rfl rfl (by omega) ?_
      refine c_X_po (d := d + 2) num st hJV.1 ?_
      refine AW_run 80 rfl ?_
      exact AW_vret rfl rfl hq
  · have d480 := d480 (by decide)
    rcases hp with rfl | rfl <;>
    · refine AW_run 80 rfl ?_
      refine AW_iald rfl rfl ⟨by omega, by omega⟩ (by decide) ?_
      refine AW_tin 7 rfl e rfl iw ?_
      refine AW_run 80 rfl ?_
      refine AW_iald rfl rfl ⟨by omega, by omega⟩ (by decide) ?_
      refine AW_run 80 rfl ?_
      refine AW_cV (M' := mX1_push) rfl kkX6_141 lcX1_push rfl rfl rfl rfl rfl rfl (Nat.le_refl _) ?_
      refine c_Fr_push _ _ _ _ d480 ?_
      refine AW_run 80 rfl ?_
      exact AW_vret rfl rfl hq
  · have d480 := d480 (by decide)
    have m8 := m8 rfl
    rcases hp with rfl | rfl <;>
    · refine AW_run 80 rfl ?_
      refine AW_iald rfl rfl ⟨by omega, by omega⟩ (by decide) ?_
      refine AW_tin 8 rfl e rfl iw ?_
      refine AW_run 80 rfl ?_
      refine AW_cV (M' := mX6_repeat) (d' := d + 3) rfl kkX6_203 lcX6_repeat rfl rfl rfl rfl rfl rfl (by omega) ?_
      refine c_X_repeat (d := d + 2) hp' I s num st m8 hs200 i8 d480 ?_
      refine AW_run 80 rfl ?_
      exact AW_vret rfl rfl hq
  · rcases hp with rfl | rfl <;>
    · refine AW_run 80 rfl ?_
      refine AW_iald rfl rfl ⟨by omega, by omega⟩ (by decide) ?_
      refine AW_tin 9 rfl e rfl iw ?_
      refine AW_run 80 rfl ?_
      refine AW_cV (M' := mX4_add) (d' := d + 3) rfl kkX6_206 lcX4_add rfl rfl rfl rfl rfl rfl (by omega) ?_
      refine c_Row_add (d := d + 2) 5 3000 (by unfold sk_row; omega) _ h5n.1 h5n.2 ?_
      refine AW_run 80 rfl ?_
      exact AW_vret rfl rfl hq
  · have jd := jd (Or.inr rfl)
    have d480 := d480 (by decide)
    have fin : ∀ v, v = (if sk_rf p (sk_bmp 7 I) (I (p + 5) s) (I (p + 6) s) 3021 st = -1 then I (p + 8) s else I (p + 9) s) → AW l E (d + 4) 0 0 mX6_doStep 225 [some (vr 34), some (vi s), some (vi num), some (vi st)] [vi st, vi v, vi s, vr 34] sk_G (sk_bmp 7 I, L, sk_J cu sp io p p fp) Q := by
      intro v hv
      rw [← hv] at hq
      refine AW_cV (M' := mX6_open) (d' := d + 3) rfl kkX6_194 lcX6_open rfl rfl rfl rfl rfl rfl (by omega) ?_
      refine c_X_open (d := d + 2) _ _ _ _ (by unfold sk_bmp; (try simp only [sk_uI_s, sk_uI_o, sk_up_s, sk_up_o, sk_uL_s, sk_uL_o, ne_eq, Nat.reduceEqDiff, Nat.reduceAdd, Int.reduceEq, not_false_eq_true]); exact d480) ?_
      refine AW_run 80 rfl ?_
      exact AW_vret rfl rfl hq
    clear hq
    generalize sk_rf p (sk_bmp 7 I) (I (p + 5) s) (I (p + 6) s) 3021 st = r at *
    rw [← b8, ← b9] at fin
    rcases hp with rfl | rfl <;>
    · refine AW_run 80 rfl ?_
      refine AW_iald rfl rfl ⟨by omega, by omega⟩ (by decide) ?_
      refine AW_tin 10 rfl e rfl iw ?_
      refine AW_run 80 rfl ?_
      refine AW_cV (M' := mX6_judge) rfl kkX6_185 lcX6_judge rfl rfl rfl rfl rfl rfl (Nat.le_refl _) ?_
      refine jd _ ?_
      refine AW_run 80 rfl ?_
      refine AW_icne rfl (fun g => ?_) (fun g => ?_) (by unfold sk_in; omega)
      · have fin := fin _ (by rw [if_neg g])
        refine AW_run 80 rfl ?_
        refine AW_iald rfl rfl ⟨by omega, by omega⟩ (by decide) ?_
        refine AW_run 80 rfl ?_
        exact fin
      · have fin := fin _ (by rw [if_pos g])
        refine AW_run 80 rfl ?_
        refine AW_iald rfl rfl ⟨by omega, by omega⟩ (by decide) ?_
        refine AW_run 80 rfl ?_
        exact fin
  · have d480 := d480 (by decide)
    have hbb : -1 ≤ sk_bit I ∧ sk_bit I ≤ 1 := by
      unfold sk_bit
      split
      · rename_i hc
        have := hbits (I 44 5) hc.1 hc.2
        omega
      · omega
    have bit := fun Q' (h : Q' (some (vi (sk_bit I))) sk_G (if sk_bit I = -1 then I else sk_bmp 5 I, L, sk_J cu sp io p p fp)) => c_X_bit (l := l) (E := E) (d := d + 2) (Q := Q') I h3 t5 hbits h
    generalize hS : (if sk_bit I = -1 then I else sk_bmp 5 I) = S at *
    have sp8 : S (p + 8) = I (p + 8) := by rw [← hS]; split; rfl; exact sk_sv_bmp hp 5 8 (by omega)
    have sp9 : S (p + 9) = I (p + 9) := by rw [← hS]; split; rfl; exact sk_sv_bmp hp 5 9 (by omega)
    have s35 : S 35 5 = I 35 5 := by rw [← hS]; split; rfl; unfold sk_bmp; (try simp only [sk_uI_s, sk_uI_o, sk_up_s, sk_up_o, sk_uL_s, sk_uL_o, ne_eq, Nat.reduceEqDiff, Nat.reduceAdd, Int.reduceEq, not_false_eq_true])
    clear hS
    have fin : ∀ v, v = (if sk_bit I = 1 then I (p + 8) s else I (p + 9) s) → AW l E (d + 4) 0 0 mX6_doStep 263 [some (vr 34), some (vi s), some (vi num), some (vi st)] [vi st, vi v, vi s, vr 34] sk_G (S, L, sk_J cu sp io p p fp) Q := by
      intro v hv
      rw [← hv] at hq
      refine AW_cV (M' := mX6_open) (d' := d + 3) rfl kkX6_194 lcX6_open rfl rfl rfl rfl rfl rfl (by omega) ?_
      refine c_X_open (d := d + 2) _ _ _ _ (by rw [s35]; exact d480) ?_
      refine AW_run 80 rfl ?_
      exact AW_vret rfl rfl hq
    clear hq
    generalize sk_bit I = b at *
    rw [← sp8, ← sp9] at fin
    rcases hp with rfl | rfl <;>
    · refine AW_run 80 rfl ?_
      refine AW_iald rfl rfl ⟨by omega, by omega⟩ (by decide) ?_
      refine AW_tin 11 rfl e rfl iw ?_
      refine AW_run 80 rfl ?_
      refine AW_cV (M' := mX6_takeBit) (d' := d + 3) rfl kkX6_212 lcX6_takeBit rfl rfl rfl rfl rfl rfl (by omega) ?_
      refine bit _ ?_
      refine AW_run 80 rfl ?_
      refine AW_icne rfl (fun g => ?_) (fun g => ?_) (by unfold sk_in; omega)
      · have fin := fin _ (by rw [if_neg g])
        refine AW_run 80 rfl ?_
        refine AW_iald rfl rfl ⟨by omega, by omega⟩ (by decide) ?_
        refine AW_run 80 rfl ?_
        exact fin
      · have fin := fin _ (by rw [if_pos g])
        refine AW_run 80 rfl ?_
        refine AW_iald rfl rfl ⟨by omega, by omega⟩ (by decide) ?_
        refine AW_run 80 rfl ?_
        exact fin
end SKX4
