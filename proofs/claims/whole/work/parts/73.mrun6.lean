/-! ===== the model's perform ===== -/
theorem sk_stj {p : Nat} {D : Int → Int} {C : sk_SI} (h : sk_pv p D C) {s : Int} (h0 : 0 ≤ s) (h1 : s < C p 10) (hw : C (p + 3) s = 0 ∨ C (p + 3) s = 10) : 0 ≤ C (p + 5) s ∧ C (p + 5) s ≤ 7 ∧ 0 ≤ C (p + 6) s ∧ C (p + 6) s ≤ 9 := by
  obtain ⟨w1, w2, w3, w4, -⟩ := h.2.2.1 s h0 h1
  unfold sk_no at w3 w4
  clear h w1 w2
  rcases hw with z | z <;> rw [z] at w3 w4
  · have : sk_mf 0 = 7 := rfl
    have : sk_ms 0 = 9 := rfl
    omega
  · have : sk_mf 10 = 7 := rfl
    have : sk_ms 10 = 9 := rfl
    omega
section SKY6
variable {l : Launch} {E : sk_En} {d : Nat} {L : sk_SL} {cu sp io rp tp fp p : Nat} {Q : Option sk_V → List sk_Sh → sk_St → Prop} {D lv mc : Int → Int} {a b : Int}
theorem c_M_gb_lp (hp : sk_pg p) (s ow : Int) : ∀ (n : Nat) (C I : sk_SI), sk_XV p D lv mc a b C → sk_RR p C I → 1 ≤ C 35 5 → C 35 5 ≤ n → C 36 0 = 0 → (∀ I', sk_RR p (sk_clI (sk_gbL n C)) I' → sk_rfr I I' → Q none sk_G (I', L, sk_J cu sp io rp tp fp)) → AW l E (d + 2) 0 0 mX10_perform 520 [some (vr 59), some (vi s), some (vi ow), none] [vi (I 59 37 - 1), vr 83] sk_G (I, L, sk_J cu sp io rp tp fp) Q
  | 0, C, I, hX, h, h1, hn, h0, hq => by omega
  | n + 1, C, I, hX, h, h1, hn, h0, hq => by
    have hd2 := sk_FV_d hX.2.1
    have e37 : I 59 37 = C 35 5 := h.1.2.1.1
    obtain ⟨r1, r2, r3, r4, r5⟩ := h.1.2.1.2 (C 35 5 - 1) (by omega) (by omega)
    obtain ⟨f1, f2, f3, f4, f5, f6, -⟩ := hX.2.1.2 (C 35 5 - 1) (by omega) (by omega)
    obtain ⟨k1, k2, k7, k8, k20⟩ := sk_kr_in r1 f6
    have hcl := sk_RR_cl hp h (by omega) f6
    have c35 := sk_clI_d C
    have ki : sk_in (I 83 (I 59 37 - 1)) := by rw [e37]; unfold sk_in; omega
    unfold sk_gbL at hq
    refine AW_iald rfl rfl ⟨by omega, by omega⟩ (by decide) ?_
    refine AW_run 80 rfl ?_
    refine AW_iceq rfl (fun g2 => ?_) (fun g2 => ?_) ki
    · rw [e37] at g2
      rw [if_pos (k20.mp g2)] at hq
      have hq := hq _ hcl (sk_rfr_mcl I)
      refine AW_run 80 rfl ?_
      refine AW_cV (M' := mX10_close) (d' := d + 1) rfl kkX10_290 lcX10_close rfl rfl rfl rfl rfl rfl (by omega) ?_
      refine c_M_close (by omega) ki ?_
      refine AW_run 80 rfl ?_
      exact AW_vret rfl rfl hq
    · rw [e37] at g2
      have hr : ¬ C 36 (C 35 5 - 1) = 0 := fun z => g2 (k20.mpr z)
      rw [if_neg hr] at hq
      have hd3 : 1 ≤ C 35 5 - 1 := by
        apply Classical.byContradiction
        intro z
        have : C 35 5 - 1 = 0 := by omega
        rw [this] at hr
        exact hr h0
      have ih := c_M_gb_lp hp s ow n (sk_clI C) (sk_mcl I) (sk_XV_cl hp hX (by omega)) hcl (by omega) (by omega) (by rw [sk_clI_o C 36 (by decide) (by decide)]; exact h0) (fun I' g1 g2 => hq I' g1 (sk_rfr_tr (sk_rfr_mcl I) g2))
      refine AW_run 80 rfl ?_
      refine AW_cV (M' := mX10_close) (d' := d + 1) rfl kkX10_290 lcX10_close rfl rfl rfl rfl rfl rfl (by omega) ?_
      refine c_M_close (by omega) ki ?_
      refine AW_run 80 rfl ?_
      exact ih
theorem c_M_judF (hp : sk_pg p) (C I : sk_SI) (hX : sk_XV p D lv mc a b C) (h : sk_RR p C I) (ha : 0 ≤ a) (st k v : Int) (hk : 0 ≤ k ∧ k ≤ 7) (hl : 0 ≤ v ∧ v ≤ 9) (hs : 0 ≤ st ∧ st < C 45 4) (hq : Q (some (vi (sk_rf p C k v 3021 st))) sk_G (I, L, sk_J cu sp io rp tp fp)) : AW l E (d + 1) 0 0 mX10_judge 0 [some (vr 59), some (vi st), some (vi k), some (vi v), none, none, none, none] [] sk_G (I, L, sk_J cu sp io rp tp fp) Q := by
  obtain ⟨t0, t1, t2, t3, t4, t5⟩ := sk_TV_45 hX
  exact c_M_judge hX.1.1 hX.2.2.2.1 hX.1.2.1 (by omega) h.1.2.2.2.1.2 h.1.1.2.2.1 st k v hk hl (by omega) hq
theorem c_M_perf (hp : sk_pg p) (C I1 : sk_SI) (s : Int) (hX : sk_XV p D lv mc 1 1 C) (h : sk_RR p C (sk_uI I1 59 43 (C (p + 7) s))) (hd : 0 < C 35 5) (hs : 0 ≤ s ∧ s < C p 10) (hD : D s = lv (C 35 5 - 1)) (hn : C 38 (C 35 5 - 1) = C (p + 7) s) (hq : ∀ I', sk_RR p (sk_dsI p s (C (p + 5) s) (C 39 (C 35 5 - 1)) C) I' → sk_rfr I1 I' → Q none sk_G (I', L, sk_J cu sp io rp tp fp)) (hsp : C (p + 3) s = 8 → 0 < C (p + 5) s → C (p + 8) s = -1 → Q none sk_G (sk_mop 8 s (-1) (C (p + 5) s - 1) (sk_uI I1 59 43 (C (p + 7) s)), L, sk_J cu sp io rp tp fp)) : AW l E (d + 3) 0 0 mX10_perform 0 [some (vr 59), some (vi s), none, none] [] sk_G (I1, L, sk_J cu sp io rp tp fp) Q := by
  have hpv := hX.1.1
  obtain ⟨t0, t1, t2, t3, t4, t5⟩ := sk_TV_45 hX
  have hdd := sk_FV_d hX.2.1
  have v9 := hpv.1
  have v10 := hpv.2.1
  obtain ⟨s3, s5, s7, s8, s9, s16, s45, s88⟩ := sk_stp hpv hs.1 hs.2
  obtain ⟨w1, w2, w3, w4, w5, w6, w7, w8, w9, w10, w11⟩ := hpv.2.2.1 s hs.1 hs.2
  obtain ⟨f1, f2, f3, f4, f5, f6, f7, f8, f9, f10⟩ := hX.2.1.2 (C 35 5 - 1) (by omega) (by omega)
  have hV4 := hX.2.2.1 hd
  have m40 : 1 ≤ mc (C 35 5 - 1) ∧ mc (C 35 5 - 1) ≤ 40 := f2
  clear f1 f2 f3 f4 f6 f7 f8 f9 f10 w1 w3 w4 w5 w6 w7 w8 w9 w10 w11
  have frI : sk_rfr I1 (sk_uI I1 59 43 (C (p + 7) s)) := sk_rfr_u (sk_rfr_rf I1) 59 43 _ (by omega)
  have g67 : ∀ c, c ≠ 59 → sk_uI I1 59 43 (C (p + 7) s) c = I1 c := fun c hc => sk_uI_o hc
  obtain ⟨z67, z68, z69, z70, z71, z72, z73⟩ := h.1.1.2.1 s hs.1 hs.2
  obtain ⟨z64, z65⟩ := h.1.1.1 (C (p + 4) s) w2.1 w2.2
  rw [g67 68 (by decide)] at z68
  rw [g67 71 (by decide)] at z71
  rw [g67 64 (by decide)] at z64
  have hq : ∀ I', sk_RR p (sk_dsI p s (C (p + 5) s) (C 39 (C 35 5 - 1)) C) I' → sk_rfr (sk_uI I1 59 43 (C (p + 7) s)) I' → Q none sk_G (I', L, sk_J cu sp io rp tp fp) := fun I' g1 g2 => hq I' g1 (sk_rfr_tr frI g2)
  have body : AW l E (d + 3) 0 0 mX10_perform 28 [some (vr 59), some (vi s), some (vi (C (p + 1) (C (p + 4) s))), none] [vi (C (p + 3) s)] sk_G (sk_uI I1 59 43 (C (p + 7) s), L, sk_J cu sp io rp tp fp) Q := by
    generalize sk_uI I1 59 43 (C (p + 7) s) = I at *
    have e35 : I 59 35 = C 39 (C 35 5 - 1) := (h.1.2.2.1 hd).1
    have e37 : I 59 37 = C 35 5 := h.1.2.1.1
    have e29 : I 59 29 = C 45 4 := h.1.2.2.2.1.1
    have e47 : I 59 47 = C 34 10 - 1 := h.1.2.2.2.2.2.1.1
    have e10 : 1 ≤ C 34 10 := h.1.2.2.2.2.2.1.2.2
    have e58 : I 59 58 = C 5 1 := h.1.2.2.2.2.2.2.2.1
    have e44 : I 59 44 = C 34 12 := h.2.1 hd
    have e54 := h.2.2
    have tn := hX.2.2.2.2.2.2.2.2.2.2.1
    have i37 : 0 ≤ I 59 37 ∧ I 59 37 < 600 := by omega
    have i29 : 0 ≤ I 59 29 ∧ I 59 29 < 3100 := by omega
    have i58 : 0 ≤ I 59 58 ∧ I 59 58 < 3100 := by omega
    have iw : sk_in (C (p + 3) s) := by unfold sk_in; omega
    have h5n : 0 ≤ C 5 1 ∧ C 5 1 < 3000 := by omega
    have htop : (if s = -1 then -1 else I 71 s) = C 38 (C 35 5 - 1) := by rw [if_neg (by omega), hn]; exact (h.1.1.2.1 s hs.1 hs.2).2.2.2.2.1
    generalize hst : C 39 (C 35 5 - 1) = st at *
    have opn : ∀ (C2 I2 : sk_SI) (r n t k : Int), sk_RR p C2 I2 → C2 35 5 = C 35 5 → C2 p = C p → C2 38 = C 38 → C2 39 = C 39 → C2 (p + 7) = C (p + 7) → 1 ≤ r ∧ r ≤ 3 → sk_kr r k → sk_RR p (sk_uI (sk_fpu r s n st C2) 40 (C2 35 5) t) (sk_mop k s n t I2) := by
      intro C2 I2 r n t k hR q1 q2 q3 q4 q5 hr hk
      exact sk_RR_push hp hR (by rw [q1]; exact hd) r s n st t k hr hk (by rw [q2]; exact hs) (by rw [q1, q3, q5]; exact hn) (by rw [q1, q4]; exact hst.symm)
    have h7 := sk_RR_bmp hp h 7 56 (by omega)
    have X7 := sk_XV_bmp hp hX 7 (by omega)
    have fr7 : sk_rfr I (sk_uI I 59 56 (I 59 56 + 1)) := sk_rfr_u (sk_rfr_rf I) 59 56 _ (by omega)
    have b35 : sk_bmp 7 C 35 = C 35 := by unfold sk_bmp; (try simp only [sk_uI_s, sk_uI_o, sk_up_s, sk_up_o, sk_uL_s, sk_uL_o, ne_eq, Nat.reduceEqDiff, Nat.reduceAdd, Int.reduceEq, not_false_eq_true])
    have b38 : sk_bmp 7 C 38 = C 38 := by unfold sk_bmp; (try simp only [sk_uI_s, sk_uI_o, sk_up_s, sk_up_o, sk_uL_s, sk_uL_o, ne_eq, Nat.reduceEqDiff, Nat.reduceAdd, Int.reduceEq, not_false_eq_true])
    have b39 : sk_bmp 7 C 39 = C 39 := by unfold sk_bmp; (try simp only [sk_uI_s, sk_uI_o, sk_up_s, sk_up_o, sk_uL_s, sk_uL_o, ne_eq, Nat.reduceEqDiff, Nat.reduceAdd, Int.reduceEq, not_false_eq_true])
    have b45 : sk_bmp 7 C 45 = C 45 := by unfold sk_bmp; (try simp only [sk_uI_s, sk_uI_o, sk_up_s, sk_up_o, sk_uL_s, sk_uL_o, ne_eq, Nat.reduceEqDiff, Nat.reduceAdd, Int.reduceEq, not_false_eq_true])
    have b5 : sk_bmp 7 C 5 = C 5 := by unfold sk_bmp; (try simp only [sk_uI_s, sk_uI_o, sk_up_s, sk_up_o, sk_uL_s, sk_uL_o, ne_eq, Nat.reduceEqDiff, Nat.reduceAdd, Int.reduceEq, not_false_eq_true])
    have bo := sk_sv_bmp hp (I := C) 7
    have bp : sk_bmp 7 C p = C p := bo 0 (by omega)
    have jd : (C (p + 3) s = 0 ∨ C (p + 3) s = 10) → ∀ Q', Q' (some (vi (sk_rf p (sk_bmp 7 C) (C (p + 5) s) (C (p + 6) s) 3021 st))) sk_G (sk_uI I 59 56 (I 59 56 + 1), L, sk_J cu sp io rp tp fp) → AW l E (d + 2) 0 0 mX10_judge 0 [some (vr 59), some (vi st), some (vi (C (p + 5) s)), some (vi (C (p + 6) s)), none, none, none, none] [] sk_G (sk_uI I 59 56 (I 59 56 + 1), L, sk_J cu sp io rp tp fp) Q' := by
      intro hw Q' hQ
      have f5k := sk_stj hpv hs.1 hs.2 hw
      exact c_M_judF (d := d + 1) hp _ _ X7 h7 (by omega) st _ _ (by omega) (by omega) (by rw [b45]; exact f5) hQ
    have rb : -1 ≤ sk_rf p (sk_bmp 7 C) (C (p + 5) s) (C (p + 6) s) 3021 st ∧ sk_rf p (sk_bmp 7 C) (C (p + 5) s) (C (p + 6) s) 3021 st ≤ 7 := sk_rf_b X7.1.1 X7.2.2.2.1 _ _ 3021 st (by rw [b45]; exact f5.2)
    unfold sk_dsI at hq
    generalize sk_rf p (sk_bmp 7 C) (C (p + 5) s) (C (p + 6) s) 3021 st = r at *
    have lt9 : C (p + 3) s = 12 ∨ C (p + 3) s = 0 ∨ C (p + 3) s = 1 ∨ C (p + 3) s = 2 ∨ C (p + 3) s = 3 ∨ C (p + 3) s = 4 ∨ C (p + 3) s = 5 ∨ C (p + 3) s = 6 ∨ C (p + 3) s = 7 ∨ C (p + 3) s = 8 ∨ C (p + 3) s = 9 ∨ C (p + 3) s = 10 ∨ C (p + 3) s = 11 := by omega
    have k3 : ∀ k, (k = 2 ∨ k = 3 ∨ k = 5 ∨ k = 10 ∨ k = 11 ∨ k = 14) → sk_kr 3 k := fun k hk => ⟨fun z => by omega, fun z => by omega, fun z => by omega, fun _ => hk⟩
    have s400 : -1 ≤ s ∧ s < 400 := by omega
    have h36 : C 36 0 = 0 := by
      obtain ⟨g1, g2, g3, g4, g5, g6, g7, g8, g9, g10⟩ := hX.2.1.2 0 (by omega) hd
      clear g1 g2 g3 g4 g5 g6 g7 g9 g10
      apply Classical.byContradiction
      intro z
      have := g8 z
      omega
    have i35 : 0 ≤ I 59 37 ∧ I 59 37 < 600 := i37
    rcases lt9 with e | e | e | e | e | e | e | e | e | e | e | e | e <;> rw [e] at hq <;> simp only [Int.reduceEq, if_true, if_false, or_false, or_true, false_or, true_or, reduceIte] at hq
    · have gb := c_M_gb_lp (l := l) (E := E) (d := d + 1) (L := L) (cu := cu) (sp := sp) (io := io) (rp := rp) (tp := tp) (fp := fp) (Q := Q) hp s (C (p + 1) (C (p + 4) s)) 480 C I hX h (by omega) (by omega) h36 hq
      refine AW_tout rfl (Or.inr (by rw [e]; decide)) iw ?_
      refine AW_run 80 rfl ?_
      exact gb
    · have jd := jd (Or.inl e)
      have fl := fun Q' (hQ : ∀ I', sk_RR p (sk_flI p s r (sk_bmp 7 C)) I' → sk_rfr (sk_uI I 59 56 (I 59 56 + 1)) I' → Q' none sk_G (I', L, sk_J cu sp io rp tp fp)) => c_M_failF (l := l) (E := E) (d := d + 1) (L := L) (cu := cu) (sp := sp) (io := io) (rp := rp) (tp := tp) (fp := fp) (Q := Q') hp s r _ _ X7 h7 (by rw [b5]; exact h5n) hQ
      refine AW_tin 0 rfl e rfl iw ?_
      (refine AW_run 80 rfl ?_; (try simp only [sk_uI_s, sk_uI_o, sk_up_s, sk_up_o, sk_uL_s, sk_uL_o, ne_eq, Nat.reduceEqDiff, Nat.reduceAdd, Int.reduceEq, not_false_eq_true]))
      refine AW_iald rfl rfl ⟨by omega, by omega⟩ (by decide) ?_
      (try simp only [sk_uI_s, sk_uI_o, sk_up_s, sk_up_o, sk_uL_s, sk_uL_o, ne_eq, Nat.reduceEqDiff, Nat.reduceAdd, Int.reduceEq, not_false_eq_true])
      refine AW_run 80 rfl ?_
      refine AW_iald rfl rfl ⟨by omega, by omega⟩ (by decide) ?_
      (try simp only [sk_uI_s, sk_uI_o, sk_up_s, sk_up_o, sk_uL_s, sk_uL_o, ne_eq, Nat.reduceEqDiff, Nat.reduceAdd, Int.reduceEq, not_false_eq_true])
      rw [e35, z69, z70]
      refine AW_run 80 rfl ?_
      refine AW_cV (M' := mX10_judge) rfl kkX10_302 lcX10_judge rfl rfl rfl rfl rfl rfl (Nat.le_refl _) ?_
      refine jd _ ?_
      refine AW_run 80 rfl ?_
      refine AW_iceq rfl (fun g => ?_) (fun g => ?_) (by unfold sk_in; omega)
      · rw [if_pos g] at hq
        exact AW_vret rfl rfl (hq _ h7 fr7)
      · rw [if_neg g] at hq
        refine AW_run 80 rfl ?_
        refine AW_cV (M' := mX10_fail) rfl kkX10_306 lcX10_fail rfl rfl rfl rfl rfl rfl (Nat.le_refl _) ?_
        refine fl _ (fun I' g1 g2 => ?_)
        have hq := hq I' g1 (sk_rfr_tr fr7 g2)
        refine AW_run 80 rfl ?_
        exact AW_vret rfl rfl hq
    · have hm := s16 (Or.inl e)
      unfold sk_omI at hq
      refine AW_tin 1 rfl e rfl iw ?_
      refine AW_run 80 rfl ?_
      refine AW_icne rfl (fun g => ?_) (fun g => ?_) (by rw [e44]; unfold sk_in; omega)
      · rw [if_neg (by omega)] at hq
        have hq := hq _ (sk_RR_om hp h.1 e54 e44 (by omega) (by omega) s (C (p + 5) s) st hm (fun _ => htop) e35) (by
          unfold sk_momI
          exact sk_rfr_tr (sk_rfr_tr (sk_rfr_mop _ _ _ _ _) (sk_rfr_men _ _ _ _ _)) (sk_rfr_mom _))
        refine AW_run 80 rfl ?_
        refine AW_iald rfl rfl ⟨by omega, by omega⟩ (by decide) ?_
        rw [z69]
        refine AW_run 80 rfl ?_
        refine AW_cV (M' := mX10_openMethod) (d' := d + 2) rfl kkX10_313 lcX10_openMethod rfl rfl rfl rfl rfl rfl (by omega) ?_
        refine c_M_om (d := d + 1) s _ i37 s400 (by omega) i29 (by omega) (by omega) ?_
        refine AW_run 80 rfl ?_
        exact AW_vret rfl rfl hq
      · rw [if_pos (by omega)] at hq
        have hq := hq _ (sk_RR_end hp h 2) (sk_rfr_u (sk_rfr_rf I) 59 49 2 (by omega))
        refine AW_run 80 rfl ?_
        exact AW_vret rfl rfl hq
    · have hq := hq _ (sk_RR_pent hp h hd (by omega) s (C (p + 8) s) s st 2 (C (p + 1) (C (p + 4) s)) (C (p + 5) s) (C (p + 6) s) (k3 2 (by omega)) htop (fun z => by omega) (fun _ => ⟨e.symm, rfl, rfl, fun _ => ⟨rfl, e35⟩, fun z => by omega⟩)) (sk_rfr_tr (sk_rfr_mop _ _ _ _ _) (sk_rfr_men _ _ _ _ _))
      have mo := sk_mop_o 2 s (C (p + 8) s) 0 I
      have m29 : sk_mop 2 s (C (p + 8) s) 0 I 59 29 = I 59 29 := (sk_mop_r 2 s (C (p + 8) s) 0 I).1 29 (by decide) (by decide)
      rw [e] at z67
      refine AW_tin 2 rfl e rfl iw ?_
      refine AW_run 80 rfl ?_
      refine AW_iald rfl rfl ⟨by omega, by omega⟩ (by decide) ?_
      rw [z67]
      refine AW_run 80 rfl ?_
      refine AW_iald rfl rfl ⟨by omega, by omega⟩ (by decide) ?_
      rw [z72]
      refine AW_run 80 rfl ?_
      refine AW_cV (M' := mX10_open) rfl kkX10_269 lcX10_open rfl rfl rfl rfl rfl rfl (Nat.le_refl _) ?_
      refine c_M_open _ _ _ _ i37 s400 ?_
      refine AW_run 80 rfl ?_
      refine AW_iald rfl rfl ⟨by omega, by omega⟩ (by decide) ?_
      rw [mo 67 (by decide) (by decide), z67]
      refine AW_run 80 rfl ?_
      refine AW_iald rfl rfl ⟨by omega, by omega⟩ (by decide) ?_
      rw [mo 69 (by decide) (by decide), z69]
      refine AW_run 80 rfl ?_
      refine AW_iald rfl rfl ⟨by omega, by omega⟩ (by decide) ?_
      rw [mo 70 (by decide) (by decide), z70]
      refine AW_cV (M' := mX10_enter) rfl kkX10_273 lcX10_enter rfl rfl rfl rfl rfl rfl (Nat.le_refl _) ?_
      refine c_M_enter _ _ _ _ (by rw [m29]; exact i29) ?_
      refine AW_run 80 rfl ?_
      exact AW_vret rfl rfl hq
    · have hq := hq _ (sk_RR_pent hp h hd (by omega) s (C (p + 8) s) s st 3 (C (p + 1) (C (p + 4) s)) (C (p + 5) s) (C (p + 6) s) (k3 3 (by omega)) htop (fun z => by omega) (fun _ => ⟨e.symm, rfl, rfl, fun _ => ⟨rfl, e35⟩, fun z => by omega⟩)) (sk_rfr_tr (sk_rfr_mop _ _ _ _ _) (sk_rfr_men _ _ _ _ _))
      have mo := sk_mop_o 3 s (C (p + 8) s) 0 I
      have m29 : sk_mop 3 s (C (p + 8) s) 0 I 59 29 = I 59 29 := (sk_mop_r 3 s (C (p + 8) s) 0 I).1 29 (by decide) (by decide)
      rw [e] at z67
      refine AW_tin 3 rfl e rfl iw ?_
      refine AW_run 80 rfl ?_
      refine AW_iald rfl rfl ⟨by omega, by omega⟩ (by decide) ?_
      rw [z67]
      refine AW_run 80 rfl ?_
      refine AW_iald rfl rfl ⟨by omega, by omega⟩ (by decide) ?_
      rw [z72]
      refine AW_run 80 rfl ?_
      refine AW_cV (M' := mX10_open) rfl kkX10_269 lcX10_open rfl rfl rfl rfl rfl rfl (Nat.le_refl _) ?_
      refine c_M_open _ _ _ _ i37 s400 ?_
      refine AW_run 80 rfl ?_
      refine AW_iald rfl rfl ⟨by omega, by omega⟩ (by decide) ?_
      rw [mo 67 (by decide) (by decide), z67]
      refine AW_run 80 rfl ?_
      refine AW_iald rfl rfl ⟨by omega, by omega⟩ (by decide) ?_
      rw [mo 69 (by decide) (by decide), z69]
      refine AW_run 80 rfl ?_
      refine AW_iald rfl rfl ⟨by omega, by omega⟩ (by decide) ?_
      rw [mo 70 (by decide) (by decide), z70]
      refine AW_cV (M' := mX10_enter) rfl kkX10_273 lcX10_enter rfl rfl rfl rfl rfl rfl (Nat.le_refl _) ?_
      refine c_M_enter _ _ _ _ (by rw [m29]; exact i29) ?_
      refine AW_run 80 rfl ?_
      exact AW_vret rfl rfl hq
    · have hn4 := s45 (Or.inl e)
      have hq := hq _ (sk_RR_keep hp h (C (p + 5) s) st) (sk_rfr_u (sk_rfr_rf I) 82 _ _ (by omega))
      refine AW_tin 4 rfl e rfl iw ?_
      refine AW_run 80 rfl ?_
      refine AW_iald rfl rfl ⟨by omega, by omega⟩ (by decide) ?_
      rw [z69]
      refine AW_run 80 rfl ?_
      rw [e35]
      refine AW_iast rfl rfl ⟨by omega, by omega⟩ (by decide) ?_
      refine AW_run 80 rfl ?_
      exact AW_vret rfl rfl hq
    · have hn4 := s45 (Or.inr e)
      have e82 : I 82 (C (p + 5) s) = C 41 (C (p + 5) s) := h.1.2.2.2.2.1 _ hn4.1 (by omega)
      have hsl := hX.2.2.2.2.2.1 (C (p + 5) s) hn4.1 (by omega)
      refine AW_tin 5 rfl e rfl iw ?_
      refine AW_run 80 rfl ?_
      refine AW_iald rfl rfl ⟨by omega, by omega⟩ (by decide) ?_
      rw [z69]
      refine AW_iald rfl rfl ⟨by omega, by omega⟩ (by decide) ?_
      rw [e82]
      refine AW_run 80 rfl ?_
      refine AW_icne rfl (fun g => ?_) (fun g => ?_) (by unfold sk_in; omega)
      · rw [if_neg g] at hq
        have hq := hq _ (sk_RR_pent hp h hd (by omega) s (C (p + 8) s) s (C 41 (C (p + 5) s)) 5 (C (p + 1) (C (p + 4) s)) (C (p + 5) s) (C 41 (C (p + 5) s)) (k3 5 (by omega)) htop (fun z => by omega) (fun _ => ⟨e.symm, rfl, rfl, fun z => absurd e z, fun _ => rfl⟩)) (sk_rfr_tr (sk_rfr_mop _ _ _ _ _) (sk_rfr_men _ _ _ _ _))
        have mo := sk_mop_o 5 s (C (p + 8) s) 0 I
        have m29 : sk_mop 5 s (C (p + 8) s) 0 I 59 29 = I 59 29 := (sk_mop_r 5 s (C (p + 8) s) 0 I).1 29 (by decide) (by decide)
        refine AW_run 80 rfl ?_
        refine AW_iald rfl rfl ⟨by omega, by omega⟩ (by decide) ?_
        rw [z72]
        refine AW_run 80 rfl ?_
        refine AW_cV (M' := mX10_open) rfl kkX10_269 lcX10_open rfl rfl rfl rfl rfl rfl (Nat.le_refl _) ?_
        refine c_M_open _ _ _ _ i37 s400 ?_
        refine AW_run 80 rfl ?_
        refine AW_iald rfl rfl ⟨by omega, by omega⟩ (by decide) ?_
        rw [mo 69 (by decide) (by decide), z69]
        refine AW_run 80 rfl ?_
        refine AW_iald rfl rfl ⟨by omega, by omega⟩ (by decide) ?_
        rw [mo 69 (by decide) (by decide), z69]
        refine AW_iald rfl rfl ⟨by omega, by omega⟩ (by decide) ?_
        rw [mo 82 (by decide) (by decide), e82]
        refine AW_cV (M' := mX10_enter) rfl kkX10_273 lcX10_enter rfl rfl rfl rfl rfl rfl (Nat.le_refl _) ?_
        refine c_M_enter _ _ _ _ (by rw [m29]; exact i29) ?_
        refine AW_run 80 rfl ?_
        exact AW_vret rfl rfl hq
      · rw [if_pos g] at hq
        refine AW_run 80 rfl ?_
        refine AW_cV (M' := mX10_fail) rfl kkX10_306 lcX10_fail rfl rfl rfl rfl rfl rfl (Nat.le_refl _) ?_
        refine c_M_failF (d := d + 1) hp s (-1) C I hX h h5n (fun I' g1 g2 => ?_)
        have hq := hq I' g1 g2
        refine AW_run 80 rfl ?_
        exact AW_vret rfl rfl hq
    · unfold sk_poI at hq
      refine AW_tin 6 rfl e rfl iw ?_
      refine AW_run 80 rfl ?_
      refine AW_icne rfl (fun g => ?_) (fun g => ?_) (by unfold sk_in; omega)
      · rw [if_pos (by omega)] at hq
        have hq := hq _ (sk_RR_po hp h (by omega) (C (p + 5) s) st) (sk_rfr_u (sk_rfr_u (sk_rfr_u (sk_rfr_rf I) 88 _ _ (by omega)) 89 _ _ (by omega)) 59 47 _ (by omega))
        refine AW_run 80 rfl ?_
        refine AW_iald rfl rfl ⟨by omega, by omega⟩ (by decide) ?_
        rw [z69]
        refine AW_iast rfl rfl ⟨by omega, by omega⟩ (by decide) ?_
        (refine AW_run 80 rfl ?_; (try simp only [sk_uI_s, sk_uI_o, sk_up_s, sk_up_o, sk_uL_s, sk_uL_o, ne_eq, Nat.reduceEqDiff, Nat.reduceAdd, Int.reduceEq, not_false_eq_true]))
        rw [e35]
        refine AW_iast rfl rfl ⟨by omega, by omega⟩ (by decide) ?_
        (refine AW_run 80 rfl ?_; (try simp only [sk_uI_s, sk_uI_o, sk_up_s, sk_up_o, sk_uL_s, sk_uL_o, ne_eq, Nat.reduceEqDiff, Nat.reduceAdd, Int.reduceEq, not_false_eq_true]))
        exact AW_vret rfl rfl hq
      · rw [if_neg (by omega)] at hq
        have hq := hq _ (sk_RR_end hp h 3) (sk_rfr_u (sk_rfr_rf I) 59 49 3 (by omega))
        refine AW_run 80 rfl ?_
        exact AW_vret rfl rfl hq
    · have op := opn C I 1 (C (p + 8) s) 0 7 h rfl rfl rfl rfl rfl (by omega) ⟨fun z => by omega, fun _ => rfl, fun z => by omega, fun z => by omega⟩
      rw [sk_fpu_t] at op
      have hq := hq _ op (sk_rfr_mop _ _ _ _ _)
      refine AW_tin 7 rfl e rfl iw ?_
      refine AW_run 80 rfl ?_
      refine AW_iald rfl rfl ⟨by omega, by omega⟩ (by decide) ?_
      rw [z72]
      refine AW_run 80 rfl ?_
      refine AW_cV (M' := mX10_open) rfl kkX10_269 lcX10_open rfl rfl rfl rfl rfl rfl (Nat.le_refl _) ?_
      refine c_M_open _ _ _ _ i37 s400 ?_
      refine AW_run 80 rfl ?_
      exact AW_vret rfl rfl hq
    · have hn8 := s88 e
      have hsp := hsp e
      refine AW_tin 8 rfl e rfl iw ?_
      refine AW_run 80 rfl ?_
      refine AW_iald rfl rfl ⟨by omega, by omega⟩ (by decide) ?_
      rw [z69]
      refine AW_ifle rfl (fun g => ?_) (fun g => ?_) (by unfold sk_in; omega)
      · rw [if_neg (by omega)] at hq
        exact AW_vret rfl rfl (hq I h (sk_rfr_rf I))
      · have hsp := hsp (by omega)
        by_cases h8 : C (p + 8) s = -1
        · have hsp := hsp h8
          refine AW_run 80 rfl ?_
          refine AW_iald rfl rfl ⟨by omega, by omega⟩ (by decide) ?_
          rw [z72, h8]
          refine AW_run 80 rfl ?_
          refine AW_iald rfl rfl ⟨by omega, by omega⟩ (by decide) ?_
          rw [z69]
          refine AW_run 80 rfl ?_
          refine AW_cV (M' := mX10_open) rfl kkX10_269 lcX10_open rfl rfl rfl rfl rfl rfl (Nat.le_refl _) ?_
          refine c_M_open _ _ _ _ i37 s400 ?_
          refine AW_run 80 rfl ?_
          exact AW_vret rfl rfl hsp
        · rw [if_pos ⟨by omega, h8⟩, show C 35 5 + 1 - 1 = C 35 5 by omega] at hq
          have hq := hq _ (opn C I 2 (C (p + 8) s) (C (p + 5) s - 1) 8 h rfl rfl rfl rfl rfl (by omega) ⟨fun z => by omega, fun z => by omega, fun _ => rfl, fun z => by omega⟩) (sk_rfr_mop _ _ _ _ _)
          refine AW_run 80 rfl ?_
          refine AW_iald rfl rfl ⟨by omega, by omega⟩ (by decide) ?_
          rw [z72]
          refine AW_run 80 rfl ?_
          refine AW_iald rfl rfl ⟨by omega, by omega⟩ (by decide) ?_
          rw [z69]
          refine AW_run 80 rfl ?_
          refine AW_cV (M' := mX10_open) rfl kkX10_269 lcX10_open rfl rfl rfl rfl rfl rfl (Nat.le_refl _) ?_
          refine c_M_open _ _ _ _ i37 s400 ?_
          refine AW_run 80 rfl ?_
          exact AW_vret rfl rfl hq
    · have hq := hq _ (sk_RR_nte hp h (C (p + 5) s)) (by unfold sk_msy; exact sk_rfr_u (sk_rfr_u (sk_rfr_rf I) 90 _ _ (by omega)) 59 58 _ (by omega))
      refine AW_tin 9 rfl e rfl iw ?_
      refine AW_run 80 rfl ?_
      refine AW_iald rfl rfl ⟨by omega, by omega⟩ (by decide) ?_
      rw [z69]
      refine AW_cV (M' := mX10_say) rfl kkX10_288 lcX10_say rfl rfl rfl rfl rfl rfl (Nat.le_refl _) ?_
      refine c_M_say _ i58 ?_
      refine AW_run 80 rfl ?_
      exact AW_vret rfl rfl hq
    · have jd := jd (Or.inr e)
      have fin : ∀ v, v = (if r = -1 then C (p + 8) s else C (p + 9) s) → AW l E (d + 3) 0 0 mX10_perform 470 [some (vr 59), some (vi s), some (vi (C (p + 1) (C (p + 4) s))), some (vi r)] [vi 0, vi v, vi s, vi 10, vr 59] sk_G (sk_uI I 59 56 (I 59 56 + 1), L, sk_J cu sp io rp tp fp) Q := by
        intro v hv
        rw [← hv] at hq
        have op := opn (sk_bmp 7 C) _ 3 v 0 10 h7 (by rw [b35]) bp b38 b39 (bo 7 (by omega)) (by omega) (k3 10 (by omega))
        rw [sk_fpu_t] at op
        have hq := hq _ op (sk_rfr_tr fr7 (sk_rfr_mop _ _ _ _ _))
        refine AW_cV (M' := mX10_open) rfl kkX10_269 lcX10_open rfl rfl rfl rfl rfl rfl (Nat.le_refl _) ?_
        refine c_M_open _ _ _ _ (by (try simp only [sk_uI_s, sk_uI_o, sk_up_s, sk_up_o, sk_uL_s, sk_uL_o, ne_eq, Nat.reduceEqDiff, Nat.reduceAdd, Int.reduceEq, not_false_eq_true]); exact i37) s400 ?_
        refine AW_run 80 rfl ?_
        exact AW_vret rfl rfl hq
      clear hq
      refine AW_tin 10 rfl e rfl iw ?_
      (refine AW_run 80 rfl ?_; (try simp only [sk_uI_s, sk_uI_o, sk_up_s, sk_up_o, sk_uL_s, sk_uL_o, ne_eq, Nat.reduceEqDiff, Nat.reduceAdd, Int.reduceEq, not_false_eq_true]))
      refine AW_iald rfl rfl ⟨by omega, by omega⟩ (by decide) ?_
      (try simp only [sk_uI_s, sk_uI_o, sk_up_s, sk_up_o, sk_uL_s, sk_uL_o, ne_eq, Nat.reduceEqDiff, Nat.reduceAdd, Int.reduceEq, not_false_eq_true])
      refine AW_run 80 rfl ?_
      refine AW_iald rfl rfl ⟨by omega, by omega⟩ (by decide) ?_
      (try simp only [sk_uI_s, sk_uI_o, sk_up_s, sk_up_o, sk_uL_s, sk_uL_o, ne_eq, Nat.reduceEqDiff, Nat.reduceAdd, Int.reduceEq, not_false_eq_true])
      rw [e35, z69, z70]
      refine AW_run 80 rfl ?_
      refine AW_cV (M' := mX10_judge) rfl kkX10_302 lcX10_judge rfl rfl rfl rfl rfl rfl (Nat.le_refl _) ?_
      refine jd _ ?_
      refine AW_run 80 rfl ?_
      refine AW_icne rfl (fun g => ?_) (fun g => ?_) (by unfold sk_in; omega)
      · have fin := fin _ (by rw [if_neg g])
        refine AW_run 80 rfl ?_
        refine AW_iald rfl rfl ⟨by omega, by omega⟩ (by decide) ?_
        (try simp only [sk_uI_s, sk_uI_o, sk_up_s, sk_up_o, sk_uL_s, sk_uL_o, ne_eq, Nat.reduceEqDiff, Nat.reduceAdd, Int.reduceEq, not_false_eq_true])
        rw [z73]
        refine AW_run 80 rfl ?_
        exact fin
      · have fin := fin _ (by rw [if_pos g])
        refine AW_run 80 rfl ?_
        refine AW_iald rfl rfl ⟨by omega, by omega⟩ (by decide) ?_
        (try simp only [sk_uI_s, sk_uI_o, sk_up_s, sk_up_o, sk_uL_s, sk_uL_o, ne_eq, Nat.reduceEqDiff, Nat.reduceAdd, Int.reduceEq, not_false_eq_true])
        rw [z72]
        refine AW_run 80 rfl ?_
        exact fin
    · refine AW_tin 11 rfl e rfl iw ?_
      refine AW_run 80 rfl ?_
      refine AW_cV (M' := mX10_takeBit) rfl kkX10_319 lcX10_takeBit rfl rfl rfl rfl rfl rfl (Nat.le_refl _) ?_
      refine c_M_bitF hp C I hX h (fun v I2 hv hvi hR hfr => ?_)
      have sS : ∀ S, S = (if sk_bit C = -1 then C else sk_bmp 5 C) → S 35 5 = C 35 5 ∧ S p = C p ∧ S 38 = C 38 ∧ S 39 = C 39 ∧ S (p + 7) = C (p + 7) := by
        intro S hS
        by_cases hb : sk_bit C = -1
        · rw [if_pos hb] at hS
          rw [hS]
          exact ⟨rfl, rfl, rfl, rfl, rfl⟩
        · rw [if_neg hb] at hS
          have bo5 := sk_sv_bmp hp (I := C) 5
          rw [hS]
          exact ⟨by unfold sk_bmp; (try simp only [sk_uI_s, sk_uI_o, sk_up_s, sk_up_o, sk_uL_s, sk_uL_o, ne_eq, Nat.reduceEqDiff, Nat.reduceAdd, Int.reduceEq, not_false_eq_true]), bo5 0 (by omega), by unfold sk_bmp; (try simp only [sk_uI_s, sk_uI_o, sk_up_s, sk_up_o, sk_uL_s, sk_uL_o, ne_eq, Nat.reduceEqDiff, Nat.reduceAdd, Int.reduceEq, not_false_eq_true]), by unfold sk_bmp; (try simp only [sk_uI_s, sk_uI_o, sk_up_s, sk_up_o, sk_uL_s, sk_uL_o, ne_eq, Nat.reduceEqDiff, Nat.reduceAdd, Int.reduceEq, not_false_eq_true]), bo5 7 (by omega)⟩
      generalize (if sk_bit C = -1 then C else sk_bmp 5 C) = S at *
      obtain ⟨y1, y2, y3, y4, y5⟩ := sS S rfl
      have fin : ∀ n, n = (if sk_bit C = 1 then C (p + 8) s else C (p + 9) s) → AW l E (d + 3) 0 0 mX10_perform 504 [some (vr 59), some (vi s), some (vi (C (p + 1) (C (p + 4) s))), none] [vi 0, vi n, vi s, vi 11, vr 59] sk_G (I2, L, sk_J cu sp io rp tp fp) Q := by
        intro n hn2
        rw [← hn2] at hq
        have op := opn S I2 3 n 0 11 hR y1 y2 y3 y4 y5 (by omega) (k3 11 (by omega))
        rw [sk_fpu_t] at op
        have hq := hq _ op (sk_rfr_tr hfr (sk_rfr_mop _ _ _ _ _))
        have e37' : I2 59 37 = C 35 5 := by rw [hR.1.2.1.1, y1]
        refine AW_cV (M' := mX10_open) rfl kkX10_269 lcX10_open rfl rfl rfl rfl rfl rfl (Nat.le_refl _) ?_
        refine c_M_open _ _ _ _ (by omega) s400 ?_
        refine AW_run 80 rfl ?_
        exact AW_vret rfl rfl hq
      clear hq
      have y72 : I2 72 s = C (p + 8) s := by rw [hfr.1 72 (by decide) (by decide), z72]
      have y73 : I2 73 s = C (p + 9) s := by rw [hfr.1 73 (by decide) (by decide), z73]
      refine AW_run 80 rfl ?_
      refine AW_icne rfl (fun g => ?_) (fun g => ?_) hvi
      · have fin := fin _ (by rw [if_neg (fun z => g (hv.mpr z))])
        refine AW_run 80 rfl ?_
        refine AW_iald rfl rfl ⟨by omega, by omega⟩ (by decide) ?_
        rw [y73]
        refine AW_run 80 rfl ?_
        exact fin
      · have fin := fin _ (by rw [if_pos (hv.mp g)])
        refine AW_run 80 rfl ?_
        refine AW_iald rfl rfl ⟨by omega, by omega⟩ (by decide) ?_
        rw [y72]
        refine AW_run 80 rfl ?_
        exact fin
  refine AW_run 80 rfl ?_
  refine AW_iald rfl rfl ⟨by omega, by omega⟩ (by decide) ?_
  rw [z68]
  refine AW_iald rfl rfl ⟨by omega, by omega⟩ (by decide) ?_
  rw [z64]
  refine AW_run 80 rfl ?_
  refine AW_iald rfl rfl ⟨by omega, by omega⟩ (by decide) ?_
  rw [z71]
  refine AW_run 80 rfl ?_
  refine AW_iald rfl rfl ⟨by omega, by omega⟩ (by decide) ?_
  rw [z67]
  exact body
end SKY6
