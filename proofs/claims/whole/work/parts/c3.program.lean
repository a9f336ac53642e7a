/-! ===== program agrees ===== -/
def sr_k5 (f : sk_SI → sk_PR) : Prop := ∀ I x, f I = .inr x → x.2 29 5 = I 29 5
theorem sr_29 {p k : Nat} (hp : sk_pg p) (hk : k ≤ 9) : (29 : Nat) ≠ p + k := by rcases hp with rfl | rfl <;> omega
theorem sr_29p {p : Nat} (hp : sk_pg p) : (29 : Nat) ≠ p := by rcases hp with rfl | rfl <;> omega
theorem sr_293 (I : sk_SI) (v : Int) : sk_uI I 29 3 v 29 5 = I 29 5 := by rw [sk_uI_s, sk_up_o (by decide)]
theorem sr_k5_tk (due : Int) : sr_k5 (sk_tkI due) := by
  intro I x hx
  unfold sk_tkI at hx
  split at hx
  · cases hx; exact sr_293 I (I 29 3 + 1)
  · cases hx
theorem sr_k5_nu (most : Int) : sr_k5 (sk_nuI most) := by
  intro I x hx
  unfold sk_nuI at hx
  split at hx
  · cases hx
  · split at hx
    · cases hx
    · cases hx; exact sr_293 I (I 29 3 + 1)
theorem sr_k5_n1 {a : Nat} (ha : (29 : Nat) ≠ a) (most s : Int) : sr_k5 (sk_n1I most a s) := by
  intro I x hx
  unfold sk_n1I at hx
  split at hx
  · cases hx; rfl
  · split at hx
    · cases hx
    · rename_i y hy
      cases hx
      show sk_uI y.2 a s y.1 29 5 = _
      rw [sk_uI_o ha]
      exact sr_k5_nu _ _ _ hy
theorem sr_k5_rn {p : Nat} (hp : sk_pg p) (s w : Int) : sr_k5 (sk_rnI p s w) := by
  intro I x hx
  unfold sk_rnI at hx
  split at hx
  · cases hx
  · rename_i y hy
    rw [sr_k5_n1 (sr_29 hp (by omega)) _ _ _ _ hx, sr_k5_n1 (sr_29 hp (by omega)) _ _ _ _ hy, sk_uI_o (by decide)]
theorem sr_k5_rr {p : Nat} {bl : sk_SI → sk_PR} (hp : sk_pg p) (hb : sr_k5 bl) (s w : Int) : sr_k5 (sk_rrI bl p s w) := by
  intro I x hx
  unfold sk_rrI at hx
  split at hx
  · exact sr_k5_tk 18 I x hx
  · split at hx
    · cases hx
    · rename_i y hy
      have a := hb I y hy
      have b : sk_uI y.2 (p + 8) s y.1 29 5 = I 29 5 := by
        rw [sk_uI_o (sr_29 hp (by omega))]; exact a
      split at hx
      · cases hx; exact b
      · split at hx
        · cases hx
        · rename_i z hz
          have c := sr_k5_tk _ _ z hz
          split at hx
          · cases hx
          · rename_i u hu
            have e := hb _ u hu
            cases hx
            show sk_uI u.2 (p + 9) s u.1 29 5 = _
            rw [sk_uI_o (sr_29 hp (by omega))]
            exact e.trans (c.trans b)
theorem sr_k5_st {p : Nat} {bl : sk_SI → sk_PR} (hp : sk_pg p) (hb : sr_k5 bl) : sr_k5 (sk_stI bl p) := by
  intro I x hx
  unfold sk_stI at hx
  have q := sr_29p hp
  split at hx
  · cases hx
  · split at hx
    · cases hx
    · split at hx
      · cases hx
      · rename_i y hy
        have a := sr_k5_rn hp _ _ _ y hy
        split at hx
        · cases hx
        · rename_i z hz
          have b := sr_k5_rr hp hb _ _ _ z hz
          cases hx
          refine b.trans (a.trans ?_)
          unfold sk_asI
          rw [sr_293, sk_uI_o q, sk_uI_o (sr_29 hp (by omega)), sk_uI_o (sr_29 hp (by omega)), sk_uI_o (sr_29 hp (by omega)), sk_uI_o (sr_29 hp (by omega)), sk_uI_o (sr_29 hp (by omega)), sk_uI_o (sr_29 hp (by omega)), sk_uI_o (sr_29 hp (by omega))]
theorem sr_k5_lp {p : Nat} {ps : sk_SI → sk_PR} (hp : sk_pg p) (hb : sr_k5 ps) : ∀ (m : Nat) (f la : Int), sr_k5 (sk_lpI ps p m f la)
  | 0, f, la => by
    intro I x hx
    unfold sk_lpI at hx
    split at hx
    · cases hx
    · rename_i y hy
      cases hx
      exact sr_k5_tk 17 I y hy
  | m + 1, f, la => by
    intro I x hx
    unfold sk_lpI at hx
    split at hx
    · cases hx
      exact sr_293 I (I 29 3 + 1)
    · split at hx
      · cases hx
      · rename_i y hy
        have a := hb I y hy
        split at hx
        · have b := sr_k5_lp hp hb m f y.1 _ x hx
          rw [sk_uI_o (sr_29 hp (by omega))] at b
          exact b.trans a
        · exact (sr_k5_lp hp hb m y.1 y.1 _ x hx).trans a
theorem sr_k5_bl {p : Nat} (hp : sk_pg p) : ∀ (k : Nat), sr_k5 (sk_blI p k)
  | 0 => by
    intro I x hx
    unfold sk_blI at hx
    split at hx <;> cases hx
  | k + 1 => by
    intro I x hx
    unfold sk_blI at hx
    split at hx
    · cases hx
    · rename_i y hy
      have a := sr_k5_tk 16 I y hy
      have b := sr_k5_lp hp (sr_k5_st hp (sr_k5_bl hp k)) 201 (-1) (-1) _ x hx
      rw [sk_uI_o (sr_29p hp)] at b
      exact b.trans a
theorem sr_k5_md {p : Nat} (hp : sk_pg p) : sr_k5 (sk_mdI p) := by
  intro I x hx
  unfold sk_mdI at hx
  split at hx
  · cases hx
  · rename_i y hy
    have a := sr_k5_tk 15 I y hy
    split at hx
    · cases hx
    · split at hx
      · cases hx
      · rename_i z hz
        have b := sr_k5_nu 7 _ z hz
        split at hx
        · cases hx
        · rename_i u hu
          have c := sr_k5_bl hp 12 _ u hu
          cases hx
          show sk_uI u.2 (p + 2) (z.2 p 9) u.1 29 5 = _
          rw [sk_uI_o (sr_29 hp (by omega))]
          refine c.trans (Eq.trans ?_ (b.trans a))
          unfold sk_amS
          rw [sk_uI_o (sr_29p hp), sk_uI_o (sr_29 hp (by omega)), sk_uI_o (sr_29 hp (by omega))]
theorem sr_k5_ml {p : Nat} (hp : sk_pg p) : ∀ m : Nat, sr_k5 (sk_mlI p m)
  | 0 => by intro I x hx; cases hx; rfl
  | m + 1 => by
    intro I x hx
    unfold sk_mlI at hx
    split at hx
    · cases hx; rfl
    · split at hx
      · cases hx
      · rename_i y hy
        exact (sr_k5_ml hp m _ x hx).trans (sr_k5_md hp I y hy)
theorem sr_k5_ri {p : Nat} (hp : sk_pg p) : sr_k5 (sk_riI p) := by
  intro I x hx
  unfold sk_riI at hx
  split at hx
  · cases hx
  · rename_i y hy
    split at hx
    · cases hx
    · rename_i z hz
      split at hx
      · cases hx
      · cases hx
        exact (sr_k5_ml hp 20 _ z hz).trans (sr_k5_md hp I y hy)
section SKK4
variable {l : Launch} {E : sk_En} {I : sk_SI} {L : sk_SL} {cu sp io rp tp fp : Nat}
theorem sr_programc (h : sr_R cu sp I L) : AW l E 100 0 0 mX9_program 0 [some (vr 0), none, none] [] sk_G (I, L, sk_J cu sp io rp tp fp) (sr_P l E mX10_program [some (vr 59), none, none, none]) := by
  have h' := h
  obtain ⟨h0, hm, ht, hru, hb, hp, hrn, hn, hk⟩ := h
  obtain ⟨hc, hs⟩ := sr_pg h0
  obtain ⟨t1, t2, t3⟩ := ht
  obtain ⟨wf, r0, r29, -, -, -, -, r295, -⟩ := sk_ri0_wf hs t3
  obtain ⟨-, wr⟩ := sk_wf_ri hs wf
  have nsp : ∀ c, cu ≤ c ∧ c ≤ cu + 9 → ¬ (sp ≤ c ∧ c ≤ sp + 9) := fun c x => by rcases h0 with ⟨rfl, rfl⟩ | ⟨rfl, rfl⟩ <;> omega
  have sp28 : ∀ c, (sp ≤ c ∧ c ≤ sp + 9) → 9 ≤ c ∧ c ≤ 28 := fun c x => by rcases h0 with ⟨rfl, rfl⟩ | ⟨rfl, rfl⟩ <;> omega
  have cu28 : ∀ c, (cu ≤ c ∧ c ≤ cu + 9) → 9 ≤ c ∧ c ≤ 28 := fun c x => by rcases h0 with ⟨rfl, rfl⟩ | ⟨rfl, rfl⟩ <;> omega
  -- the class leaves all else
  have fpo : ∀ X, sk_fp sp (sk_ri0 sp I) X → ∀ c, ¬ (29 ≤ c ∧ c ≤ 33) → ¬ (sp ≤ c ∧ c ≤ sp + 9) → X c = I c := fun X hX c a b => by
    rw [hX.1 c (by omega) (by omega) b]
    exact r0 c (by omega) (by omega) (by omega) (by omega) (fun e => b ⟨by omega, by omega⟩)
  refine c_K_program (d := 55) I hs t3 (fun e he I' hI => ?_) (fun x hx => ?_)
  · -- a fault
    have f := fpo I' hI.1
    have e32 : I' 32 = sk_ri0 sp I 32 := hI.1.1 32 (by decide) (by decide) (fun z => by have := sp28 32 z; omega)
    refine ⟨_, _, L, cu, sp, sp, rp, tp, fp, rfl, rfl, rfl, fun Q' hQ => ?_⟩
    have kf : ∀ c, c ≠ 1 → ¬ (29 ≤ c ∧ c ≤ 33) → ¬ (sp ≤ c ∧ c ≤ sp + 9) → sk_uI (sk_uI I' 29 6 (I' 32 e.2)) 1 1 0 c = I c := fun c a b x => by
      rw [sk_uI_o a, sk_uI_o (by omega)]
      exact f c b x
    have k11 : sk_uI (sk_uI I' 29 6 (I' 32 e.2)) 1 1 0 1 1 = 0 := by rw [sk_uI_s, sk_up_s]
    have k29 : sk_uI (sk_uI I' 29 6 (I' 32 e.2)) 1 1 0 29 5 = e.1 := by rw [sk_uI_o (by decide), sk_uI_s, sk_up_o (by decide)]; exact hI.2.1
    rw [e32]
    rw [e32] at kf k11 k29 hQ
    generalize sk_uI (sk_uI I' 29 6 (sk_ri0 sp I 32 e.2)) 1 1 0 = K at *
    have n59 : ∀ c, 59 ≤ c → K c = I c := fun c a => kf c (by omega) (by omega) (fun z => by have := sp28 c z; omega)
    have n48 : ∀ c, c ≠ 1 → c ≤ 8 ∨ 34 ≤ c → K c = I c := fun c a b => kf c a (by omega) (fun z => by have := sp28 c z; omega)
    have ncu : ∀ c, cu ≤ c ∧ c ≤ cu + 9 → K c = I c := fun c a => kf c (by have := cu28 c a; omega) (by have := cu28 c a; omega) (nsp c a)
    refine c_M_program (d := 67) hs I K t3 (by rw [n59 60 (by omega)]; exact t1) (by rw [n59 59 (by omega)]; exact t2) (by rw [n59 59 (by omega)]; exact hm.1) (by rw [n59 59 (by omega)]; exact hm.2.1) (fun e' he' _ I2 pf p6 => ?_) (fun x hx => by rw [he] at hx; cases hx)
    rw [he] at he'
    cases he'
    obtain ⟨g1, g2, g3, g4, g5, g6, g7⟩ := pf
    have c2 : ∀ c, c ≠ 59 → ¬ (63 ≤ c ∧ c ≤ 74) → c ≠ 76 → c < 59 ∨ 59 < c → I2 c = K c := fun c a b x _ => g1 c a b x
    have lo : ∀ c, c ≤ 58 → I2 c = K c := fun c a => g1 c (by omega) (by omega) (by omega)
    have j2 : ∀ j, j ≠ 2 → j ≠ 6 → ¬ (21 ≤ j ∧ j ≤ 27) → I2 59 j = I 59 j := fun j a b x => by rw [g5 j a b x, n59 59 (by omega)]
    refine hQ I2 ⟨h0, ⟨by rw [j2 0 (by omega) (by omega) (by omega)]; exact hm.1, g7, by rw [lo 29 (by omega), k29, p6]⟩, ⟨?_, ?_, ?_⟩, sr_rule_cg hru (by rw [lo 8 (by omega), n48 8 (by omega) (by omega)]) (by rw [g1 61 (by omega) (by omega) (by omega), n59 61 (by omega)]), sr_bits_cg hb (by rw [lo 3 (by omega), n48 3 (by omega) (by omega)]) (by rw [lo 4 (by omega), n48 4 (by omega) (by omega)]) (by rw [g1 62 (by omega) (by omega) (by omega), n59 62 (by omega)]) (j2 5 (by omega) (by omega) (by omega)), ?_, sr_run_cg hrn (by rw [lo 34 (by omega), n48 34 (by omega) (by omega)]) (by rw [lo 44 (by omega), n48 44 (by omega) (by omega)]) (fun j a => j2 j (by omega) (by omega) (by omega)), sr_note_cg hn (by rw [lo 5 (by omega), n48 5 (by omega) (by omega)]) (by rw [lo 6 (by omega), n48 6 (by omega) (by omega)]) (by rw [g1 90 (by omega) (by omega) (by omega), n59 90 (by omega)]) (j2 58 (by omega) (by omega) (by omega)), sr_kept_cg hk (by rw [lo cu (by have := cu28 cu ⟨by omega, by omega⟩; omega)]; exact ncu cu ⟨by omega, by omega⟩) (fun c a => by rw [lo c (by omega), n48 c (by omega) (by omega)]) (fun c a => by rw [g1 c (by omega) (by omega) (by omega), n59 c (by omega)]) (j2 7 (by omega) (by omega) (by omega)) (j2 59 (by omega) (by omega) (by omega)) (j2 60 (by omega) (by omega) (by omega)) rfl⟩
    · rw [lo 2 (by omega), g1 60 (by omega) (by omega) (by omega), n48 2 (by omega) (by omega), n59 60 (by omega)]; exact t1
    · rw [lo 1 (by omega), k11, g6]
    · unfold sk_tp
      rw [lo 1 (by omega), k11]
      exact ⟨by omega, by omega, fun i a b => by omega⟩
    · have hcu : ∀ k, k ≤ 9 → I2 (cu + k) = I (cu + k) := fun k a => by
        rw [lo _ (by have := cu28 (cu + k) ⟨by omega, by omega⟩; omega)]
        exact ncu _ ⟨by omega, by omega⟩
      have hcu0 := hcu 0 (by omega)
      rw [Nat.add_zero] at hcu0
      rcases hp with ⟨a1, a2, a3, a4, a5⟩ | ⟨a1, ⟨D, a2⟩, a3, a4, a5, a6⟩
      · exact Or.inl ⟨by rw [j2 7 (by omega) (by omega) (by omega)]; exact a1, by rw [hcu0]; exact a2, by rw [hcu0]; exact a3, by rw [g3.1, n59 63 (by omega)]; exact a4, by rw [g3.2.1, n59 66 (by omega)]; exact a5⟩
      · refine Or.inr ⟨by rw [j2 7 (by omega) (by omega) (by omega)]; exact a1, ⟨D, sk_pv_cg a2 hcu⟩, ⟨fun m m0 m1 => ?_, fun s s0 s1 => ?_⟩, by rw [g3.1, n59 63 (by omega), hcu0]; exact a4, by rw [g3.2.1, n59 66 (by omega), hcu0]; exact a5, by rw [g3.2.2, n59 74 (by omega), hcu0]; exact a6⟩
        · rw [hcu0] at m1
          have v9 := a2.1
          rw [(g4 m (by omega)).1, (g4 m (by omega)).2, n59 64 (by omega), n59 65 (by omega), hcu 1 (by omega), hcu 2 (by omega)]
          exact a3.1 m m0 m1
        · rw [hcu0] at s1
          have v10 := a2.2.1
          rw [g2 67 s (by omega) (by omega), g2 68 s (by omega) (by omega), g2 69 s (by omega) (by omega), g2 70 s (by omega) (by omega), g2 71 s (by omega) (by omega), g2 72 s (by omega) (by omega), g2 73 s (by omega) (by omega), n59 67 (by omega), n59 68 (by omega), n59 69 (by omega), n59 70 (by omega), n59 71 (by omega), n59 72 (by omega), n59 73 (by omega), hcu 3 (by omega), hcu 4 (by omega), hcu 5 (by omega), hcu 6 (by omega), hcu 7 (by omega), hcu 8 (by omega), hcu 9 (by omega)]
          exact a3.2 s s0 s1
  · -- a program
    obtain ⟨⟨D', wx⟩, fx, x9, xa⟩ := wr x hx
    have f := fpo x.2 fx
    have x5 : x.2 29 5 = 0 := (sr_k5_ri hs _ x hx).trans r295
    have pvx := sr_pv wx x9 xa
    have h0' : sr_two sp cu := by
      rcases h0 with ⟨rfl, rfl⟩ | ⟨rfl, rfl⟩
      · exact Or.inr ⟨rfl, rfl⟩
      · exact Or.inl ⟨rfl, rfl⟩
    refine ⟨_, _, L, sp, cu, sp, rp, tp, fp, rfl, rfl, rfl, fun Q' hQ => ?_⟩
    have kx : ∀ c, c ≠ 1 → c ≠ 29 → c ≠ 34 → c ≠ 48 → sk_uI (sk_uI (sk_uI (sk_uI x.2 29 6 0) 1 1 0) 34 8 0) 48 15 0 c = x.2 c := fun c a b e g => by
      rw [sk_uI_o g, sk_uI_o e, sk_uI_o a, sk_uI_o b]
    have k11 : sk_uI (sk_uI (sk_uI (sk_uI x.2 29 6 0) 1 1 0) 34 8 0) 48 15 0 1 1 = 0 := by rw [sk_uI_o (by decide), sk_uI_o (by decide), sk_uI_s, sk_up_s]
    have k29 : sk_uI (sk_uI (sk_uI (sk_uI x.2 29 6 0) 1 1 0) 34 8 0) 48 15 0 29 5 = 0 := by rw [sk_uI_o (by decide), sk_uI_o (by decide), sk_uI_o (by decide), sk_uI_s, sk_up_o (by decide)]; exact x5
    have k34 : sk_uI (sk_uI (sk_uI (sk_uI x.2 29 6 0) 1 1 0) 34 8 0) 48 15 0 34 8 = 0 := by rw [sk_uI_o (by decide), sk_uI_s, sk_up_s]
    have k48 : sk_uI (sk_uI (sk_uI (sk_uI x.2 29 6 0) 1 1 0) 34 8 0) 48 15 0 48 15 = 0 := by rw [sk_uI_s, sk_up_s]
    generalize sk_uI (sk_uI (sk_uI (sk_uI x.2 29 6 0) 1 1 0) 34 8 0) 48 15 0 = K at *
    have n59 : ∀ c, 59 ≤ c → K c = I c := fun c a => by
      rw [kx c (by omega) (by omega) (by omega) (by omega)]
      exact f c (by omega) (fun z => by have := sp28 c z; omega)
    have n8 : ∀ c, c ≠ 1 → c ≠ 34 → c ≠ 48 → c ≤ 8 ∨ 34 ≤ c → K c = I c := fun c a b e g => by
      rw [kx c (by omega) (by omega) (by omega) (by omega)]
      exact f c (by omega) (fun z => by have := sp28 c z; omega)
    have nsp' : ∀ k, k ≤ 9 → K (sp + k) = x.2 (sp + k) := fun k a => by
      have := sp28 (sp + k) ⟨by omega, by omega⟩
      exact kx _ (by omega) (by omega) (by omega) (by omega)
    refine c_M_program (d := 67) hs I K t3 (by rw [n59 60 (by omega)]; exact t1) (by rw [n59 59 (by omega)]; exact t2) (by rw [n59 59 (by omega)]; exact hm.1) (by rw [n59 59 (by omega)]; exact hm.2.1) (fun e' he' => by rw [hx] at he'; cases he') (fun y hy I2 ps => ?_)
    rw [hx] at hy
    cases hy
    obtain ⟨g1, g2, g3, g4, g5, ⟨g62, g66, g67, g650, g659⟩, g7⟩ := ps
    have lo : ∀ c, c ≤ 58 → I2 c = K c := fun c a => g1 c (by omega) (by omega) (by omega)
    have j2 : ∀ j, j ≠ 2 → j ≠ 6 → j ≠ 7 → j ≠ 50 → j ≠ 59 → ¬ (21 ≤ j ∧ j ≤ 27) → I2 59 j = I 59 j := fun j a b e g u w => by rw [g5 j a b e g u w, n59 59 (by omega)]
    have hsp : ∀ k, k ≤ 9 → I2 (sp + k) = x.2 (sp + k) := fun k a => by
      have := sp28 (sp + k) ⟨by omega, by omega⟩
      rw [lo _ (by omega), nsp' k a]
    have hsp0 := hsp 0 (by omega)
    rw [Nat.add_zero] at hsp0
    have e15 : I2 48 15 = 0 := by rw [lo 48 (by omega)]; exact k48
    refine hQ I2 ⟨h0', ⟨by rw [j2 0 (by omega) (by omega) (by omega) (by omega) (by omega) (by omega)]; exact hm.1, g7, by rw [lo 29 (by omega), k29, g66]⟩, ⟨?_, ?_, ?_⟩, sr_rule_cg hru (by rw [lo 8 (by omega), n8 8 (by omega) (by omega) (by omega) (by omega)]) (by rw [g1 61 (by omega) (by omega) (by omega), n59 61 (by omega)]), sr_bits_cg hb (by rw [lo 3 (by omega), n8 3 (by omega) (by omega) (by omega) (by omega)]) (by rw [lo 4 (by omega), n8 4 (by omega) (by omega) (by omega) (by omega)]) (by rw [g1 62 (by omega) (by omega) (by omega), n59 62 (by omega)]) (j2 5 (by omega) (by omega) (by omega) (by omega) (by omega) (by omega)), Or.inr ⟨g67, ⟨D', sk_pv_cg pvx hsp⟩, ⟨fun m m0 m1 => ?_, fun s s0 s1 => ?_⟩, by rw [g3.1, hsp0], by rw [g3.2.1, hsp0], by rw [g3.2.2, hsp0]⟩, ⟨?_, ?_, ?_⟩, sr_note_cg hn (by rw [lo 5 (by omega), n8 5 (by omega) (by omega) (by omega) (by omega)]) (by rw [lo 6 (by omega), n8 6 (by omega) (by omega) (by omega) (by omega)]) (by rw [g1 90 (by omega) (by omega) (by omega), n59 90 (by omega)]) (j2 58 (by omega) (by omega) (by omega) (by omega) (by omega) (by omega)), ⟨by rw [e15, g659], Or.inl e15, fun z => by omega⟩⟩
    · rw [lo 2 (by omega), g1 60 (by omega) (by omega) (by omega), n8 2 (by omega) (by omega) (by omega) (by omega), n59 60 (by omega)]; exact t1
    · rw [lo 1 (by omega), k11, g62]
    · unfold sk_tp
      rw [lo 1 (by omega), k11]
      exact ⟨by omega, by omega, fun i a b => by omega⟩
    · rw [hsp0] at m1
      rw [hsp 1 (by omega), hsp 2 (by omega)]
      exact g4 m m0 m1
    · rw [hsp0] at s1
      rw [hsp 3 (by omega), hsp 4 (by omega), hsp 5 (by omega), hsp 6 (by omega), hsp 7 (by omega), hsp 8 (by omega), hsp 9 (by omega)]
      exact g2 s s0 s1
    · rw [lo 34 (by omega), k34, g650]
    · rw [lo 34 (by omega), k34]; exact Or.inl rfl
    · rw [lo 34 (by omega), k34]; intro z; omega
end SKK4
