/-! ===== SealKeeperModel.isPlain, ahead ===== -/
section SKG8
variable {p : Nat} {C : sk_SI} {rm q : Int} {rT : sk_Tb} {I0 I : sk_SI} {TT : Int → sk_Tb}
theorem sg_iv_start (hJ : sg_jv p C rm rT I0 I TT) (h70 : I 59 70 = 0) (hq : 0 ≤ q ∧ q < I 59 60) : sg_iv p C rm rT (sg_G I TT) I0 I TT ∧ sf_hx p C rm rT (sk_VB p C (sg_G I TT) 300 (TT q) (C (p + 2) (I 91 q))) := by
  obtain ⟨h1, h2, h3, h4, h5, h6, -⟩ := hJ
  obtain ⟨h6, -⟩ := h6 h70
  refine ⟨⟨h1, h2, h4, h5, fun _ => ⟨fun _ _ _ => Iff.rfl, h6⟩, fun z => by omega⟩, fun A G P O hc t T' y => ?_⟩
  have hin := h6 A G P O hc
  have up : ∀ m T x, sg_G I TT m T x → G m T x := fun m T x hg => by
    obtain ⟨i, i0, i1, i2, i3, i4⟩ := hg
    have := (hin.1 i i0 i1).2 x i4
    rw [i2, i3] at this
    exact this
  exact (hc.2 _ _ (hin.1 q hq.1 hq.2).1).2 t T' (sk_VB_mono (p := p) (C := C) up 300 _ _ _ _ y)
/-- news are forgotten -/
theorem sg_jv_71 (hJ : sg_jv p C rm rT I0 I TT) : sg_jv p C rm rT I0 (sk_uI I 59 71 0) TT ∧ sg_M (sk_uI I 59 71 0) = sg_M I ∧ sk_uI I 59 71 0 59 71 = 0 ∧ sk_uI I 59 71 0 59 70 = I 59 70 ∧ sk_uI I 59 71 0 59 60 = I 59 60 := by
  obtain ⟨h1, h2, h3, h4, h5, h6, h7⟩ := hJ
  have k60 : sk_uI I 59 71 0 59 60 = I 59 60 := by rw [sk_uI_s, sk_up_o (by decide)]
  have k70 : sk_uI I 59 71 0 59 70 = I 59 70 := by rw [sk_uI_s, sk_up_o (by decide)]
  have k71 : sk_uI I 59 71 0 59 71 = 0 := by rw [sk_uI_s, sk_up_s]
  have ko : ∀ c, c ≠ 59 → sk_uI I 59 71 0 c = I c := fun c hc => sk_uI_o hc
  have kj : ∀ j, j ≠ 71 → sk_uI I 59 71 0 59 j = I 59 j := fun j hj => by rw [sk_uI_s, sk_up_o hj]
  generalize sk_uI I 59 71 0 = I1 at *
  have k91 := ko 91 (by decide)
  have k92 := ko 92 (by decide)
  have k93 := ko 93 (by decide)
  have k94 := ko 94 (by decide)
  have k95 := ko 95 (by decide)
  have k98 := ko 98 (by decide)
  have k99 := ko 99 (by decide)
  have eG : sg_G I1 TT = sg_G I TT := by unfold sg_G sg_b; rw [k60, k91, k93, k94, k95]
  refine ⟨⟨⟨fun c a b => by rw [ko c a]; exact h1.1 c a b, fun j a b c => by rw [kj j c]; exact h1.2 j a b c⟩, ?_, by rw [k60, k91]; exact h3, by rw [k70]; exact h4, Or.inl k71, fun z => ?_, by rw [k70]; exact h7⟩, ?_, k71, k70, k60⟩
  · unfold sg_st sg_pr sg_di sg_zo
    rw [k60, k91, k92, k93, k94, k95, k98, k99]
    exact h2
  · rw [k70] at z
    unfold sg_wi sg_in sg_if
    rw [eG]
    unfold sg_b
    rw [k60, k91, k93, k94, k95, k98, k99]
    exact h6 z
  · unfold sg_M sg_N sg_B
    rw [k60, k93, k94, k95, k98, k99]
end SKG8
section SKG9
variable {l : Launch} {E : sk_En} {d : Nat} {L : sk_SL} {cu sp io rp tp fp p : Nat} {Q : Option sk_V → List sk_Sh → sk_St → Prop} {C : sk_SI} {D : Int → Int}
theorem c_M_plain (I : sk_SI) (n : Int) (hn : I 66 0 = n) (hn0 : 0 ≤ n ∧ n ≤ 200) (hw : ∀ s, 0 ≤ s → s < n → sk_in (I 67 s)) (hT : (∀ s, 0 ≤ s → s < n → I 67 s ≠ 4 ∧ I 67 s ≠ 5 ∧ I 67 s ≠ 6) → Q (some (vi 1)) sk_G (I, L, sk_J cu sp io rp tp fp)) (hF : ¬ (∀ s, 0 ≤ s → s < n → I 67 s ≠ 4 ∧ I 67 s ≠ 5 ∧ I 67 s ≠ 6) → Q (some (vi 0)) sk_G (I, L, sk_J cu sp io rp tp fp)) : AW l E d 0 0 mX10_isPlain 0 [some (vr 59), none, none] [] sk_G (I, L, sk_J cu sp io rp tp fp) Q := by
  have lp : ∀ (k : Nat) (s is : Int), 0 ≤ s → s + k = n → (is = 0 ∨ is = 1) → (is = 1 → ∀ t, 0 ≤ t → t < s → I 67 t ≠ 4 ∧ I 67 t ≠ 5 ∧ I 67 t ≠ 6) → (is = 0 → ¬ ∀ t, 0 ≤ t → t < n → I 67 t ≠ 4 ∧ I 67 t ≠ 5 ∧ I 67 t ≠ 6) → AW l E d 0 0 mX10_isPlain 11 [some (vr 59), some (vi is), some (vi s)] [vi n, vi s] sk_G (I, L, sk_J cu sp io rp tp fp) Q := by
    intro k
    induction k with
    | zero =>
      intro s is s0 hs his h1 h0
      have : s = n := by omega
      subst this
      refine AW_icge rfl (fun g => ?_) (fun g => by omega) (by unfold sk_in; omega) (by unfold sk_in; omega)
      rcases his with rfl | rfl
      · have hF := hF (h0 rfl)
        refine AW_run 80 rfl ?_
        exact AW_zret rfl rfl (Or.inl rfl) hF
      · have hT := hT (h1 rfl)
        refine AW_run 80 rfl ?_
        exact AW_zret rfl rfl (Or.inr rfl) hT
    | succ k ih =>
      intro s is s0 hs his h1 h0
      have iw := hw s s0 (by omega)
      have nx0 : (¬ ∀ t, 0 ≤ t → t < n → I 67 t ≠ 4 ∧ I 67 t ≠ 5 ∧ I 67 t ≠ 6) → _ := fun z => ih (s + 1) 0 (by omega) (by omega) (Or.inl rfl) (fun y => by omega) (fun _ => z)
      have nx1 : (is = 1 ∧ I 67 s ≠ 4 ∧ I 67 s ≠ 5 ∧ I 67 s ≠ 6) → _ := fun z => ih (s + 1) 1 (by omega) (by omega) (Or.inr rfl) (fun _ t t0 t1 => by
        by_cases e : t = s
        · subst e; exact z.2
        · exact h1 z.1 t t0 (by omega)) (fun y => by omega)
      rw [← hn] at nx0 nx1
      have hsn : s < I 66 0 := by omega
      clear ih
      refine AW_icge rfl (fun g => by omega) (fun g => ?_) (by unfold sk_in; omega) (by unfold sk_in; omega)
      refine AW_run 80 rfl ?_
      refine AW_ifeq rfl (fun g2 => ?_) (fun g2 => ?_) (by unfold sk_in; omega)
      · have nx0 := nx0 (by rw [hn]; exact h0 g2)
        refine AW_run 80 rfl ?_
        refine AW_iald rfl rfl ⟨by omega, by omega⟩ (by decide) ?_
        exact nx0
      · refine AW_run 80 rfl ?_
        refine AW_iald rfl rfl ⟨by omega, by omega⟩ (by decide) ?_
        refine AW_run 80 rfl ?_
        refine AW_iceq rfl (fun g3 => ?_) (fun g3 => ?_) iw
        · have nx0 := nx0 (fun z => (z s s0 hsn).1 g3)
          refine AW_run 80 rfl ?_
          refine AW_iald rfl rfl ⟨by omega, by omega⟩ (by decide) ?_
          exact nx0
        · refine AW_run 80 rfl ?_
          refine AW_iald rfl rfl ⟨by omega, by omega⟩ (by decide) ?_
          refine AW_run 80 rfl ?_
          refine AW_iceq rfl (fun g4 => ?_) (fun g4 => ?_) iw
          · have nx0 := nx0 (fun z => (z s s0 hsn).2.1 g4)
            refine AW_run 80 rfl ?_
            refine AW_iald rfl rfl ⟨by omega, by omega⟩ (by decide) ?_
            exact nx0
          · refine AW_run 80 rfl ?_
            refine AW_iald rfl rfl ⟨by omega, by omega⟩ (by decide) ?_
            refine AW_run 80 rfl ?_
            refine AW_iceq rfl (fun g5 => ?_) (fun g5 => ?_) iw
            · have nx0 := nx0 (fun z => (z s s0 hsn).2.2 g5)
              refine AW_run 80 rfl ?_
              refine AW_iald rfl rfl ⟨by omega, by omega⟩ (by decide) ?_
              exact nx0
            · have nx1 := nx1 ⟨by omega, g3, g4, g5⟩
              refine AW_run 80 rfl ?_
              refine AW_iald rfl rfl ⟨by omega, by omega⟩ (by decide) ?_
              exact nx1
  have lp := lp n.toNat 0 1 (by omega) (by omega) (Or.inr rfl) (fun _ t t0 t1 => by omega) (fun z => by omega)
  rw [← hn] at lp
  refine AW_run 80 rfl ?_
  refine AW_iald rfl rfl ⟨by omega, by omega⟩ (by decide) ?_
  exact lp
/-- one pair of a round is walked -/
theorem c_M_round1 (hv : sk_pv p D C) (hr : sk_ru C) (hpl : ∀ s, 0 ≤ s → s < C p 10 → C (p + 3) s ≠ 4 ∧ C (p + 3) s ≠ 5 ∧ C (p + 3) s ≠ 6) (I0 : sk_SI) (h1 : sk_q1 p C I0) (rm : Int) (rT : sk_Tb) (q : Int) (I : sk_SI) (TT : Int → sk_Tb) (hJ : sg_jv p C rm rT I0 I TT) (h70 : I 59 70 = 0) (hq : 0 ≤ q ∧ q < I 59 60) (ls : List (Option sk_V)) (m : Int) (hls : ls = [some (vr 59), some (vi m), none, some (vi q), none, none, none, none]) (hn : ∀ I3 T3 nv, sg_jv p C rm rT I0 I3 T3 → I 59 60 ≤ I3 59 60 → I3 59 71 = nv → (I3 59 70 = 0 → sg_M I ≤ sg_M I3 ∧ (I 59 71 = 0 → nv = 1 → sg_M I + 1 ≤ sg_M I3) ∧ (nv = 0 → I 59 71 = 0 ∧ sg_cl p C I3 T3 q ∧ ∀ q', 0 ≤ q' → q' < I 59 60 → sg_cl p C I TT q' → sg_cl p C I3 T3 q')) → AW l E (d + 41) 0 0 mX10_ahead 173 [some (vr 59), some (vi m), none, some (vi (q + 1)), none, none, none, none] [vi (I3 59 60), vi (q + 1)] sk_G (I3, L, sk_J cu sp io rp tp fp) Q) : AW l E (d + 41) 0 0 mX10_ahead 183 ls [] sk_G (I, L, sk_J cu sp io rp tp fp) Q := by
  subst hls
  have n0 := hJ.2.1.1.1
  obtain ⟨p1, p2, p3, p4, p5⟩ := hJ.2.1.1.2 q hq.1 hq.2
  have v9 := hv.1
  have v10 := hv.2.1
  have ms := hv.2.2.2.1 _ p1.1 p1.2
  have q1 := sg_q1 h1 hJ.1
  have f65 : I 65 (I 91 q) = C (p + 2) (I 91 q) := (q1.1 _ p1.1 p1.2).2
  obtain ⟨iv, hx⟩ := sg_iv_start hJ h70 hq
  have walk : ∀ I1, sg_wr 96 0 (fun r => I 92 (80 * q + r)) 80 I I1 → AW l E (d + 40) 0 0 mX10_walk 0 [some (vr 59), some (vi (I1 65 (I1 91 q))), some (vi 0), none, none] [] sk_G (I1, L, sk_J cu sp io rp tp fp) (fun v G' σ' => AW l E (d + 41) 0 0 mX10_ahead 234 [some (vr 59), some (vi m), none, some (vi q), none, none, none, none] (v.toList ++ []) G' σ' Q) := by
    intro I1 hw1
    have w91 : I1 91 = I 91 := hw1.1 91 (by decide)
    have w65 : I1 65 = I 65 := hw1.1 65 (by decide)
    rw [w65, w91, f65]
    have iw := sg_iv_w iv (I1 := I1) (fun c a _ => hw1.1 c a)
    refine sg_block hv hr hpl h1 300 (d + 40) (TT q) (C (p + 2) (I 91 q)) 0 I1 TT _ (by omega) (by omega) p2 (fun r r0 r1 => ?_) (by omega) (by unfold sk_fue; omega) iw (fun _ => hx) (fun v I2 T2 h2 => ?_)
    · have := hw1.2.1 r r0 r1
      rw [Int.mul_zero, this]
      exact p4 r r0 r1
    -- what the walk says goes into the pair
    have n2 := h2.1.2.1.1.1
    have g1 : I 59 60 ≤ I2 59 60 := by
      have := h2.2.1.1
      rw [hw1.1 59 (by decide)] at this
      exact this
    have r2 := h2.2.2.1
    have f71 := h2.1.2.2.2.1
    obtain ⟨-, -, -, -, z3, z4, z5⟩ := h2.1.2.1.1.2 q hq.1 (by omega)
    have stp := fun nv e b f he hb hf hnv => sg_jv_step (nv := nv) (e := e) (b := b) (f := f) hq hJ h70 hw1.1 h2 he hb hf hnv
    have fin : ∀ nv e b f, ((e = 0 ∨ e = 1) ∧ (e = 1 ↔ sg_v v 1)) → ((b = 0 ∨ b = 1) ∧ (b = 1 ↔ sg_v v 4)) → ((f = 0 ∨ f = 1) ∧ (f = 1 ↔ sg_v v 2)) → ((nv = 1 ∧ (I2 59 71 = 1 ∨ e ≠ I2 93 q ∨ b ≠ I2 94 q ∨ f ≠ I2 95 q)) ∨ (nv = 0 ∧ I2 59 71 = 0 ∧ e = I2 93 q ∧ b = I2 94 q ∧ f = I2 95 q)) → AW l E (d + 41) 0 0 mX10_ahead 324 [some (vr 59), some (vi m), none, some (vi q), none, some (vi e), some (vi b), some (vi f)] [vi nv, vr 59] sk_G (I2, L, sk_J cu sp io rp tp fp) Q := by
      intro nv e b f he hb hf hnv
      have ks := (sg_e_k I2 q nv e b f).1.1
      obtain ⟨s1, s2, s3⟩ := stp nv e b f he hb hf hnv
      have hn := hn _ T2 nv s1 s2 ks s3
      have nvb : nv = 0 ∨ nv = 1 := by rcases hnv with h | h; exact Or.inr h.1; exact Or.inl h.1
      have eb := he.1
      have bb := hb.1
      have fb := hf.1
      clear stp
      refine AW_putZ rfl rfl nvb ?_
      refine AW_run 80 rfl ?_
      refine AW_zast rfl rfl ⟨by omega, by omega⟩ (by decide) (eb) ?_
      refine AW_run 80 rfl ?_
      refine AW_zast rfl rfl ⟨by omega, by omega⟩ (by decide) (bb) ?_
      refine AW_run 80 rfl ?_
      refine AW_zast rfl rfl ⟨by omega, by omega⟩ (by decide) (fb) ?_
      refine AW_run 80 rfl ?_
      exact AW_lk hn ⟨rfl, rfl, rfl, trivial⟩
    have p278 : ∀ e b f, ((e = 0 ∨ e = 1) ∧ (e = 1 ↔ sg_v v 1)) → ((b = 0 ∨ b = 1) ∧ (b = 1 ↔ sg_v v 4)) → ((f = 0 ∨ f = 1) ∧ (f = 1 ↔ sg_v v 2)) → AW l E (d + 41) 0 0 mX10_ahead 278 [some (vr 59), some (vi m), none, some (vi q), some (vi v), some (vi e), some (vi b), some (vi f)] [] sk_G (I2, L, sk_J cu sp io rp tp fp) Q := by
      intro e b f he hb hf
      have fin := fun nv hnv => fin nv e b f he hb hf hnv
      have f1 : (I2 59 71 = 1 ∨ e ≠ I2 93 q ∨ b ≠ I2 94 q ∨ f ≠ I2 95 q) → _ := fun z => fin 1 (Or.inl ⟨rfl, z⟩)
      have f0 : I2 59 71 = 0 ∧ e = I2 93 q ∧ b = I2 94 q ∧ f = I2 95 q → _ := fun z => fin 0 (Or.inr ⟨rfl, z⟩)
      have eb := he.1
      have bb := hb.1
      have fb := hf.1
      clear fin stp hn he hb hf
      refine AW_run 80 rfl ?_
      refine AW_ifne rfl (fun g => ?_) (fun g => ?_) (by unfold sk_in; omega)
      · have f1 := f1 (Or.inl (by omega))
        refine AW_run 2 rfl ?_
        exact AW_lk f1 ⟨rfl, rfl, rfl, rfl, rfl, rfl, trivial⟩
      · refine AW_run 80 rfl ?_
        refine AW_zald rfl rfl ⟨by omega, by omega⟩ (by decide) ?_
        refine AW_icne rfl (fun g2 => ?_) (fun g2 => ?_) (by unfold sk_in; omega) (by unfold sk_in; omega)
        · have f1 := f1 (Or.inr (Or.inl g2))
          refine AW_run 2 rfl ?_
          exact AW_lk f1 ⟨rfl, rfl, rfl, rfl, rfl, rfl, trivial⟩
        · refine AW_run 80 rfl ?_
          refine AW_zald rfl rfl ⟨by omega, by omega⟩ (by decide) ?_
          refine AW_icne rfl (fun g3 => ?_) (fun g3 => ?_) (by unfold sk_in; omega) (by unfold sk_in; omega)
          · have f1 := f1 (Or.inr (Or.inr (Or.inl g3)))
            refine AW_run 2 rfl ?_
            exact AW_lk f1 ⟨rfl, rfl, rfl, rfl, rfl, rfl, trivial⟩
          · refine AW_run 80 rfl ?_
            refine AW_zald rfl rfl ⟨by omega, by omega⟩ (by decide) ?_
            refine AW_iceq rfl (fun g4 => ?_) (fun g4 => ?_) (by unfold sk_in; omega) (by unfold sk_in; omega)
            · have f0 := f0 ⟨g, g2, g3, g4⟩
              refine AW_run 1 rfl ?_
              exact AW_lk f0 ⟨rfl, rfl, rfl, rfl, rfl, rfl, trivial⟩
            · have f1 := f1 (Or.inr (Or.inr (Or.inr g4)))
              refine AW_run 2 rfl ?_
              exact AW_lk f1 ⟨rfl, rfl, rfl, rfl, rfl, rfl, trivial⟩
    clear fin stp hn
    obtain ⟨t1, t1'⟩ := sg_t1 r2
    obtain ⟨t2, t2'⟩ := sg_t2 r2
    obtain ⟨t4, t4'⟩ := sg_t4 r2
    have p264 : ∀ e b, ((e = 0 ∨ e = 1) ∧ (e = 1 ↔ sg_v v 1)) → ((b = 0 ∨ b = 1) ∧ (b = 1 ↔ sg_v v 4)) → AW l E (d + 41) 0 0 mX10_ahead 264 [some (vr 59), some (vi m), none, some (vi q), some (vi v), some (vi e), some (vi b), none] [] sk_G (I2, L, sk_J cu sp io rp tp fp) Q := by
      intro e b he hb
      refine AW_run 80 rfl ?_
      refine AW_ifeq rfl (fun g => ?_) (fun g => ?_) (by unfold sk_in; omega)
      · have n := p278 e b 0 he hb ⟨Or.inl rfl, fun z => by omega, fun z => absurd z (t4'.mp g)⟩
        refine AW_run 2 rfl ?_
        exact n
      · have n := p278 e b 1 he hb ⟨Or.inr rfl, fun _ => Classical.byContradiction (fun z => g (t4'.mpr z)), fun _ => rfl⟩
        refine AW_run 3 rfl ?_
        exact n
    have p250 : ∀ e, ((e = 0 ∨ e = 1) ∧ (e = 1 ↔ sg_v v 1)) → AW l E (d + 41) 0 0 mX10_ahead 250 [some (vr 59), some (vi m), none, some (vi q), some (vi v), some (vi e), none, none] [] sk_G (I2, L, sk_J cu sp io rp tp fp) Q := by
      intro e he
      refine AW_run 80 rfl ?_
      refine AW_ifeq rfl (fun g => ?_) (fun g => ?_) (by unfold sk_in; omega)
      · have n := p264 e 0 he ⟨Or.inl rfl, fun z => by omega, fun z => absurd z (t2'.mp g)⟩
        refine AW_run 2 rfl ?_
        exact n
      · have n := p264 e 1 he ⟨Or.inr rfl, fun _ => Classical.byContradiction (fun z => g (t2'.mpr z)), fun _ => rfl⟩
        refine AW_run 3 rfl ?_
        exact n
    refine AW_run 80 rfl ?_
    refine AW_ifeq rfl (fun g => ?_) (fun g => ?_) (by unfold sk_in; omega)
    · have n := p250 0 ⟨Or.inl rfl, fun z => by omega, fun z => absurd z (t1'.mp g)⟩
      refine AW_run 2 rfl ?_
      exact n
    · have n := p250 1 ⟨Or.inr rfl, fun _ => Classical.byContradiction (fun z => g (t1'.mpr z)), fun _ => rfl⟩
      refine AW_run 3 rfl ?_
      exact n
  have lp : ∀ (k : Nat) (r : Int) (I1 : sk_SI), 0 ≤ r → r + k = 80 → sg_wr 96 0 (fun r => I 92 (80 * q + r)) r I I1 → AW l E (d + 41) 0 0 mX10_ahead 190 [some (vr 59), some (vi m), none, some (vi q), some (vi r), none, none, none] [vi 80, vi r] sk_G (I1, L, sk_J cu sp io rp tp fp) Q := by
    intro k
    induction k with
    | zero =>
      intro r I1 r0 hrk h
      have : r = 80 := by omega
      subst this
      have walk := walk I1 h
      have b1 : 0 ≤ I1 91 q ∧ I1 91 q < 40 := by rw [h.1 91 (by decide)]; omega
      refine AW_icge rfl (fun g => ?_) (fun g => by omega)
      refine AW_run 80 rfl ?_
      refine AW_iald rfl rfl ⟨by omega, by omega⟩ (by decide) ?_
      refine AW_iald rfl rfl b1 (by decide) ?_
      refine AW_run 80 rfl ?_
      refine AW_lk (ls' := [some (vr 59), some (vi m), none, some (vi q), none, none, none, none]) ?_ ⟨rfl, rfl, rfl, trivial⟩
      refine AW_cV (M' := mX10_walk) rfl kkX10_357 lcX10_walk rfl rfl rfl rfl rfl rfl (Nat.le_refl _) ?_
      exact walk
    | succ k ih =>
      intro r I1 r0 hrk h
      have e92 : I1 92 (80 * q + r) = I 92 (80 * q + r) := by rw [h.1 92 (by decide)]
      have ih2 := ih (r + 1) _ (by omega) (by omega) (sg_wr_s h r0 e92)
      rw [Int.zero_add] at ih2
      have b2 : 0 ≤ 80 * q + r ∧ 80 * q + r < 24000 := by omega
      clear walk ih
      refine AW_icge rfl (fun g => by omega) (fun g => ?_) (by unfold sk_in; omega)
      refine AW_run 80 rfl ?_
      refine AW_iald rfl rfl b2 (by decide) ?_
      refine AW_iast rfl rfl ⟨by omega, by omega⟩ (by decide) ?_
      refine AW_run 80 rfl ?_
      exact ih2
  have lp := lp 80 0 I (by omega) (by omega) (sg_wr_0 _ _ _ _)
  refine AW_run 80 rfl ?_
  exact AW_lk lp ⟨rfl, rfl, rfl, rfl, trivial⟩
end SKG9
