/-! ===== the model between walks ===== -/
def sg_if (p : Nat) (C : sk_SI) (I : sk_SI) (TT : Int → sk_Tb) : Prop := ∀ q x, 0 ≤ q → q < I 59 60 → sg_b I q x → sk_WB p C (sg_G I TT) 300 (TT q) (C (p + 2) (I 91 q)) x
def sg_jv (p : Nat) (C : sk_SI) (rm : Int) (rT : sk_Tb) (I0 I : sk_SI) (TT : Int → sk_Tb) : Prop := sg_fr I0 I ∧ sg_st p C I TT ∧ (1 ≤ I 59 60 ∧ I 91 0 = rm ∧ TT 0 = rT) ∧ (I 59 70 = 0 ∨ I 59 70 = 1) ∧ (I 59 71 = 0 ∨ I 59 71 = 1) ∧ (I 59 70 = 0 → sg_wi p C rm rT I TT ∧ sg_if p C I TT) ∧ (I 59 70 = 1 → sf_tm p C rm rT)
/-- a pair whose walk tells nothing new -/
def sg_cl (p : Nat) (C : sk_SI) (I : sk_SI) (TT : Int → sk_Tb) (q : Int) : Prop := (∀ x, sk_WB p C (sg_G I TT) 300 (TT q) (C (p + 2) (I 91 q)) x → sg_b I q x) ∧ ∀ t T', sk_VB p C (sg_G I TT) 300 (TT q) (C (p + 2) (I 91 q)) t T' → sg_vs p C I TT t T'
def sg_B (I : sk_SI) : Int := sk_sum (fun q => I 93 q + I 94 q + I 95 q) (I 59 60).toNat
def sg_M (I : sk_SI) : Int := sg_N I + sg_B I
theorem sg_M_b {p : Nat} {C I : sk_SI} {TT : Int → sk_Tb} (h : sg_st p C I TT) : sg_M I ≤ 1600 := by
  have n0 := h.1.1
  obtain ⟨n, hn⟩ := Int.eq_ofNat_of_zero_le n0.1
  have a := sk_sum_bd (f := I 98) (a := 0) (b := 1) 200 (fun i a b => by have := (h.2.2 i a (by omega)).1; omega)
  have b := sk_sum_bd (f := I 99) (a := 0) (b := 1) 200 (fun i a b => by have := (h.2.2 i a (by omega)).2; omega)
  have c := sk_sum_bd (f := fun q => I 93 q + I 94 q + I 95 q) (a := 0) (b := 3) n (fun i a b => by
    have := (h.1.2 i a (by omega)).2.2.2.2
    omega)
  unfold sg_M sg_N sg_B
  rw [hn, Int.toNat_natCast]
  omega
def sg_e (I2 : sk_SI) (q nv e b f : Int) : sk_SI := sk_uI (sk_uI (sk_uI (sk_uI I2 59 71 nv) 93 q e) 94 q b) 95 q f
section SKG7
variable {p : Nat} {C : sk_SI} {rm q v nv e b f : Int} {rT : sk_Tb} {I0 I I1 I2 : sk_SI} {TT T2 : Int → sk_Tb}
theorem sg_e_k (I2 : sk_SI) (q nv e b f : Int) : (sg_e I2 q nv e b f 59 71 = nv ∧ ∀ j, j ≠ 71 → sg_e I2 q nv e b f 59 j = I2 59 j) ∧ (sg_e I2 q nv e b f 93 = sk_up (I2 93) q e ∧ sg_e I2 q nv e b f 94 = sk_up (I2 94) q b ∧ sg_e I2 q nv e b f 95 = sk_up (I2 95) q f) ∧ ∀ c, c ≠ 59 → c ≠ 93 → c ≠ 94 → c ≠ 95 → sg_e I2 q nv e b f c = I2 c := by
  unfold sg_e
  refine ⟨⟨?_, fun j hj => ?_⟩, ⟨?_, ?_, ?_⟩, fun c h1 h2 h3 h4 => ?_⟩
  · rw [sk_uI_o (by decide), sk_uI_o (by decide), sk_uI_o (by decide), sk_uI_s, sk_up_s]
  · rw [sk_uI_o (by decide), sk_uI_o (by decide), sk_uI_o (by decide), sk_uI_s, sk_up_o hj]
  · rw [sk_uI_o (by decide), sk_uI_o (by decide), sk_uI_s, sk_uI_o (by decide)]
  · rw [sk_uI_o (by decide), sk_uI_s, sk_uI_o (by decide), sk_uI_o (by decide)]
  · rw [sk_uI_s, sk_uI_o (by decide), sk_uI_o (by decide), sk_uI_o (by decide)]
  · rw [sk_uI_o h4, sk_uI_o h3, sk_uI_o h2, sk_uI_o h1]
theorem sg_jv_step (hq : 0 ≤ q ∧ q < I 59 60) (hJ : sg_jv p C rm rT I0 I TT) (h70 : I 59 70 = 0) (hw : ∀ c, c ≠ 96 → I1 c = I c) (h2 : sg_po p C rm rT (sg_G I TT) I0 0 I1 TT (sk_WB p C (sg_G I TT) 300 (TT q) (C (p + 2) (I 91 q))) (sk_VB p C (sg_G I TT) 300 (TT q) (C (p + 2) (I 91 q))) v I2 T2) (he : (e = 0 ∨ e = 1) ∧ (e = 1 ↔ sg_v v 1)) (hb : (b = 0 ∨ b = 1) ∧ (b = 1 ↔ sg_v v 4)) (hf : (f = 0 ∨ f = 1) ∧ (f = 1 ↔ sg_v v 2)) (hnv : (nv = 1 ∧ (I2 59 71 = 1 ∨ e ≠ I2 93 q ∨ b ≠ I2 94 q ∨ f ≠ I2 95 q)) ∨ (nv = 0 ∧ I2 59 71 = 0 ∧ e = I2 93 q ∧ b = I2 94 q ∧ f = I2 95 q)) : sg_jv p C rm rT I0 (sg_e I2 q nv e b f) T2 ∧ I 59 60 ≤ sg_e I2 q nv e b f 59 60 ∧ (sg_e I2 q nv e b f 59 70 = 0 → sg_M I ≤ sg_M (sg_e I2 q nv e b f) ∧ (I 59 71 = 0 → nv = 1 → sg_M I + 1 ≤ sg_M (sg_e I2 q nv e b f)) ∧ (nv = 0 → I 59 71 = 0 ∧ sg_cl p C (sg_e I2 q nv e b f) T2 q ∧ ∀ q', 0 ≤ q' → q' < I 59 60 → sg_cl p C I TT q' → sg_cl p C (sg_e I2 q nv e b f) T2 q')) := by
  obtain ⟨j1, j2, j3, j4, j4', j5, -⟩ := hJ
  obtain ⟨j5, j6⟩ := j5 h70
  obtain ⟨i2, g2, r2, x2⟩ := h2
  obtain ⟨f1, ⟨f2, f3, f4⟩, f5, f6, f7, f8⟩ := i2
  have n2 := f2.1
  obtain ⟨⟨k71, kj⟩, ⟨k93, k94, k95⟩, ko⟩ := sg_e_k I2 q nv e b f
  have k60 := kj 60 (by decide)
  have k70 := kj 70 (by decide)
  have k91 := ko 91 (by decide) (by decide) (by decide) (by decide)
  have k92 := ko 92 (by decide) (by decide) (by decide) (by decide)
  have k98 := ko 98 (by decide) (by decide) (by decide) (by decide)
  have k99 := ko 99 (by decide) (by decide) (by decide) (by decide)
  have nvb : nv = 0 ∨ nv = 1 := by rcases hnv with h | h; exact Or.inr h.1; exact Or.inl h.1
  have fr3 : sg_fr I0 (sg_e I2 q nv e b f) := ⟨fun c a b' => by rw [ko c a (by omega) (by omega) (by omega)]; exact f1.1 c a b', fun j a b' c => by rw [kj j c]; exact f1.2 j a b' c⟩
  generalize sg_e I2 q nv e b f = I3 at *
  obtain ⟨g1, g3, g4, g5, g6, g7, g8, g9, g10, g11⟩ := g2
  have w59 : I1 59 = I 59 := hw 59 (by decide)
  have w91 : I1 91 = I 91 := hw 91 (by decide)
  have w93 : I1 93 = I 93 := hw 93 (by decide)
  have w94 : I1 94 = I 94 := hw 94 (by decide)
  have w95 : I1 95 = I 95 := hw 95 (by decide)
  have w98 : I1 98 = I 98 := hw 98 (by decide)
  have w99 : I1 99 = I 99 := hw 99 (by decide)
  have wN : sg_N I1 = sg_N I := by unfold sg_N; rw [w59, w98, w99]
  rw [w59, w91, w93, w94, w95] at g3
  rw [w59] at g1 g4 g8 g10 g11
  rw [w98, w99] at g5 g11
  rw [wN] at g9 g10
  have q3 := g3 q hq.1 hq.2
  have N3 : sg_N I3 = sg_N I2 := by unfold sg_N; rw [k60, k98, k99]
  have bo : ∀ q' x, q' ≠ q → (sg_b I3 q' x ↔ sg_b I2 q' x) := fun q' x hne => by unfold sg_b; rw [k93, k94, k95, sk_up_o hne, sk_up_o hne, sk_up_o hne]
  have bI : ∀ q' x, 0 ≤ q' → q' < I 59 60 → (sg_b I2 q' x ↔ sg_b I q' x) := fun q' x a b' => by
    obtain ⟨-, -, y3, y4, y5⟩ := g3 q' a b'
    unfold sg_b
    rw [y3, y4, y5]
  have bn : ∀ q' x, I 59 60 ≤ q' → q' < I2 59 60 → ¬ sg_b I2 q' x := fun q' x a b' z => by
    obtain ⟨y3, y4, y5⟩ := g4 q' a b'
    unfold sg_b at z
    rw [y3, y4, y5] at z
    omega
  have bq : ∀ x, sg_b I3 q x ↔ sg_v v x := fun x => by
    have h1 := sg_b_1 I3 q
    have h2 := sg_b_2 I3 q
    have h4 := sg_b_4 I3 q
    rw [k93, sk_up_s] at h1
    rw [k95, sk_up_s] at h2
    rw [k94, sk_up_s] at h4
    constructor
    · intro z
      have : x = 1 ∨ x = 4 ∨ x = 2 := by unfold sg_b at z; omega
      rcases this with rfl | rfl | rfl
      · exact he.2.mp (h1.mp z)
      · exact hb.2.mp (h4.mp z)
      · exact hf.2.mp (h2.mp z)
    · intro z
      have : x = 1 ∨ x = 4 ∨ x = 2 := by unfold sg_v at z; omega
      rcases this with rfl | rfl | rfl
      · exact h1.mpr (he.2.mpr z)
      · exact h4.mpr (hb.2.mpr z)
      · exact h2.mpr (hf.2.mpr z)
  have st3 : sg_st p C I3 T2 := by
    refine ⟨⟨by rw [k60]; exact n2, fun q' a b' => ?_⟩, by unfold sg_di; rw [k60, k91]; exact f3, by unfold sg_zo; rw [k98, k99]; exact f4⟩
    rw [k60] at b'
    obtain ⟨a1, a2, a3, a4, a5, a6, a7⟩ := f2.2 q' a b'
    rw [k91, k92, k93, k94, k95]
    refine ⟨a1, a2, a3, a4, ?_⟩
    by_cases z : q' = q
    · subst z; rw [sk_up_s, sk_up_s, sk_up_s]; exact ⟨he.1, hb.1, hf.1⟩
    · rw [sk_up_o z, sk_up_o z, sk_up_o z]; exact ⟨a5, a6, a7⟩
  have m0 := g3 0 (by omega) (by omega)
  refine ⟨⟨fr3, st3, ⟨by omega, by rw [k91, m0.1]; exact j3.2.1, by rw [m0.2.1]; exact j3.2.2⟩, by rw [k70]; exact f5, by rw [k71]; exact nvb, fun z => ?_, fun z => (f8 (by rw [k70] at z; exact z)).1⟩, by omega, fun z => ?_⟩
  · rw [k70] at z
    obtain ⟨go, wi⟩ := f7 z
    obtain ⟨xb, -⟩ := x2 z
    have up : ∀ m T x, sg_G I TT m T x → sg_G I3 T2 m T x := by
      rintro m T x ⟨q', a, b', c, d, y⟩
      obtain ⟨y1, y2, -⟩ := g3 q' a b'
      refine ⟨q', a, by omega, by rw [k91, y1, c], by rw [y2, d], ?_⟩
      by_cases w : q' = q
      · subst w
        rw [bq x, xb x]
        exact j6 q' x a b' y
      · rw [bo q' x w, bI q' x a b']
        exact y
    refine ⟨fun A G P O hc => ⟨fun q' a b' => ?_, ?_⟩, fun q' x a b' y => ?_⟩
    · rw [k60] at b'
      rw [k91]
      obtain ⟨u1, u2⟩ := (wi A G P O hc).1 q' a b'
      refine ⟨u1, fun x hbx => ?_⟩
      by_cases w : q' = q
      · subst w
        rw [bq x, xb x] at hbx
        have upX : ∀ m T x, sg_G I TT m T x → G m T x := fun m T x hg => by
          obtain ⟨i, i0, i1, i2', i3, i4⟩ := hg
          have := ((j5 A G P O hc).1 i i0 i1).2 x i4
          rw [i2', i3] at this
          exact this
        have w1 := sk_WB_mono (p := p) (C := C) upX 300 _ _ _ hbx
        rw [← q3.1, ← q3.2.1] at w1
        have x124 : x = 1 ∨ x = 2 ∨ x = 4 := by
          have := (xb x).mpr hbx
          unfold sg_v at this
          omega
        exact (hc.2 _ _ u1).1 x x124 w1
      · rw [bo q' x w] at hbx
        exact u2 x hbx
    · rw [k98, k99]
      exact (wi A G P O hc).2
    · rw [k60] at b'
      rw [k91]
      by_cases w : q' = q
      · subst w
        rw [bq x, xb x] at y
        rw [q3.1, q3.2.1]
        exact sk_WB_mono (p := p) (C := C) up 300 _ _ _ y
      · rw [bo q' x w] at y
        by_cases w2 : q' < I 59 60
        · obtain ⟨y1, y2, -⟩ := g3 q' a w2
          rw [y1, y2]
          exact sk_WB_mono (p := p) (C := C) up 300 _ _ _ (j6 q' x a w2 ((bI q' x a w2).mp y))
        · exact absurd y (bn q' x (by omega) b')
  · rw [k70] at z
    obtain ⟨go, wi⟩ := f7 z
    obtain ⟨xb, xv⟩ := x2 z
    -- bits only come
    have mono : ∀ x, sg_b I q x → sg_v v x := fun x y => (xb x).mpr (j6 q x hq.1 hq.2 y)
    have zb := (j2.1.2 q hq.1 hq.2).2.2.2.2
    have e1 : I 93 q ≤ e := by
      rcases zb.1 with w | w
      · omega
      · have := he.2.mpr (mono 1 ((sg_b_1 I q).mpr w)); omega
    have b1 : I 94 q ≤ b := by
      rcases zb.2.1 with w | w
      · omega
      · have := hb.2.mpr (mono 4 ((sg_b_4 I q).mpr w)); omega
    have c1 : I 95 q ≤ f := by
      rcases zb.2.2 with w | w
      · omega
      · have := hf.2.mpr (mono 2 ((sg_b_2 I q).mpr w)); omega
    have sB : sg_B I3 = sg_B I - (I 93 q + I 94 q + I 95 q) + (e + b + f) := by
      obtain ⟨n, hn⟩ := Int.eq_ofNat_of_zero_le j2.1.1.1
      obtain ⟨k, hk⟩ := Int.eq_ofNat_of_zero_le (show 0 ≤ I2 59 60 - I 59 60 by omega)
      have hn2 : I2 59 60 = ((n + k : Nat) : Int) := by omega
      have s1 : (fun q' => I3 93 q' + I3 94 q' + I3 95 q') = sk_up (fun q' => I2 93 q' + I2 94 q' + I2 95 q') q (e + b + f) := by
        funext q'
        rw [k93, k94, k95]
        by_cases w : q' = q
        · subst w; rw [sk_up_s, sk_up_s, sk_up_s, sk_up_s]
        · rw [sk_up_o w, sk_up_o w, sk_up_o w, sk_up_o w]
      have s2 := sk_sum_up (f := fun q' => I2 93 q' + I2 94 q' + I2 95 q') (c := e + b + f) hq.1 (n + k) (by omega)
      have s3 : sk_sum (fun q' => I2 93 q' + I2 94 q' + I2 95 q') (n + k) = sk_sum (fun q' => I2 93 q' + I2 94 q' + I2 95 q') n + 0 * k := sk_sum_ext k (fun i a b' => by
        obtain ⟨y3, y4, y5⟩ := g4 i (by omega) (by omega)
        rw [y3, y4, y5]
        rfl)
      have s4 : sk_sum (fun q' => I2 93 q' + I2 94 q' + I2 95 q') n = sk_sum (fun q' => I 93 q' + I 94 q' + I 95 q') n := sk_sum_cg n (fun i a b' => by
        obtain ⟨-, -, y3, y4, y5⟩ := g3 i a (by omega)
        rw [y3, y4, y5])
      have s5 : I2 93 q + I2 94 q + I2 95 q = I 93 q + I 94 q + I 95 q := by rw [q3.2.2.1, q3.2.2.2.1, q3.2.2.2.2]
      unfold sg_B
      rw [k60, hn2, hn, Int.toNat_natCast, Int.toNat_natCast, s1, s2, s3, s4]
      omega
    have MM : sg_M I3 = sg_N I2 + sg_B I - (I 93 q + I 94 q + I 95 q) + (e + b + f) := by
      unfold sg_M
      rw [N3, sB]
      omega
    have M0 : sg_M I = sg_N I + sg_B I := rfl
    refine ⟨by omega, fun w y => ?_, fun y => ?_⟩
    · rcases hnv with ⟨-, h | h⟩ | h
      · have := g10 w h
        omega
      · rw [q3.2.2.1, q3.2.2.2.1, q3.2.2.2.2] at h
        omega
      · omega
    · obtain ⟨h1, h2, h3, h4⟩ : I2 59 71 = 0 ∧ e = I2 93 q ∧ b = I2 94 q ∧ f = I2 95 q := by
        rcases hnv with h | h
        · omega
        · exact h.2
      obtain ⟨h5, h6⟩ := g11 h1
      have i71 : I 59 71 = 0 := by
        rcases j4' with w | w
        · exact w
        · have := g8 w; omega
      have bs : ∀ q' x, sg_b I3 q' x ↔ sg_b I2 q' x := fun q' x => by
        by_cases w : q' = q
        · subst w
          unfold sg_b
          rw [k93, k94, k95, sk_up_s, sk_up_s, sk_up_s, h2, h3, h4]
        · exact bo q' x w
      have G3 : ∀ m T x, sg_G I TT m T x ↔ sg_G I3 T2 m T x := fun m T x => by
        rw [go m T x]
        unfold sg_G
        rw [k60, k91]
        constructor
        · rintro ⟨q', a1, a2, a3, a4, a5⟩
          exact ⟨q', a1, a2, a3, a4, (bs q' x).mpr a5⟩
        · rintro ⟨q', a1, a2, a3, a4, a5⟩
          exact ⟨q', a1, a2, a3, a4, (bs q' x).mp a5⟩
      have vs3 : ∀ t T', sg_vs p C I2 T2 t T' → sg_vs p C I3 T2 t T' := fun t T' h => by
        unfold sg_vs at h ⊢
        rw [k60, k91, k98, k99]
        exact h
      refine ⟨i71, ⟨fun x hx => ?_, fun t T' ht => ?_⟩, fun q' a b' hc => ⟨fun x hx => ?_, fun t T' ht => ?_⟩⟩
      · rw [k91, q3.1, q3.2.1] at hx
        rw [bq x, xb x]
        exact sk_WB_mono (p := p) (C := C) (fun m T x h => (G3 m T x).mpr h) 300 _ _ _ hx
      · rw [k91, q3.1, q3.2.1] at ht
        exact vs3 t T' (xv t T' (sk_VB_mono (p := p) (C := C) (fun m T x h => (G3 m T x).mpr h) 300 _ _ _ _ ht))
      · obtain ⟨y1, y2, -⟩ := g3 q' a b'
        rw [k91, y1, y2] at hx
        rw [bs q' x, bI q' x a b']
        exact hc.1 x (sk_WB_mono (p := p) (C := C) (fun m T x h => (G3 m T x).mpr h) 300 _ _ _ hx)
      · obtain ⟨y1, y2, -⟩ := g3 q' a b'
        rw [k91, y1, y2] at ht
        obtain ⟨u0, u1, u2, u3⟩ := hc.2 t T' (sk_VB_mono (p := p) (C := C) (fun m T x h => (G3 m T x).mpr h) 300 _ _ _ _ ht)
        refine ⟨u0, by rw [k98]; exact (g5 t).1 u1, fun w1 w2 => by rw [k99]; exact (g5 t).2 (u2 w1 w2), fun w1 => ?_⟩
        obtain ⟨i, i0, i1, i3, i4⟩ := u3 w1
        obtain ⟨z1, z2, -⟩ := g3 i i0 i1
        exact ⟨i, i0, by omega, by rw [k91, z1, i3], by rw [z2, i4]⟩
end SKG7
