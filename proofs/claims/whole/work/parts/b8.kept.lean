/-! ===== what both keep of ahead is the same ===== -/
def sh_K (p : Nat) (I : sk_SI) (L : sk_SL) : Prop := ∃ TT TM : Int → sk_Tb, sf_st p I L TT ∧ sg_st p I I TM ∧ (1 ≤ I 48 12 ∧ 1 ≤ I 59 60) ∧ (∀ q, 0 ≤ q → q < I 48 12 → ∃ q', 0 ≤ q' ∧ q' < I 59 60 ∧ I 91 q' = I 49 q ∧ TM q' = TT q) ∧ (∀ q', 0 ≤ q' → q' < I 59 60 → ∃ q, 0 ≤ q ∧ q < I 48 12 ∧ I 49 q = I 91 q' ∧ TT q = TM q') ∧ (∀ x, sf_b (I 51 0) x ↔ sg_b I 0 x) ∧ (∀ s, 0 ≤ s → s < 200 → (I 57 s = 1 ↔ I 98 s = 1) ∧ (I 58 s = 1 ↔ I 99 s = 1) ∧ (I 57 s = 1 → s < I p 10) ∧ (I 58 s = 1 → s < I p 10))
section SKH4
variable {p : Nat} {C : sk_SI} {rm : Int} {rT : sk_Tb} {I I' I0 : sk_SI} {L : sk_SL} {TT TM : Int → sk_Tb}
theorem sh_clo_c (hJ : sf_jv p C rm rT I L TT) (h14 : I 48 14 = 0) (hst : ∀ q, 0 ≤ q → q < I 48 12 → I 52 q = 0) : sk_clo p C rm rT (fun m T => ∃ q, 0 ≤ q ∧ q < I 48 12 ∧ I 49 q = m ∧ TT q = T) (sf_G I TT) (fun t => (0 ≤ t ∧ t < C p 10) ∧ I 57 t = 1) (fun t => (0 ≤ t ∧ t < C p 10) ∧ I 58 t = 1) := by
  obtain ⟨h1, h2, h3, h4, h5, -⟩ := hJ
  obtain ⟨-, h5⟩ := h5 h14
  refine ⟨⟨0, by omega, by omega, h3.2.1, h3.2.2⟩, ?_⟩
  rintro m T ⟨q, q0, q1, rfl, rfl⟩
  obtain ⟨f1, f2⟩ := h5 q q0 q1 (hst q q0 q1)
  refine ⟨fun x _ hx => ⟨q, q0, q1, rfl, rfl, f1 x hx⟩, fun t T' ht => ?_⟩
  obtain ⟨v0, v1, v2, v3⟩ := f2 t T' ht
  refine ⟨⟨v0, v1⟩, fun a b => ⟨v0, v2 a b⟩, fun a => ?_⟩
  obtain ⟨i, i0, i1, i2, i3, -⟩ := v3 a
  exact ⟨i, i0, i1, i2, i3⟩
theorem sh_clo_m (hJ : sg_jv p C rm rT I0 I' TM) (hcl : ∀ q, 0 ≤ q → q < I' 59 60 → sg_cl p C I' TM q) : sk_clo p C rm rT (fun m T => ∃ q, 0 ≤ q ∧ q < I' 59 60 ∧ I' 91 q = m ∧ TM q = T) (sg_G I' TM) (fun t => (0 ≤ t ∧ t < C p 10) ∧ I' 98 t = 1) (fun t => (0 ≤ t ∧ t < C p 10) ∧ I' 99 t = 1) := by
  obtain ⟨h1, h2, h3, -⟩ := hJ
  refine ⟨⟨0, by omega, by omega, h3.2.1, h3.2.2⟩, ?_⟩
  rintro m T ⟨q, q0, q1, rfl, rfl⟩
  obtain ⟨f1, f2⟩ := hcl q q0 q1
  refine ⟨fun x _ hx => ⟨q, q0, q1, rfl, rfl, f1 x hx⟩, fun t T' ht => ?_⟩
  obtain ⟨v0, v1, v2, v3⟩ := f2 t T' ht
  refine ⟨⟨v0, v1⟩, fun a b => ⟨v0, v2 a b⟩, fun a => ?_⟩
  obtain ⟨i, i0, i1, i2, i3⟩ := v3 a
  exact ⟨i, i0, i1, i2, i3⟩
/-- one of both alone can't have too many -/
theorem sh_tm_m (tm : sf_tm p C rm rT) (hJ : sg_jv p C rm rT I0 I' TM) (hcl : ∀ q, 0 ≤ q → q < I' 59 60 → sg_cl p C I' TM q) : False := by
  have n0 := hJ.2.1.1.1
  refine tm _ _ _ _ (sh_clo_m hJ hcl) (fun i => (I' 91 i, TM i)) ?_
  rintro m T ⟨q, q0, q1, rfl, rfl⟩
  exact ⟨q, q0, by omega, rfl⟩
theorem sh_tm_c (tm : sf_tm p C rm rT) (hJ : sf_jv p C rm rT I L TT) (h14 : I 48 14 = 0) (hst : ∀ q, 0 ≤ q → q < I 48 12 → I 52 q = 0) : False := by
  have n0 := hJ.2.1.1.1
  refine tm _ _ _ _ (sh_clo_c hJ h14 hst) (fun i => (I 49 i, TT i)) ?_
  rintro m T ⟨q, q0, q1, rfl, rfl⟩
  exact ⟨q, q0, by omega, rfl⟩
theorem sh_make (hJ : sf_jv p C rm rT I L TT) (h14 : I 48 14 = 0) (hst : ∀ q, 0 ≤ q → q < I 48 12 → I 52 q = 0) (hM : sg_jv p C rm rT I0 I' TM) (h70 : I' 59 70 = 0) (hcl : ∀ q, 0 ≤ q → q < I' 59 60 → sg_cl p C I' TM q) {K : sk_SI} (hp : I p = C p) (kp : K p = C p) (k48 : K 48 12 = I 48 12) (k49 : K 49 = I 49) (k51 : K 51 = I 51) (k52 : K 52 = I 52) (k54 : K 54 = I 54) (k55 : K 55 = I 55) (k57 : K 57 = I 57) (k58 : K 58 = I 58) (k60 : K 59 60 = I' 59 60) (k91 : K 91 = I' 91) (k92 : K 92 = I' 92) (k93 : K 93 = I' 93) (k94 : K 94 = I' 94) (k95 : K 95 = I' 95) (k98 : K 98 = I' 98) (k99 : K 99 = I' 99) : sh_K p K L := by
  have cM := sh_clo_m hM hcl
  have cC := sh_clo_c hJ h14 hst
  obtain ⟨h1, h2, h3, h4, h5, -⟩ := hJ
  obtain ⟨h5, -⟩ := h5 h14
  obtain ⟨m1, m2, m3, m4, m4', m5, -⟩ := hM
  obtain ⟨m5, -⟩ := m5 h70
  have wC := h5 _ _ _ _ cM
  have wM := m5 _ _ _ _ cC
  refine ⟨TT, TM, ?_, ?_, ⟨by omega, by omega⟩, ?_, ?_, fun x => ?_, fun s a b => ?_⟩
  · unfold sf_st sf_pr sf_od sf_ct sf_zo
    rw [k48, k49, k51, k52, k54, k55, k57, k58, kp, ← hp]
    exact h2
  · unfold sg_st sg_pr sg_di sg_zo
    rw [k60, k91, k92, k93, k94, k95, k98, k99, kp]
    exact m2
  · rw [k48, k49, k60, k91]
    exact fun q a b => (wC.1 q a b).1
  · rw [k48, k49, k60, k91]
    exact fun q a b => (wM.1 q a b).1
  · have eb : sg_b K 0 x ↔ sg_b I' 0 x := by unfold sg_b; rw [k93, k94, k95]
    rw [k51, eb]
    constructor
    · intro z
      obtain ⟨q, q0, q1, q2, q3, q4⟩ := (wC.1 0 (by omega) (by omega)).2 x z
      have e : q = 0 := m2.2.1 q 0 q0 q1 (by omega) (by omega) (by rw [q2, h3.2.1, m3.2.1]) (by rw [q3, h3.2.2, m3.2.2])
      rw [e] at q4
      exact q4
    · intro z
      obtain ⟨q, q0, q1, q2, q3, q4⟩ := (wM.1 0 (by omega) (by omega)).2 x z
      have e : q = 0 := sf_dis h2.2.1 ⟨q0, q1⟩ ⟨by omega, by omega⟩ (by rw [q2, h3.2.1, m3.2.1]) (by rw [q3, h3.2.2, m3.2.2])
      rw [e] at q4
      exact q4
  · rw [k57, k58, k98, k99, kp]
    have u := wC.2 s a b
    have w := wM.2 s a b
    exact ⟨⟨fun z => (u.1 z).2, fun z => (w.1 z).2⟩, ⟨fun z => (u.2 z).2, fun z => (w.2 z).2⟩, fun z => (u.1 z).1.2, fun z => (u.2 z).1.2⟩
end SKH4
section SKH5
variable {p : Nat} {I K : sk_SI} {L : sk_SL}
/-- it is kept by calls that leave its cells -/
theorem sh_K_cg {L' : sk_SL} (h : sh_K p I L) (kp : K p = I p) (k48 : K 48 12 = I 48 12) (k49 : K 49 = I 49) (k51 : K 51 = I 51) (k52 : K 52 = I 52) (k54 : K 54 = I 54) (k55 : K 55 = I 55) (k57 : K 57 = I 57) (k58 : K 58 = I 58) (k60 : K 59 60 = I 59 60) (k91 : K 91 = I 91) (k92 : K 92 = I 92) (k93 : K 93 = I 93) (k94 : K 94 = I 94) (k95 : K 95 = I 95) (k98 : K 98 = I 98) (k99 : K 99 = I 99) (kL : L' 50 = L 50) : sh_K p K L' := by
  unfold sh_K sf_st sf_pr sf_od sf_ct sf_zo sg_st sg_pr sg_di sg_zo sg_b
  rw [kp, k48, k49, k51, k52, k54, k55, k57, k58, k60, k91, k92, k93, k94, k95, k98, k99, kL]
  exact h
theorem sh_n (h : sh_K p I L) : I 48 12 = I 59 60 := by
  obtain ⟨TT, TM, hc, hm, -, m1, m2, -⟩ := h
  obtain ⟨n, hn⟩ := Int.eq_ofNat_of_zero_le hc.1.1.1
  obtain ⟨n', hn'⟩ := Int.eq_ofNat_of_zero_le hm.1.1.1
  have up := sh_c_le (n' := n') (R := fun q q' => I 91 q' = I 49 q ∧ TM q' = TT q) n (fun i => i < (n : Int)) (fun i => i < (n' : Int)) (fun q a b _ => by
    obtain ⟨q', x0, x1, x2⟩ := m1 q a (by omega)
    exact ⟨q', x0, by omega, by omega, x2⟩) (fun q1 q2 q' a b c e f g => sf_dis hc.2.1 ⟨a, by omega⟩ ⟨c, by omega⟩ (f.1.symm.trans g.1) (f.2.symm.trans g.2))
  have dn := sh_c_le (n' := n) (R := fun q' q => I 49 q = I 91 q' ∧ TT q = TM q') n' (fun i => i < (n' : Int)) (fun i => i < (n : Int)) (fun q a b _ => by
    obtain ⟨q', x0, x1, x2⟩ := m2 q a (by omega)
    exact ⟨q', x0, by omega, by omega, x2⟩) (fun q1 q2 q' a b c e f g => hm.2.1 q1 q2 a (by omega) c (by omega) (f.1.symm.trans g.1) (f.2.symm.trans g.2))
  rw [sh_c_lt (by omega) n, sh_c_lt (by omega) n'] at up dn
  omega
theorem sh_walked (h : sh_K p I L) {s : Int} (hs : 0 ≤ s ∧ s < 200) : I 57 s = I 98 s ∧ I 58 s = I 99 s := by
  obtain ⟨TT, TM, hc, hm, -, -, -, -, w⟩ := h
  have a := hc.2.2.2 s hs.1 hs.2
  have b := hm.2.2 s hs.1 hs.2
  have c := w s hs.1 hs.2
  omega
theorem sh_sums (h : sh_K p I L) (h10 : 0 ≤ I p 10 ∧ I p 10 ≤ 200) : sk_sum (I 57) 200 = sk_sum (I 98) (I p 10).toNat ∧ sk_sum (I 58) 200 = sk_sum (I 99) (I p 10).toNat := by
  obtain ⟨n, hn⟩ := Int.eq_ofNat_of_zero_le h10.1
  have e : n + (200 - n) = 200 := by omega
  have w : ∀ s, 0 ≤ s → s < 200 → (I p 10 ≤ s → I 57 s = 0 ∧ I 58 s = 0) := fun s a b c => by
    obtain ⟨TT, TM, hc, hm, -, -, -, -, w⟩ := h
    have z := hc.2.2.2 s a b
    have y := w s a b
    omega
  have a1 : sk_sum (I 57) 200 = sk_sum (I 57) n + 0 * ((200 - n : Nat) : Int) := by
    have := sk_sum_ext (f := I 57) (c := 0) (n := n) (200 - n) (fun i a b => (w i (by omega) (by omega) (by omega)).1)
    rw [e] at this
    exact this
  have a2 : sk_sum (I 58) 200 = sk_sum (I 58) n + 0 * ((200 - n : Nat) : Int) := by
    have := sk_sum_ext (f := I 58) (c := 0) (n := n) (200 - n) (fun i a b => (w i (by omega) (by omega) (by omega)).2)
    rw [e] at this
    exact this
  rw [a1, a2, hn, Int.toNat_natCast, sk_sum_cg (g := I 98) n (fun i a b => (sh_walked h ⟨a, by omega⟩).1), sk_sum_cg (g := I 99) n (fun i a b => (sh_walked h ⟨a, by omega⟩).2)]
  omega
theorem sh_55 (h : sh_K p I L) {m : Int} (hm : 0 ≤ m ∧ m < 20) : 0 ≤ I 55 m ∧ I 55 m ≤ 300 := by
  obtain ⟨TT, TM, hc, -⟩ := h
  obtain ⟨n, hn⟩ := Int.eq_ofNat_of_zero_le hc.1.1.1
  have n0 := hc.1.1
  rw [sh_ct hc.2.2.1 hn hm]
  have := sh_c_b (fun q => I 49 q = m) n
  omega
theorem sh_came (h : sh_K p I L) (h9 : 0 ≤ I p 9 ∧ I p 9 ≤ 20) : sk_sum (sh_nz (I 55)) 20 = sk_sum (fun m => sh_i (∃ q, 0 ≤ q ∧ q < I 59 60 ∧ I 91 q = m)) (I p 9).toNat := by
  obtain ⟨TT, TM, hc, hm, -, m1, m2, -⟩ := h
  obtain ⟨n, hn⟩ := Int.eq_ofNat_of_zero_le hc.1.1.1
  obtain ⟨k, hk⟩ := Int.eq_ofNat_of_zero_le h9.1
  have z : ∀ m, 0 ≤ m → m < 20 → (I 55 m = 0 ↔ ∀ q, 0 ≤ q → q < I 48 12 → I 49 q ≠ m) := fun m a b => by
    rw [sh_ct hc.2.2.1 hn ⟨a, b⟩]
    constructor
    · intro e q q0 q1 hq
      have := sh_c_rm (P := fun q => I 49 q = m) (n := n) (a := q) ⟨q0, by omega⟩ hq
      have b2 := (sh_c_b (fun x => I 49 x = m ∧ x ≠ q) n).1
      omega
    · intro e
      exact sh_c_0 n (fun q q0 q1 => e q q0 (by omega))
  have a1 : sk_sum (sh_nz (I 55)) 20 = sk_sum (sh_nz (I 55)) k + 0 * ((20 - k : Nat) : Int) := by
    have := sk_sum_ext (f := sh_nz (I 55)) (c := 0) (n := k) (20 - k) (fun i a b => by
      unfold sh_nz
      rw [if_pos ((z i (by omega) (by omega)).mpr (fun q q0 q1 e => by have := (hc.1.2 q q0 q1).1; omega))])
    rw [show k + (20 - k) = 20 by omega] at this
    exact this
  rw [a1, hk, Int.toNat_natCast, sk_sum_cg (g := fun m => sh_i (∃ q, 0 ≤ q ∧ q < I 59 60 ∧ I 91 q = m)) k (fun m a b => by
    unfold sh_nz
    by_cases e : I 55 m = 0
    · rw [if_pos e, sh_i_f]
      rintro ⟨q', x0, x1, x2⟩
      obtain ⟨q, y0, y1, y2, -⟩ := m2 q' x0 x1
      exact (z m a (by omega)).mp e q y0 y1 (y2.trans x2)
    · rw [if_neg e, sh_i_t]
      apply Classical.byContradiction
      intro y
      apply e
      refine (z m a (by omega)).mpr (fun q q0 q1 hq => y ?_)
      obtain ⟨q', x0, x1, x2, -⟩ := m1 q q0 q1
      exact ⟨q', x0, x1, x2.trans hq⟩)]
  omega
theorem sh_root (h : sh_K p I L) : (0 ≤ I 51 0 ∧ I 51 0 ≤ 7) ∧ (if sk_and (I 51 0) 5 = 0 then (0 : Int) else 1) = (if I 93 0 = 1 ∨ I 94 0 = 1 then 1 else 0) ∧ (if sk_and (I 51 0) 2 = 0 then (0 : Int) else 1) = I 95 0 := by
  obtain ⟨TT, TM, hc, hm, n1, -, -, w, -⟩ := h
  have c7 := (hc.1.2 0 (by omega) (by omega)).2.2.2.2.1
  obtain ⟨-, -, -, -, z3, z4, z5⟩ := hm.1.2 0 (by omega) (by omega)
  have t5 := (sf_t5 c7).2
  have t2 := (sf_t2 c7).2.1
  have w1 := w 1
  have w2 := w 2
  have w4 := w 4
  rw [sg_b_1] at w1
  rw [sg_b_2] at w2
  rw [sg_b_4] at w4
  refine ⟨c7, ?_, ?_⟩
  · by_cases e : sk_and (I 51 0) 5 = 0
    · rw [if_pos e, if_neg]
      intro y
      exact t5.mp e (y.imp w1.mpr w4.mpr)
    · rw [if_neg e, if_pos]
      exact (Classical.byContradiction (fun y => e (t5.mpr y)) : sf_b (I 51 0) 1 ∨ sf_b (I 51 0) 4).imp w1.mp w4.mp
  · by_cases e : sk_and (I 51 0) 2 = 0
    · rw [if_pos e]
      rcases z5 with y | y
      · exact y.symm
      · exact absurd (w2.mpr y) (t2.mp e)
    · rw [if_neg e]
      exact (w2.mp (Classical.byContradiction (fun y => e (t2.mpr y)))).symm
/-- the k-th pair of a method -/
theorem sh_pair (h : sh_K p I L) (h9 : I p 9 ≤ 20) : ∃ TM : Int → sk_Tb, sg_st p I I TM ∧ ∀ m k ki le, 0 ≤ m ∧ m < 20 → 0 ≤ k → 0 ≤ ki ∧ ki < 8 → 0 ≤ le ∧ le < 10 → (k < I 55 m → (0 ≤ sh_bs I m ∧ sh_bs I m + k < 300 ∧ 0 ≤ I 54 (sh_bs I m + k) ∧ I 54 (sh_bs I m + k) < 300) ∧ (∃ a, 0 ≤ a ∧ a < I 59 60 ∧ I 91 a = m ∧ sk_sum (sh_A I TM m (TM a)) (I 59 60).toNat = k) ∧ ∀ a, 0 ≤ a → a < I 59 60 → I 91 a = m → sk_sum (sh_A I TM m (TM a)) (I 59 60).toNat = k → TM a (10 * ki + le) = sk_ra (L 50 (I 54 (sh_bs I m + k) * 8 + ki)) le) ∧ (I 55 m ≤ k → ∀ a, 0 ≤ a → a < I 59 60 → ¬ (I 91 a = m ∧ sk_sum (sh_A I TM m (TM a)) (I 59 60).toNat = k)) := by
  obtain ⟨TT, TM, hc, hm, -, m1, m2, -⟩ := h
  obtain ⟨n, hn⟩ := Int.eq_ofNat_of_zero_le hc.1.1.1
  obtain ⟨n', hn'⟩ := Int.eq_ofNat_of_zero_le hm.1.1.1
  have n0 := hc.1.1
  refine ⟨TM, hm, fun m k ki le hm20 hk hki hle => ?_⟩
  have eq : ∀ T, sk_sum (sh_A I TM m T) (I 59 60).toNat = sh_c (fun q => I 49 q = m ∧ sk_lx (TT q) T 80) n := fun T => by
    rw [hn', Int.toNat_natCast]
    show sh_c (fun q => I 91 q = m ∧ sk_lx (TM q) T 80) n' = _
    have up := sh_c_le (n' := n') (R := fun q q' => I 91 q' = I 49 q ∧ TM q' = TT q) n (fun q => I 49 q = m ∧ sk_lx (TT q) T 80) (fun q => I 91 q = m ∧ sk_lx (TM q) T 80) (fun q a b z => by
      obtain ⟨q', x0, x1, x2, x3⟩ := m1 q a (by omega)
      exact ⟨q', x0, by omega, ⟨x2.trans z.1, by rw [x3]; exact z.2⟩, x2, x3⟩) (fun q1 q2 q' a b c e f g => sf_dis hc.2.1 ⟨a, by omega⟩ ⟨c, by omega⟩ (f.1.symm.trans g.1) (f.2.symm.trans g.2))
    have dn := sh_c_le (n' := n) (R := fun q' q => I 49 q = I 91 q' ∧ TT q = TM q') n' (fun q => I 91 q = m ∧ sk_lx (TM q) T 80) (fun q => I 49 q = m ∧ sk_lx (TT q) T 80) (fun q a b z => by
      obtain ⟨q', x0, x1, x2, x3⟩ := m2 q a (by omega)
      exact ⟨q', x0, by omega, ⟨x2.trans z.1, by rw [x3]; exact z.2⟩, x2, x3⟩) (fun q1 q2 q' a b c e f g => hm.2.1 q1 q2 a (by omega) c (by omega) (f.1.symm.trans g.1) (f.2.symm.trans g.2))
    omega
  refine ⟨fun hk5 => ?_, fun hk5 a a0 a1 z => ?_⟩
  · obtain ⟨k1, k2, k3⟩ := sh_kth hc.1 hc.2.1 hc.2.2.1 hn h9 hm20 ⟨hk, hk5⟩
    have o := hc.2.1.1 (sh_bs I m + k) (by omega) (by omega)
    obtain ⟨-, q2, -, q4, -⟩ := hc.1.2 _ o.1 o.2
    have er : sk_ra (L 50 (I 54 (sh_bs I m + k) * 8 + ki)) le = TT (I 54 (sh_bs I m + k)) (10 * ki + le) := by
      rw [q4 ki hki.1 hki.2, sk_ra_lg (sk_t8_1 q2 hki) hle]
      rfl
    rw [er]
    refine ⟨⟨k1.1, by omega, o.1, by omega⟩, ?_, fun a a0 a1 a2 a3 => ?_⟩
    · obtain ⟨q', x0, x1, x2, x3⟩ := m1 _ o.1 o.2
      refine ⟨q', x0, x1, x2.trans k2, ?_⟩
      rw [eq, x3]
      exact k3
    · obtain ⟨q, y0, y1, y2, y3⟩ := m2 a a0 a1
      rw [eq, ← y3] at a3
      obtain ⟨j, j0, j1, j2⟩ := hc.2.1.2.2 q y0 y1
      have ps := sh_pos hc.2.1 hn (j := j) ⟨j0, by omega⟩
      have ps2 := sh_pos hc.2.1 hn (j := sh_bs I m + k) ⟨by omega, k1.2⟩
      rw [j2, y2, a2, a3] at ps
      rw [k2, k3] at ps2
      have e : j = sh_bs I m + k := by omega
      rw [← e, j2, y3]
  · obtain ⟨q, y0, y1, y2, y3⟩ := m2 a a0 a1
    obtain ⟨z1, z2⟩ := z
    rw [eq, ← y3] at z2
    have := sh_less (TT := TT) hn hc.2.2.1 (q := q) ⟨y0, by omega⟩ (y2.trans z1) hm20
    omega
end SKH5
