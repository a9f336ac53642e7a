/-! ===== about, step, walked, told, pair, run, ahead ===== -/
section SKK3
variable {l : Launch} {E : sk_En} {I : sk_SI} {L : sk_SL} {cu sp io rp tp fp : Nat}
theorem sr_pf (hp : sr_prog cu I) : ((0 ≤ I cu 9 ∧ I cu 9 ≤ 20) ∧ (0 ≤ I cu 10 ∧ I cu 10 ≤ 200)) ∧ (∀ i, 0 ≤ i → i < I cu 10 → sk_in (I (cu + 3) i) ∧ I 67 i = I (cu + 3) i) ∧ (I 63 0 = I cu 9 ∧ I 66 0 = I cu 10) ∧ ((I 59 7 = 0 ∧ I cu 9 = 0) ∨ (I 59 7 = 1 ∧ 0 < I cu 9)) := by
  rcases hp with ⟨a, b, c, e, f⟩ | ⟨a, ⟨D, b⟩, c, e, f, g⟩
  · exact ⟨⟨by omega, by omega⟩, fun i x y => by omega, ⟨by omega, by omega⟩, Or.inl ⟨a, b⟩⟩
  · have v9 := b.1
    have v10 := b.2.1
    refine ⟨⟨by omega, by omega⟩, fun i x y => ⟨?_, (c.2 i x y).1⟩, ⟨e, f⟩, Or.inr ⟨a, by omega⟩⟩
    have := (sf_wf b ⟨x, y⟩).1
    unfold sk_in
    omega
theorem sr_q1 (h : sr_R cu sp I L) (hh : I 59 7 = 1) : sk_q1 cu I I := by
  obtain ⟨h0, hm, ht, hru, hb, hp, -⟩ := h
  rcases hp with z | z
  · omega
  · exact ⟨z.2.2.1.1, z.2.2.1.2, hru.1, hb.1, hb.2.1⟩
theorem sr_aboutc (h : sr_R cu sp I L) (w : Int) (hw : sk_in w) : AW l E 100 0 0 mX9_about 0 [some (vr 0), some (vi w)] [] sk_G (I, L, sk_J cu sp io rp tp fp) (sr_P l E mX10_about [some (vr 59), some (vi w), none, none]) := by
  have hc := (sr_pg h.1).1
  have hm := h.2.1
  have hp := h.2.2.2.2.2.1
  obtain ⟨⟨p9, p10⟩, p3, ⟨p63, p66⟩, ph⟩ := sr_pf hp
  have mc := fun Q' => c_M_about (l := l) (E := E) (d := 99) (I := I) (L := L) (cu := cu) (sp := sp) (io := io) (rp := rp) (tp := tp) (fp := fp) (Q := Q') w hw hm.1 (by omega) (fun _ => by rw [p66]; exact p10) (fun i a b => by rw [p66] at b; rw [(p3 i a b).2]; exact (p3 i a b).1)
  refine c_K_about (d := 99) w hw hc p9 p10 (fun i a b => (p3 i a b).1) (fun z => ?_) (fun z1 z2 z3 => ?_) (fun z v hv => ?_)
  · refine ⟨_, I, L, cu, sp, io, rp, tp, fp, rfl, rfl, rfl, fun Q' hQ => ?_⟩
    exact mc Q' (fun _ => hQ I h) (fun a b => absurd ⟨a, b⟩ z) (fun _ v hv => absurd (show 0 ≤ w ∧ w < 4 by omega) z)
  · refine ⟨_, I, L, cu, sp, io, rp, tp, fp, rfl, rfl, rfl, fun Q' hQ => ?_⟩
    exact mc Q' (fun y => absurd ⟨z1, z2⟩ y) (fun _ _ _ => hQ I h) (fun y => by omega)
  · refine ⟨_, I, L, cu, sp, io, rp, tp, fp, rfl, rfl, rfl, fun Q' hQ => ?_⟩
    refine mc Q' (fun y => absurd (show 0 ≤ w ∧ w < 4 by omega) y) (fun _ _ y => by omega) (fun y v' hv' => ?_)
    have p74 : I 74 0 = I cu 11 := by
      rcases hp with x | x
      · omega
      · exact x.2.2.2.2.2
    have e2 : sk_sum (sk_eqc (I 67) 0) (I 66 0).toNat = sk_nw2 I cu 0 := by
      unfold sk_nw2
      rw [p66]
      obtain ⟨n, hn⟩ := Int.eq_ofNat_of_zero_le p10.1
      rw [hn, Int.toNat_natCast]
      refine sk_sum_cg n (fun i a b => ?_)
      unfold sk_eqc
      rw [(p3 i a (by omega)).2]
    have e : v' = v := by
      rw [e2, p63, p66, p74] at hv'
      omega
    rw [e]
    exact hQ I h
theorem sr_stepc (h : sr_R cu sp I L) (s w : Int) (hs : sk_in s) (hw : sk_in w) : AW l E 100 0 0 mX9_step 0 [some (vr 0), some (vi s), some (vi w)] [] sk_G (I, L, sk_J cu sp io rp tp fp) (sr_P l E mX10_step_ [some (vr 59), some (vi s), some (vi w)]) := by
  have hc := (sr_pg h.1).1
  have hm := h.2.1
  have hp := h.2.2.2.2.2.1
  obtain ⟨⟨p9, p10⟩, p3, ⟨p63, p66⟩, ph⟩ := sr_pf hp
  have mc := fun Q' => c_M_step (l := l) (E := E) (d := 99) (I := I) (L := L) (cu := cu) (sp := sp) (io := io) (rp := rp) (tp := tp) (fp := fp) (Q := Q') s w hs hw hm.1 (by omega) (fun _ => by rw [p66]; exact p10)
  refine c_K_step (d := 99) s w hs hw hc p9 p10 (fun z => ?_) (fun z1 z2 => ?_) (fun z z1 z2 v hv => ?_)
  · refine ⟨_, I, L, cu, sp, io, rp, tp, fp, rfl, rfl, rfl, fun Q' hQ => ?_⟩
    exact mc Q' (fun _ => hQ I h) (fun a b => by omega) (fun a => by omega)
  · refine ⟨_, I, L, cu, sp, io, rp, tp, fp, rfl, rfl, rfl, fun Q' hQ => ?_⟩
    exact mc Q' (fun y => by omega) (fun _ _ => hQ I h) (fun y x1 x2 v hv => absurd (show 0 ≤ s ∧ s < I cu 10 ∧ 0 ≤ w ∧ w < 4 by omega) z2)
  · refine ⟨_, I, L, cu, sp, io, rp, tp, fp, rfl, rfl, rfl, fun Q' hQ => ?_⟩
    refine mc Q' (fun y => by omega) (fun _ y => absurd (show 0 ≤ s ∧ s < I 66 0 ∧ 0 ≤ w ∧ w < 4 by omega) y) (fun y x1 x2 v' hv' => ?_)
    have e : v' = v := by
      rcases hp with x | x
      · omega
      · obtain ⟨r1, r2, r3, r4, -⟩ := x.2.2.1.2 s z1 z2
        rw [r1, r2, r3, r4] at hv'
        omega
    rw [e]
    exact hQ I h
theorem sr_walkedc (h : sr_R cu sp I L) (s w : Int) (hs : sk_in s) (hw : sk_in w) : AW l E 100 0 0 mX9_walked 0 [some (vr 0), some (vi s), some (vi w)] [] sk_G (I, L, sk_J cu sp io rp tp fp) (sr_P l E mX10_walked [some (vr 59), some (vi s), some (vi w)]) := by
  have hc := (sr_pg h.1).1
  have hm := h.2.1
  have hk := h.2.2.2.2.2.2.2.2
  have hk1 : I 48 15 = I 59 59 := hk.1
  obtain ⟨⟨p9, p10⟩, p3, ⟨p63, p66⟩, ph⟩ := sr_pf h.2.2.2.2.2.1
  have mc := fun Q' => c_M_walked (l := l) (E := E) (d := 99) (I := I) (L := L) (cu := cu) (sp := sp) (io := io) (rp := rp) (tp := tp) (fp := fp) (Q := Q') s w hs hw hm.1 (by rw [p66]; exact p10) (by rw [← hk.1]; exact hk.2.1) (fun z => by
    obtain ⟨TT, TM, -, x, -⟩ := (hk.2.2 (by rw [hk.1]; exact z)).2
    exact x.2.2)
  refine c_K_walked (d := 99) s w hs hw hc p10 hk.2.1 (fun z => ?_) (fun z1 z2 => ?_) (fun z z1 z2 v hv => ?_)
  · refine ⟨_, I, L, cu, sp, io, rp, tp, fp, rfl, rfl, rfl, fun Q' hQ => ?_⟩
    exact mc Q' (fun _ => hQ I h) (fun a b => by omega) (fun a => by omega)
  · refine ⟨_, I, L, cu, sp, io, rp, tp, fp, rfl, rfl, rfl, fun Q' hQ => ?_⟩
    exact mc Q' (fun y => by omega) (fun _ _ => hQ I h) (fun y x1 x2 v hv => absurd (show 0 ≤ w ∧ w < 2 ∧ 0 ≤ s ∧ s < I cu 10 by omega) z2)
  · refine ⟨_, I, L, cu, sp, io, rp, tp, fp, rfl, rfl, rfl, fun Q' hQ => ?_⟩
    refine mc Q' (fun y => by omega) (fun _ y => absurd (show 0 ≤ w ∧ w < 2 ∧ 0 ≤ s ∧ s < I 66 0 by omega) y) (fun y x1 x2 v' hv' => ?_)
    obtain ⟨e1, e2⟩ := sh_walked (hk.2.2 z).2 (s := s) ⟨z1, by omega⟩
    have e : v' = v := by omega
    rw [e]
    exact hQ I h
theorem sr_toldc (h : sr_R cu sp I L) (w : Int) (hw : sk_in w) : AW l E 100 0 0 mX9_told 0 [some (vr 0), some (vi w)] [] sk_G (I, L, sk_J cu sp io rp tp fp) (sr_P l E mX10_told [some (vr 59), some (vi w), none, none, none, none]) := by
  have hc := (sr_pg h.1).1
  have hm := h.2.1
  have hk := h.2.2.2.2.2.2.2.2
  have hk1 : I 48 15 = I 59 59 := hk.1
  obtain ⟨⟨p9, p10⟩, p3, ⟨p63, p66⟩, ph⟩ := sr_pf h.2.2.2.2.2.1
  have mc := fun Q' => c_M_told (l := l) (E := E) (d := 100) (I := I) (L := L) (cu := cu) (sp := sp) (io := io) (rp := rp) (tp := tp) (fp := fp) (Q := Q') w hw hm.1 (by rw [← hk.1]; exact hk.2.1)
  have facts : I 59 59 = 1 → sg_zo I ∧ (0 ≤ I 66 0 ∧ I 66 0 ≤ 200) ∧ (0 ≤ I 63 0 ∧ I 63 0 ≤ 20) ∧ (0 ≤ I 59 60 ∧ I 59 60 ≤ 300) ∧ ((I 93 0 = 0 ∨ I 93 0 = 1) ∧ (I 94 0 = 0 ∨ I 94 0 = 1) ∧ (I 95 0 = 0 ∨ I 95 0 = 1)) ∧ ∀ q, 0 ≤ q → q < I 59 60 → sk_in (I 91 q) := fun z => by
    obtain ⟨TT, TM, -, x, n1, -⟩ := (hk.2.2 (by rw [hk.1]; exact z)).2
    refine ⟨x.2.2, by rw [p66]; exact p10, by rw [p63]; exact p9, x.1.1, (x.1.2 0 (by omega) (by omega)).2.2.2.2, fun q a b => ?_⟩
    have := (x.1.2 q a b).1
    unfold sk_in
    omega
  refine c_K_told (d := 99) w hw hk.2.1 (fun z => ?_) (fun z => (sh_root (hk.2.2 z).2).1) (fun z i a b => by
    have := sh_55 (hk.2.2 z).2 (m := i) ⟨a, b⟩
    unfold sk_in
    omega) (fun z y => ?_) (fun z v hv => ?_)
  · refine ⟨_, I, L, cu, sp, io, rp, tp, fp, rfl, rfl, rfl, fun Q' hQ => ?_⟩
    exact mc Q' (fun _ => hQ I h) (fun a b => by omega) facts (fun a => by omega)
  · refine ⟨_, I, L, cu, sp, io, rp, tp, fp, rfl, rfl, rfl, fun Q' hQ => ?_⟩
    exact mc Q' (fun x => by omega) (fun _ _ => hQ I h) facts (fun x v hv => absurd (show 0 ≤ w ∧ w ≤ 4 by omega) y)
  · refine ⟨_, I, L, cu, sp, io, rp, tp, fp, rfl, rfl, rfl, fun Q' hQ => ?_⟩
    have K := (hk.2.2 z).2
    obtain ⟨-, r5, r2⟩ := sh_root K
    obtain ⟨s7, s8⟩ := sh_sums K p10
    have cm := sh_came K p9
    refine mc Q' (fun x => by omega) (fun _ x => absurd (show 0 ≤ w ∧ w ≤ 4 by omega) x) facts (fun x v' hv' => ?_)
    rw [← r5, ← r2, p66, p63, ← s7, ← s8, ← cm] at hv'
    have e : v' = v := by
      clear r5 r2 s7 s8 cm
      generalize (if sk_and (I 51 0) 5 = 0 then (0 : Int) else 1) = x0 at hv hv'
      generalize (if sk_and (I 51 0) 2 = 0 then (0 : Int) else 1) = x1 at hv hv'
      generalize sk_sum (I 57) 200 = x2 at hv hv'
      generalize sk_sum (I 58) 200 = x3 at hv hv'
      generalize sk_sum (sh_nz (I 55)) 20 = x4 at hv hv'
      omega
    rw [e]
    exact hQ I h
theorem sr_pairc (h : sr_R cu sp I L) (m k ki le : Int) (hmi : sk_in m) (hki : sk_in k) (hii : sk_in ki) (hli : sk_in le) : AW l E 100 0 0 mX9_pair 0 [some (vr 0), some (vi m), some (vi k), some (vi ki), some (vi le)] [] sk_G (I, L, sk_J cu sp io rp tp fp) (sr_P l E mX10_pair [some (vr 59), some (vi m), some (vi k), some (vi ki), some (vi le), none, none, none]) := by
  have hc := (sr_pg h.1).1
  have hm := h.2.1
  have hk := h.2.2.2.2.2.2.2.2
  have hk1 : I 48 15 = I 59 59 := hk.1
  obtain ⟨⟨p9, p10⟩, p3, ⟨p63, p66⟩, ph⟩ := sr_pf h.2.2.2.2.2.1
  by_cases z15 : I 48 15 = 1
  · have K := (hk.2.2 z15).2
    obtain ⟨TM, st, pr⟩ := sh_pair K p9.2
    have mc := fun Q' => c_M_pair (l := l) (E := E) (d := 99) (p := cu) (C := I) (TM := TM) (I := I) (L := L) (cu := cu) (sp := sp) (io := io) (rp := rp) (tp := tp) (fp := fp) (Q := Q') m k ki le hmi hki hii hli hm.1 (by rw [p63]; exact p9) (by rw [← hk.1]; exact hk.2.1)
    refine c_K_pair (d := 98) m k ki le hmi hki hii hli hc p9 hk.2.1 (fun z => by omega) (fun z1 z2 => ?_) (fun _ i a b => sh_55 K ⟨a, b⟩) (fun _ x1 x2 x3 => ((pr m k 0 0 ⟨x1.1, by omega⟩ x2 (by omega) (by omega)).1 x3).1) (fun z y => ?_)
    · refine ⟨_, I, L, cu, sp, io, rp, tp, fp, rfl, rfl, rfl, fun Q' hQ => ?_⟩
      exact mc Q' (fun a => by omega) (fun _ _ => hQ I h) (fun _ => ⟨st, p9.2⟩) (fun _ y => absurd (by rw [p63] at y; exact y) z2)
    · obtain ⟨q1, q2⟩ := pr m k ki le ⟨y.1.1, by omega⟩ y.2.1 y.2.2.1 y.2.2.2
      refine ⟨fun x => ?_, fun x => ?_⟩
      · refine ⟨_, I, L, cu, sp, io, rp, tp, fp, rfl, rfl, rfl, fun Q' hQ => ?_⟩
        refine mc Q' (fun a => by omega) (fun _ u => absurd (by rw [p63]; exact y) u) (fun _ => ⟨st, p9.2⟩) (fun _ _ => ⟨fun a a0 a1 a2 a3 => absurd ⟨a2, a3⟩ (q2 x a a0 a1), fun _ => hQ I h⟩)
      · obtain ⟨-, ⟨a, a0, a1, a2, a3⟩, q4⟩ := q1 x
        refine ⟨_, I, L, cu, sp, io, rp, tp, fp, rfl, rfl, rfl, fun Q' hQ => ?_⟩
        refine mc Q' (fun a => by omega) (fun _ u => absurd (by rw [p63]; exact y) u) (fun _ => ⟨st, p9.2⟩) (fun _ _ => ⟨fun b b0 b1 b2 b3 => ?_, fun u => absurd ⟨a2, a3⟩ (u a a0 a1)⟩)
        rw [q4 b b0 b1 b2 b3]
        exact hQ I h
  · have z0 : I 48 15 = 0 := hk.2.1.resolve_right z15
    refine c_K_pair (d := 98) m k ki le hmi hki hii hli hc p9 hk.2.1 (fun _ => ?_) (fun z => absurd z z15) (fun z => absurd z z15) (fun z => absurd z z15) (fun z => absurd z z15)
    refine ⟨_, I, L, cu, sp, io, rp, tp, fp, rfl, rfl, rfl, fun Q' hQ => ?_⟩
    exact c_M_pair (d := 99) (p := cu) (C := I) (TM := fun _ => sf_no) m k ki le hmi hki hii hli hm.1 (by rw [p63]; exact p9) (by rw [← hk.1]; exact hk.2.1) (fun _ => hQ I h) (fun y => by omega) (fun y => by omega) (fun y => by omega)
theorem sr_runc (h : sr_R cu sp I L) (m tu : Int) (hmi : sk_in m) (hti : sk_in tu) : AW l E 100 0 0 mX9_run 0 [some (vr 0), some (vi m), some (vi tu)] [] sk_G (I, L, sk_J cu sp io rp tp fp) (sr_P l E mX10_run [some (vr 59), some (vi m), some (vi tu), none]) := by
  have h' := h
  obtain ⟨h0, hm, ht, hru, hb, hp, hrn, hn, hk⟩ := h
  have hc := (sr_pg h0).1
  obtain ⟨⟨p9, p10⟩, p3, ⟨p63, p66⟩, ph⟩ := sr_pf hp
  have rpv : 0 < I cu 9 → ∃ D, sk_rp cu D I := fun z => by
    rcases hp with y | y
    · omega
    · obtain ⟨D, hD⟩ := y.2.1
      exact ⟨D, hD, hru.2, hb.2.2.1, hb.2.2.2, hn.2.1⟩
  by_cases z : 0 < I cu 9
  · obtain ⟨D, rpD⟩ := rpv z
    have h7 : I 59 7 = 1 := by omega
    have q1 := sr_q1 h' h7
    refine c_K_run (d := 93) (D := D) m tu I hc p9 hmi hti (fun y => by omega) (fun _ y => ?_) (fun _ => rpD) (fun _ y1 y2 => ?_)
    · refine ⟨_, I, L, cu, sp, io, rp, tp, fp, rfl, rfl, rfl, fun Q' hQ => ?_⟩
      exact c_M_run (d := 95) (D := D) hc I I m tu hm.1 hmi hti (by omega) (by rw [p63]; exact p9) (fun x => by omega) (fun _ _ => hQ I h') (fun _ => ⟨rpD, q1, p63⟩) (fun _ x1 x2 => absurd ⟨by rw [← p63]; exact x1, x2⟩ y)
    · obtain ⟨f1, f2⟩ := sr_rn (p := cu) m tu I
      have f5 := sr_rn5 hc rpD m tu y1 y2
      refine ⟨_, _, L, cu, sp, io, cu, cu, fp, rfl, rfl, rfl, fun Q' hQ => ?_⟩
      generalize hR : sk_rn cu m tu I = R at *
      have kK : ∀ c, ¬ (c = 5 ∨ c = 6 ∨ (34 ≤ c ∧ c ≤ 47)) → sk_uI R 44 6 (R 5 1) c = I c := fun c x => by
        rw [sk_uI_o (by omega)]
        exact f1 c x
      have k5 : sk_uI R 44 6 (R 5 1) 5 = R 5 := sk_uI_o (by decide)
      have k6 : sk_uI R 44 6 (R 5 1) 6 = R 6 := sk_uI_o (by decide)
      have k34 : sk_uI R 44 6 (R 5 1) 34 8 = 1 := by rw [sk_uI_o (by decide)]; exact f2
      have k44 : sk_uI R 44 6 (R 5 1) 44 = sk_up (R 44) 6 (R 5 1) := sk_uI_s
      generalize sk_uI R 44 6 (R 5 1) = K at *
      have k59 := kK 59 (by omega)
      have qK : sk_q1 cu I K := by
        unfold sk_q1
        rw [kK 64 (by omega), kK 65 (by omega), kK 67 (by omega), kK 68 (by omega), kK 69 (by omega), kK 70 (by omega), kK 71 (by omega), kK 72 (by omega), kK 73 (by omega), kK 61 (by omega), kK 62 (by omega), k59]
        exact q1
      refine c_M_run (d := 95) (D := D) hc I K m tu (by rw [k59]; exact hm.1) hmi hti (by rw [k59]; omega) (by rw [kK 63 (by omega), p63]; exact p9) (fun x => by rw [k59] at x; omega) (fun _ x => absurd ⟨by rw [kK 63 (by omega), p63]; exact y1, y2⟩ x) (fun _ => ⟨rpD, qK, by rw [kK 63 (by omega)]; exact p63⟩) (fun _ _ _ I2 rr rf => ?_)
      rw [hR] at rr ⊢
      obtain ⟨rm, -, r54⟩ := rr
      obtain ⟨-, -, -, -, -, -, ⟨⟨r48, r49, r51, r52, r53, r55, r56⟩, r58, r90⟩⟩ := rm
      obtain ⟨rf1, rf2⟩ := rf
      have cN : ∀ c, c ≠ 59 → ¬ (77 ≤ c ∧ c ≤ 90) → I2 c = K c := fun c a b => by rw [rf1 c a b, sk_uI_o a]
      have jN : ∀ j, ¬ (29 ≤ j ∧ j ≤ 58) → I2 59 j = I 59 j := fun j a => by rw [rf2 j (by omega), sk_uI_s, sk_up_o (by omega), k59]
      have j50 : I2 59 50 = 1 := by rw [rf2 50 (by omega), sk_uI_s, sk_up_s]
      have cI : ∀ c, c ≠ 59 → ¬ (77 ≤ c ∧ c ≤ 90) → ¬ (c = 5 ∨ c = 6 ∨ (34 ≤ c ∧ c ≤ 47)) → I2 c = I c := fun c a b x => by rw [cN c a b, kK c x]
      refine hQ I2 ⟨h0, sr_misc_cg hm (jN 0 (by omega)) (jN 25 (by omega)) (by rw [cI 29 (by omega) (by omega) (by omega)]) (jN 6 (by omega)), sr_tape_cg ht (by rw [cI 1 (by omega) (by omega) (by omega)]) (cI 2 (by omega) (by omega) (by omega)) (cI 60 (by omega) (by omega) (by omega)) (jN 2 (by omega)), sr_rule_cg hru (cI 8 (by omega) (by omega) (by omega)) (cI 61 (by omega) (by omega) (by omega)), sr_bits_cg hb (by rw [cI 3 (by omega) (by omega) (by omega)]) (cI 4 (by omega) (by omega) (by omega)) (cI 62 (by omega) (by omega) (by omega)) (jN 5 (by omega)), sr_prog_cg hc hp (fun c x => by rcases hc with rfl | rfl <;> exact cI c (by omega) (by omega) (by omega)) (fun c x => cI c (by omega) (by omega) (by omega)) (jN 7 (by omega)), ⟨?_, ?_, fun _ => ?_⟩, ⟨?_, ?_, ?_⟩, sr_kept_cg hk (by rcases hc with rfl | rfl <;> exact cI _ (by omega) (by omega) (by omega)) (fun c x => cI c (by omega) (by omega) (by omega)) (fun c x => cI c (by omega) (by omega) (by omega)) (jN 7 (by omega)) (jN 59 (by omega)) (jN 60 (by omega)) rfl⟩
      · rw [cN 34 (by omega) (by omega), k34, j50]
      · rw [cN 34 (by omega) (by omega), k34]; exact Or.inr rfl
      · rw [cN 44 (by omega) (by omega), k44, sk_up_o (by decide), sk_up_o (by decide), sk_up_o (by decide), sk_up_o (by decide), sk_up_o (by decide), sk_up_o (by decide), sk_up_s, sk_up_o (by decide)]
        exact ⟨r51, r48, r52, r53, r54, r55, r58, r56⟩
      · rw [cN 5 (by omega) (by omega), k5]; exact r58
      · rw [cN 5 (by omega) (by omega), k5]; exact f5
      · rw [cN 5 (by omega) (by omega), cN 6 (by omega) (by omega), k5, k6]; exact r90
  · refine c_K_run (d := 93) (D := fun _ => 0) m tu I hc p9 hmi hti (fun _ => ?_) (fun y => absurd y z) (fun y => absurd y z) (fun y => absurd y z)
    refine ⟨_, I, L, cu, sp, io, rp, tp, fp, rfl, rfl, rfl, fun Q' hQ => ?_⟩
    exact c_M_run (d := 95) (D := fun _ => 0) hc I I m tu hm.1 hmi hti (by omega) (by rw [p63]; exact p9) (fun _ => hQ I h') (fun y => by omega) (fun y => by omega) (fun y => by omega)
theorem sr_aheadc (h : sr_R cu sp I L) (m : Int) (hmi : sk_in m) : AW l E 100 0 0 mX9_ahead 0 [some (vr 0), some (vi m)] [] sk_G (I, L, sk_J cu sp io rp tp fp) (sr_P l E mX10_ahead [some (vr 59), some (vi m), none, none, none, none, none, none]) := by
  have h' := h
  obtain ⟨h0, hm, ht, hru, hb, hp, hrn, hn, hk⟩ := h
  have hc := (sr_pg h0).1
  obtain ⟨⟨p9, p10⟩, p3, ⟨p63, p66⟩, ph⟩ := sr_pf hp
  by_cases z : 0 < I cu 9
  · have h7 : I 59 7 = 1 := by omega
    have q1 := sr_q1 h' h7
    obtain ⟨D, hD⟩ : ∃ D, sk_pv cu D I := by
      rcases hp with y | y
      · omega
      · exact y.2.1
    -- the model behind the class, at a state that differs in Foresight's cells alone
    have mod : ∀ (S : sk_SI) (L' : sk_SL) (ff : Nat) (Q' : Option sk_V → List sk_Sh → sk_St → Prop), (∀ c, ¬ (48 ≤ c ∧ c ≤ 58) → S c = I c) → (¬ (∀ s, 0 ≤ s → s < I cu 10 → I (cu + 3) s ≠ 4 ∧ I (cu + 3) s ≠ 5 ∧ I (cu + 3) s ≠ 6) → Q' (some (vi (-4))) sk_G (S, L', sk_J cu sp io rp tp ff)) → ((∀ s, 0 ≤ s → s < I cu 10 → I (cu + 3) s ≠ 4 ∧ I (cu + 3) s ≠ 5 ∧ I (cu + 3) s ≠ 6) → ¬ (0 ≤ m ∧ m < I cu 9) → Q' (some (vi (-3))) sk_G (S, L', sk_J cu sp io rp tp ff)) → ((∀ s, 0 ≤ s → s < I cu 10 → I (cu + 3) s ≠ 4 ∧ I (cu + 3) s ≠ 5 ∧ I (cu + 3) s ≠ 6) → 0 ≤ m ∧ m < I cu 9 → ∀ I' TT', sg_jv cu I m (sk_cT cu I m sf_no) (sk_uI S 59 59 0) I' TT' → I' 59 70 = 1 → Q' (some (vi (-6))) sk_G (I', L', sk_J cu sp io rp tp ff)) → ((∀ s, 0 ≤ s → s < I cu 10 → I (cu + 3) s ≠ 4 ∧ I (cu + 3) s ≠ 5 ∧ I (cu + 3) s ≠ 6) → 0 ≤ m ∧ m < I cu 9 → ∀ I' TT', sg_jv cu I m (sk_cT cu I m sf_no) (sk_uI S 59 59 0) I' TT' → I' 59 70 = 0 → (∀ q, 0 ≤ q → q < I' 59 60 → sg_cl cu I I' TT' q) → Q' (some (vi (I' 59 60))) sk_G (sk_uI I' 59 59 1, L', sk_J cu sp io rp tp ff)) → AW l E 100 0 0 mX10_ahead 0 [some (vr 59), some (vi m), none, none, none, none, none, none] [] sk_G (S, L', sk_J cu sp io rp tp ff) Q' := by
      intro S L' ff Q' hS x1 x2 x3 x4
      have e59 := hS 59 (by omega)
      have qS : sk_q1 cu I S := by
        unfold sk_q1
        rw [hS 64 (by omega), hS 65 (by omega), hS 67 (by omega), hS 68 (by omega), hS 69 (by omega), hS 70 (by omega), hS 71 (by omega), hS 72 (by omega), hS 73 (by omega), hS 61 (by omega), hS 62 (by omega), e59]
        exact q1
      exact c_M_ahead (d := 59) (D := D) hD hru.2 S (by rw [e59]; exact hm.1) qS (by rw [hS 63 (by omega)]; exact p63) (by rw [hS 66 (by omega)]; exact p66) (by rw [e59]; exact h7) m hmi x1 x2 x3 x4
    -- what a state is like that both leave
    have fin : ∀ (N : sk_SI) (L' : sk_SL), (∀ c, ¬ (48 ≤ c ∧ c ≤ 58) → c ≠ 59 → ¬ (91 ≤ c ∧ c ≤ 99) → N c = I c) → (∀ j, ¬ (59 ≤ j) → N 59 j = I 59 j) → sr_kept cu N L' → sr_R cu sp N L' := fun N L' cN jN kN => ⟨h0, sr_misc_cg hm (jN 0 (by omega)) (jN 25 (by omega)) (by rw [cN 29 (by omega) (by omega) (by omega)]) (jN 6 (by omega)), sr_tape_cg ht (by rw [cN 1 (by omega) (by omega) (by omega)]) (cN 2 (by omega) (by omega) (by omega)) (cN 60 (by omega) (by omega) (by omega)) (jN 2 (by omega)), sr_rule_cg hru (cN 8 (by omega) (by omega) (by omega)) (cN 61 (by omega) (by omega) (by omega)), sr_bits_cg hb (by rw [cN 3 (by omega) (by omega) (by omega)]) (cN 4 (by omega) (by omega) (by omega)) (cN 62 (by omega) (by omega) (by omega)) (jN 5 (by omega)), sr_prog_cg hc hp (fun c x => by rcases hc with rfl | rfl <;> exact cN c (by omega) (by omega) (by omega)) (fun c x => cN c (by omega) (by omega) (by omega)) (jN 7 (by omega)), sr_run_cg hrn (by rw [cN 34 (by omega) (by omega) (by omega)]) (cN 44 (by omega) (by omega) (by omega)) (fun j x => jN j (by omega)), sr_note_cg hn (by rw [cN 5 (by omega) (by omega) (by omega)]) (cN 6 (by omega) (by omega) (by omega)) (cN 90 (by omega) (by omega) (by omega)) (jN 58 (by omega)), kN⟩
    refine c_K_ahead (d := 37) (D := D) hc p9 m hmi (fun y => by omega) (fun _ => ⟨hD, hru.2⟩) (fun _ y => ?_) (fun _ y1 y2 => ?_) (fun _ y1 y2 I' L' TT' j1 j2 => ?_) (fun _ y1 y2 I' L' TT' j1 j2 j3 => ?_)
    · refine ⟨_, I, L, cu, sp, io, rp, tp, fp, rfl, rfl, rfl, fun Q' hQ => ?_⟩
      exact mod I L fp Q' (fun _ _ => rfl) (fun _ => hQ I h') (fun x => absurd x y) (fun x => absurd x y) (fun x => absurd x y)
    · refine ⟨_, I, L, cu, sp, io, rp, tp, fp, rfl, rfl, rfl, fun Q' hQ => ?_⟩
      exact mod I L fp Q' (fun _ _ => rfl) (fun x => absurd y1 x) (fun _ _ => hQ I h') (fun _ x => absurd x y2) (fun _ x => absurd x y2)
    · have fr := j1.1
      have tm := j1.2.2.2.2.2 j2
      refine ⟨_, _, L', cu, sp, io, rp, tp, cu, rfl, rfl, rfl, fun Q' hQ => ?_⟩
      have hS : ∀ c, ¬ (48 ≤ c ∧ c ≤ 58) → sk_uI I' 48 15 0 c = I c := fun c x => by
        rw [sk_uI_o (by omega)]
        exact fr c (by omega) (by omega) (by omega) (by omega) (by omega) (by omega) (by omega) (by omega)
      have s15 : sk_uI I' 48 15 0 48 15 = 0 := by rw [sk_uI_s, sk_up_s]
      generalize sk_uI I' 48 15 0 = S at *
      refine mod S L' cu Q' hS (fun x => absurd y1 x) (fun _ x => absurd y2 x) (fun _ _ I2 T2 g1 g2 => ?_) (fun _ _ I2 T2 g1 g2 g3 => (sh_tm_m tm g1 g3).elim)
      have gf := g1.1
      have cS : ∀ c, c ≠ 59 → ¬ (91 ≤ c ∧ c ≤ 99) → I2 c = S c := fun c a b => by rw [gf.1 c a b, sk_uI_o a]
      have e15 : I2 48 15 = 0 := by rw [cS 48 (by omega) (by omega)]; exact s15
      have e59 : I2 59 59 = 0 := by rw [gf.2 59 (by decide) (by decide) (by decide), sk_uI_s, sk_up_s]
      refine hQ I2 (fin I2 L' (fun c a b x => by rw [cS c b x]; exact hS c a) (fun j a => by rw [gf.2 j (by omega) (by omega) (by omega), sk_uI_s, sk_up_o (by omega), hS 59 (by omega)]) ⟨by rw [e15, e59], Or.inl e15, fun x => by omega⟩)
    · have fr := j1.1
      refine ⟨_, _, L', cu, sp, io, rp, tp, cu, rfl, rfl, rfl, fun Q' hQ => ?_⟩
      have hS : ∀ c, ¬ (48 ≤ c ∧ c ≤ 58) → sk_uI I' 48 15 1 c = I c := fun c x => by
        rw [sk_uI_o (by omega)]
        exact fr c (by omega) (by omega) (by omega) (by omega) (by omega) (by omega) (by omega) (by omega)
      have s15 : sk_uI I' 48 15 1 48 15 = 1 := by rw [sk_uI_s, sk_up_s]
      have s12 : sk_uI I' 48 15 1 48 12 = I' 48 12 := by rw [sk_uI_s, sk_up_o (by decide)]
      have so : ∀ c, c ≠ 48 → sk_uI I' 48 15 1 c = I' c := fun c x => sk_uI_o x
      generalize sk_uI I' 48 15 1 = S at *
      refine mod S L' cu Q' hS (fun x => absurd y1 x) (fun _ x => absurd y2 x) (fun _ _ I2 T2 g1 g2 => (sh_tm_c (g1.2.2.2.2.2.2 g2) j1 j2 j3).elim) (fun _ _ I2 T2 g1 g2 g3 => ?_)
      have gf := g1.1
      have cS : ∀ c, c ≠ 59 → ¬ (91 ≤ c ∧ c ≤ 99) → sk_uI I2 59 59 1 c = S c := fun c a b => by rw [sk_uI_o a, gf.1 c a b, sk_uI_o a]
      have cM : ∀ c, c ≠ 59 → sk_uI I2 59 59 1 c = I2 c := fun c a => sk_uI_o a
      have e60 : sk_uI I2 59 59 1 59 60 = I2 59 60 := by rw [sk_uI_s, sk_up_o (by decide)]
      have e59 : sk_uI I2 59 59 1 59 59 = 1 := by rw [sk_uI_s, sk_up_s]
      have ej : ∀ j, ¬ (59 ≤ j) → sk_uI I2 59 59 1 59 j = I 59 j := fun j a => by rw [sk_uI_s, sk_up_o (by omega), gf.2 j (by omega) (by omega) (by omega), sk_uI_s, sk_up_o (by omega), hS 59 (by omega)]
      generalize sk_uI I2 59 59 1 = N at *
      have e15 : N 48 15 = 1 := by rw [cS 48 (by omega) (by omega)]; exact s15
      have pI : I' cu = I cu := fr cu (by rcases hc with rfl | rfl <;> omega) (by rcases hc with rfl | rfl <;> omega) (by rcases hc with rfl | rfl <;> omega) (by rcases hc with rfl | rfl <;> omega) (by rcases hc with rfl | rfl <;> omega) (by rcases hc with rfl | rfl <;> omega) (by rcases hc with rfl | rfl <;> omega) (by rcases hc with rfl | rfl <;> omega)
      have pN : N cu = I cu := by rcases hc with rfl | rfl <;> (rw [cS _ (by omega) (by omega)]; exact hS _ (by omega))
      have KK : sh_K cu N L' := sh_make j1 j2 j3 g1 g2 g3 pI pN (by rw [cS 48 (by omega) (by omega), s12]) (by rw [cS 49 (by omega) (by omega), so 49 (by omega)]) (by rw [cS 51 (by omega) (by omega), so 51 (by omega)]) (by rw [cS 52 (by omega) (by omega), so 52 (by omega)]) (by rw [cS 54 (by omega) (by omega), so 54 (by omega)]) (by rw [cS 55 (by omega) (by omega), so 55 (by omega)]) (by rw [cS 57 (by omega) (by omega), so 57 (by omega)]) (by rw [cS 58 (by omega) (by omega), so 58 (by omega)]) e60 (cM 91 (by omega)) (cM 92 (by omega)) (cM 93 (by omega)) (cM 94 (by omega)) (cM 95 (by omega)) (cM 98 (by omega)) (cM 99 (by omega))
      have en : I2 59 60 = I' 48 12 := by
        have := sh_n KK
        rw [cS 48 (by omega) (by omega), s12, e60] at this
        exact this.symm
      rw [en]
      refine hQ N (fin N L' (fun c a b x => by rw [cS c b x]; exact hS c a) ej ⟨by rw [e15, e59], Or.inr e15, fun _ => ⟨by rw [ej 7 (by omega)]; exact h7, KK⟩⟩)
  · have z0 : I cu 9 = 0 := by omega
    refine c_K_ahead (d := 37) (D := fun _ => 0) hc p9 m hmi (fun _ => ?_) (fun y => absurd y z) (fun y => absurd y z) (fun y => absurd y z) (fun y => absurd y z) (fun y => absurd y z)
    refine ⟨_, I, L, cu, sp, io, rp, tp, fp, rfl, rfl, rfl, fun Q' hQ => ?_⟩
    exact c_M_aheadN (d := 100) I hm.1 (by omega) m (hQ I h')
end SKK3
