/-! ===== Foresight.sweep ===== -/
section SKFg
variable {p : Nat} {C : sk_SI} {rm q dp v : Int} {rT : sk_Tb} {I I3 I5 : sk_SI} {L L1 L3 : sk_SL} {TT T3 : Int → sk_Tb} {Go : sk_Or} {W : Int → Prop} {V : Int → sk_Tb → Prop}
theorem sf_mu_step (hq : 0 ≤ q ∧ q < I 48 12) (hn : I 48 12 ≤ 300) (h52q : I 52 q = 1) (h52 : ∀ j, 0 ≤ j → j < I 48 12 → I 52 j = 0 ∨ I 52 j = 1) (hc : ∀ j, 0 ≤ j → j < I 48 12 → 0 ≤ I 51 j ∧ I 51 j ≤ 7) (h3 : sf_po p C rm rT Go q 0 (sk_uI (sk_uI I 52 q 0) 48 13 q) L TT W V v I3 L3 T3) (e48 : I5 48 12 = I3 48 12) (e51 : I5 51 = sk_up (I3 51) q (sk_or (I 51 q) v)) (e52 : sk_or (I 51 q) v = I 51 q → I5 52 = I3 52) (e52' : ∀ j, 0 ≤ j → j < I3 48 12 → I5 52 j = 0 ∨ I5 52 j = 1) : sf_mu I5 + 1 ≤ sf_mu I := by
  obtain ⟨i3, g3, r3, -⟩ := h3
  have n3 := i3.2.1.1.1
  have k12 : sk_uI (sk_uI I 52 q 0) 48 13 q 48 12 = I 48 12 := by rw [sk_uI_s, sk_up_o (by decide), sk_uI_o (by decide)]
  have k51 : sk_uI (sk_uI I 52 q 0) 48 13 q 51 = I 51 := by rw [sk_uI_o (by decide), sk_uI_o (by decide)]
  have k52 : sk_uI (sk_uI I 52 q 0) 48 13 q 52 = sk_up (I 52) q 0 := by rw [sk_uI_o (by decide), sk_uI_s]
  obtain ⟨g1, g2, g4, -⟩ := g3
  rw [k12] at g1 g2 g4
  obtain ⟨n, hn0⟩ := Int.eq_ofNat_of_zero_le (show 0 ≤ I 48 12 by omega)
  obtain ⟨k, hk⟩ := Int.eq_ofNat_of_zero_le (show 0 ≤ I3 48 12 - I 48 12 by omega)
  have hn3 : I3 48 12 = ((n + k : Nat) : Int) := by omega
  have a1 : sk_sum (I3 52) (n + k) = sk_sum (I3 52) n + 1 * k := sk_sum_ext k (fun i a b => (g4 i (by omega) (by omega)).2)
  have a2 : sk_sum (I3 52) n = sk_sum (sk_up (I 52) q 0) n := sk_sum_cg n (fun i a b => by
    have := (g2 i a (by omega)).2.2.2.1
    rw [this, k52])
  have a3 := sk_sum_up (f := I 52) (c := 0) hq.1 n (by omega)
  have b1 : sk_sum (fun j => sf_po3 (I3 51 j)) (n + k) = sk_sum (fun j => sf_po3 (I3 51 j)) n + 0 * k := sk_sum_ext k (fun i a b => by
    show sf_po3 (I3 51 i) = 0
    rw [(g4 i (by omega) (by omega)).1]
    decide)
  have b2 : sk_sum (fun j => sf_po3 (I3 51 j)) n = sk_sum (fun j => sf_po3 (I 51 j)) n := sk_sum_cg n (fun i a b => by
    show sf_po3 (I3 51 i) = sf_po3 (I 51 i)
    rw [(g2 i a (by omega)).2.2.1, k51])
  have q51 : I3 51 q = I 51 q := by rw [(g2 q hq.1 hq.2).2.2.1, k51]
  have b3 : (fun j => sf_po3 (I5 51 j)) = sk_up (fun j => sf_po3 (I3 51 j)) q (sf_po3 (sk_or (I 51 q) v)) := by
    funext j
    rw [e51]
    by_cases e : j = q
    · subst e; rw [sk_up_s, sk_up_s]
    · rw [sk_up_o e, sk_up_o e]
  have b4 := sk_sum_up (f := fun j => sf_po3 (I3 51 j)) (c := sf_po3 (sk_or (I 51 q) v)) hq.1 (n + k) (by omega)
  rw [q51] at b4
  have s52 := sk_sum_bd (f := I 52) (a := 0) (b := 1) n (fun i a b => by have := h52 i a (by omega); omega)
  have s5 := sk_sum_bd (f := I5 52) (a := 0) (b := 1) (n + k) (fun i a b => by have := e52' i a (by omega); omega)
  have s52q : 1 ≤ sk_sum (I 52) n := by
    have := sk_sum_bd (f := sk_up (I 52) q 0) (a := 0) (b := 1) n (fun i a b => by
      by_cases e : i = q
      · subst e; rw [sk_up_s]; omega
      · rw [sk_up_o e]; have := h52 i a (by omega); omega)
    omega
  have qc := hc q hq.1 hq.2
  unfold sf_mu
  rw [e48, hn3, Int.toNat_natCast, b3, b4, hn0, Int.toNat_natCast]
  by_cases ch : sk_or (I 51 q) v = I 51 q
  · rw [e52 ch, ch]
    omega
  · have := sf_po3_or qc r3 ch
    omega
theorem sf_jv_L (h : sf_jv p C rm rT I L TT) (e50 : L1 50 = L 50) (e53 : L1 53 = L 53) : sf_jv p C rm rT I L1 TT := by
  obtain ⟨h1, ⟨h2, h3⟩, h4, h5, h6, h7⟩ := h
  refine ⟨h1, ⟨sf_pr_L h2 e50, h3⟩, h4, h5, fun z => ⟨(h6 z).1, fun q a b c => ?_⟩, h7⟩
  obtain ⟨f1, f2⟩ := (h6 z).2 q a b c
  refine ⟨f1, fun t T' y => ?_⟩
  have := f2 t T' y
  unfold sf_vs sf_cb at this ⊢
  rw [e53]
  exact this
theorem sf_iv_start (hp : sk_pg p) (hJ : sf_jv p C rm rT I L TT) (h14 : I 48 14 = 0) (hq : 0 ≤ q ∧ q < I 48 12) : sf_iv p C rm rT (sf_G I TT) q (sk_uI (sk_uI I 52 q 0) 48 13 q) L TT ∧ sf_hx p C rm rT (sk_VB p C (sf_G I TT) 300 (TT q) (C (p + 2) (I 49 q))) := by
  obtain ⟨h1, ⟨h2, h3, h4, h5⟩, -, -, h6, -⟩ := hJ
  obtain ⟨h6, -⟩ := h6 h14
  have ep : sk_uI (sk_uI I 52 q 0) 48 13 q p = I p := by
    rw [sk_uI_o (by rcases hp with rfl | rfl <;> decide), sk_uI_o (by rcases hp with rfl | rfl <;> decide)]
  have k12 : sk_uI (sk_uI I 52 q 0) 48 13 q 48 12 = I 48 12 := by rw [sk_uI_s, sk_up_o (by decide), sk_uI_o (by decide)]
  have k13 : sk_uI (sk_uI I 52 q 0) 48 13 q 48 13 = q := by rw [sk_uI_s, sk_up_s]
  have k14 : sk_uI (sk_uI I 52 q 0) 48 13 q 48 14 = I 48 14 := by rw [sk_uI_s, sk_up_o (by decide), sk_uI_o (by decide)]
  have k49 : sk_uI (sk_uI I 52 q 0) 48 13 q 49 = I 49 := by rw [sk_uI_o (by decide), sk_uI_o (by decide)]
  have k51 : sk_uI (sk_uI I 52 q 0) 48 13 q 51 = I 51 := by rw [sk_uI_o (by decide), sk_uI_o (by decide)]
  have k52 : sk_uI (sk_uI I 52 q 0) 48 13 q 52 = sk_up (I 52) q 0 := by rw [sk_uI_o (by decide), sk_uI_s]
  have k54 : sk_uI (sk_uI I 52 q 0) 48 13 q 54 = I 54 := by rw [sk_uI_o (by decide), sk_uI_o (by decide)]
  have k55 : sk_uI (sk_uI I 52 q 0) 48 13 q 55 = I 55 := by rw [sk_uI_o (by decide), sk_uI_o (by decide)]
  have k57 : sk_uI (sk_uI I 52 q 0) 48 13 q 57 = I 57 := by rw [sk_uI_o (by decide), sk_uI_o (by decide)]
  have k58 : sk_uI (sk_uI I 52 q 0) 48 13 q 58 = I 58 := by rw [sk_uI_o (by decide), sk_uI_o (by decide)]
  refine ⟨⟨fun c a b c' d f g h i => by rw [sk_uI_o a, sk_uI_o d]; exact h1 c a b c' d f g h i, ⟨⟨by rw [k12]; exact h2.1, ?_⟩, ?_, ?_, ?_⟩, ⟨k13, hq.1, by rw [k12]; exact hq.2⟩, Or.inl (by rw [k14]; exact h14), fun _ => ⟨?_, ?_⟩, fun z => by rw [k14] at z; omega⟩, fun A G P O hc t T' y => ?_⟩
  · rw [k12, k49, k51, k52, ep]
    intro j a b
    obtain ⟨a1, a2, a3, a4, a5, a6⟩ := h2.2 j a b
    refine ⟨a1, a2, a3, a4, a5, ?_⟩
    by_cases e : j = q
    · subst e; rw [sk_up_s]; exact Or.inl rfl
    · rw [sk_up_o e]; exact a6
  · unfold sf_od; rw [k12, k49, k54]; exact h3
  · unfold sf_ct; rw [k12, k49, k55]; exact h4
  · unfold sf_zo; rw [k57, k58]; exact h5
  · unfold sf_go; rw [k12, k49, k51]; exact fun _ _ _ => Iff.rfl
  · intro A G P O hc
    unfold sf_in
    rw [k12, k49, k51, k57, k58]
    exact h6 A G P O hc
  · have hin := h6 A G P O hc
    have up : ∀ m T x, sf_G I TT m T x → G m T x := fun m T x hg => by
      obtain ⟨i, i0, i1, i2, i3, i4⟩ := hg
      have := (hin.1 i i0 i1).2 x i4
      rw [i2, i3] at this
      exact this
    exact (hc.2 _ _ (hin.1 q hq.1 hq.2).1).2 t T' (sk_VB_mono (p := p) (C := C) up 300 _ _ _ _ y)
end SKFg
section SKFh
variable {l : Launch} {E : sk_En} {d : Nat} {cu sp io rp tp p : Nat} {Q : Option sk_V → List sk_Sh → sk_St → Prop} {C : sk_SI} {D : Int → Int} {rm : Int} {rT : sk_Tb}
theorem c_F_sweep (hp : sk_pg p) (hv : sk_pv p D C) (hr : sk_ru C) (I0 : sk_SI) (L0 : sk_SL) (T0 : Int → sk_Tb) (hJ0 : sf_jv p C rm rT I0 L0 T0) (hq : ∀ r I' L' TT', (r = 0 ∨ r = 1) → sf_jv p C rm rT I' L' TT' → (r = 1 → sf_mu I' + 1 ≤ sf_mu I0 ∧ I' 48 14 = 0) → (r = 0 → I' 48 14 = 1 ∨ ∀ q, 0 ≤ q → q < I' 48 12 → I' 52 q = 0) → Q (some (vi r)) sk_G (I', L', sk_J cu sp io rp tp p)) : AW l E (d + 61) 0 0 mX0_sweep 0 [some (vr 48), none, none, none] [] sk_G (I0, L0, sk_J cu sp io rp tp p) Q := by
  have fin : ∀ (ls : List (Option sk_V)) (any : Int) (q : Int) (I : sk_SI) (L : sk_SL) (TT : Int → sk_Tb), ls = [some (vr 48), some (vi any), none, none] → (any = 0 ∨ any = 1) → sf_jv p C rm rT I L TT → (any = 1 → sf_mu I + 1 ≤ sf_mu I0) → (I 48 14 = 0 → any = 0 → ∀ j, 0 ≤ j → j < I 48 12 → I 52 j = 0) → AW l E (d + 61) 0 0 mX0_sweep 116 ls [] sk_G (I, L, sk_J cu sp io rp tp p) Q := by
    intro ls any q I L TT hls ha hJ hm h0
    subst hls
    have h14 := hJ.2.2.2.1
    refine AW_run 80 rfl ?_
    refine AW_ifeq rfl (fun g => ?_) (fun g => ?_) (by unfold sk_in; omega)
    · have hq := hq 0 I L TT (Or.inl rfl) hJ (fun z => by omega) (fun _ => by
        rcases h14 with z | z
        · exact Or.inr (h0 z g)
        · exact Or.inl z)
      refine AW_run 80 rfl ?_
      exact AW_zret rfl rfl (Or.inl rfl) hq
    · refine AW_run 80 rfl ?_
      refine AW_ifne rfl (fun g2 => ?_) (fun g2 => ?_) (by unfold sk_in; omega)
      · have hq := hq 0 I L TT (Or.inl rfl) hJ (fun z => by omega) (fun _ => Or.inl (by omega))
        refine AW_run 80 rfl ?_
        exact AW_zret rfl rfl (Or.inl rfl) hq
      · have hq := hq 1 I L TT (Or.inr rfl) hJ (fun _ => ⟨hm (by omega), g2⟩) (fun z => by omega)
        refine AW_run 80 rfl ?_
        exact AW_zret rfl rfl (Or.inr rfl) hq
  have lp : ∀ (m : Nat) (q any : Int) (I : sk_SI) (L : sk_SL) (TT : Int → sk_Tb), q + 1 = m → (any = 0 ∨ any = 1) → sf_jv p C rm rT I L TT → q < I 48 12 → sf_mu I + any ≤ sf_mu I0 → (any = 0 → ∀ j, q < j → j < I 48 12 → I 52 j = 0) → AW l E (d + 61) 0 0 mX0_sweep 10 [some (vr 48), some (vi any), some (vi q), none] [vi q] sk_G (I, L, sk_J cu sp io rp tp p) Q := by
    intro m
    induction m with
    | zero =>
      intro q any I L TT hm ha hJ hqn hmu h0
      have fin := fun ls hls => fin ls any q I L TT hls ha hJ (fun z => by omega) (fun _ z j j0 j1 => h0 z j (by omega) j1)
      refine AW_iflt rfl (fun g => ?_) (fun g => by omega) (by unfold sk_in; omega)
      exact AW_lk (fin _ rfl) ⟨rfl, rfl, trivial⟩
    | succ m ih =>
      intro q any I L TT hm ha hJ hqn hmu h0
      have hn := hJ.2.1.1.1
      have h14 := hJ.2.2.2.1
      have hq0 : 0 ≤ q ∧ q < 300 := by omega
      obtain ⟨p1, p2, p3, p4, p5, p6⟩ := hJ.2.1.1.2 q hq0.1 hqn
      refine AW_iflt rfl (fun g => by omega) (fun g => ?_) (by unfold sk_in; omega)
      refine AW_run 80 rfl ?_
      refine AW_ifne rfl (fun g2 => ?_) (fun g2 => ?_) (by unfold sk_in; omega)
      · have fin := fun ls hls => fin ls any q I L TT hls ha hJ (fun z => by omega) (fun z => absurd z g2)
        exact AW_lk (fin _ rfl) ⟨rfl, rfl, trivial⟩
      · refine AW_run 80 rfl ?_
        refine AW_zald rfl rfl ⟨by omega, by omega⟩ (by decide) ?_
        refine AW_ifeq rfl (fun g3 => ?_) (fun g3 => ?_) (by unfold sk_in; omega)
        · have nx := ih (q - 1) any I L TT (by omega) ha hJ (by omega) hmu (fun z j j0 j1 => by
            by_cases e : j = q
            · subst e; exact g3
            · exact h0 z j (by omega) j1)
          refine AW_run 80 rfl ?_
          exact nx
        · clear h0
          have h52q : I 52 q = 1 := by omega
          have o0 : (0 : Int) = 0 ∨ (0 : Int) = 1 := Or.inl rfl
          have nx : ∀ I5 L3 T3, sf_jv p C rm rT I5 L3 T3 → I 48 12 ≤ I5 48 12 → sf_mu I5 + 1 ≤ sf_mu I → AW l E (d + 61) 0 0 mX0_sweep 10 [some (vr 48), some (vi 1), some (vi (q - 1)), none] [vi (q - 1)] sk_G (I5, L3, sk_J cu sp io rp tp p) Q := fun I5 L3 T3 z1 z2 z3 => ih (q - 1) 1 I5 L3 T3 (by omega) (Or.inr rfl) z1 (by omega) (by omega) (fun z => by omega)
          clear ih fin
          have e50 : sk_cL L 56 (sk_cp (L 50) (L 56) (q * 8) 0 8) 50 = L 50 := rfl
          have e53 : sk_cL L 56 (sk_cp (L 50) (L 56) (q * 8) 0 8) 53 = L 53 := rfl
          have e56 : sk_ht (sk_cL L 56 (sk_cp (L 50) (L 56) (q * 8) 0 8) 56) (0 * 8) (TT q) := fun k k0 k1 => by
            unfold sk_cL sk_cp
            rw [if_pos rfl]
            rw [if_pos (by omega), show q * 8 + (0 * 8 + k - 0) = q * 8 + k by omega]
            exact p4 k k0 k1
          have hJ1 := sf_jv_L hJ e50 e53
          generalize hL1 : sk_cL L 56 (sk_cp (L 50) (L 56) (q * 8) 0 8) = L1 at *
          obtain ⟨iv, hx⟩ := sf_iv_start hp hJ1 g2 ⟨hq0.1, hqn⟩
          have ms := hv.2.2.2.1 (I 49 q) p1.1 (by have := sf_fr_p hp hJ.1 0 (by omega); rw [show I p = C p from this] at p1; exact p1.2)
          have v10 := hv.2.1
          have e0 : I p = C p := sf_fr_p hp hJ.1 0 (by omega)
          have wb := fun Q' h => sf_block (l := l) (E := E) (cu := cu) (sp := sp) (io := io) (rp := rp) (tp := tp) (Go := sf_G I TT) (wk := q) hp hv hr 300 (d + 60) (TT q) (C (p + 2) (I 49 q)) 0 _ L1 TT Q' (by omega) (by omega) p2 e56 (by omega) (by unfold sk_fue; omega) iv (fun _ => hx) h
          have f2 : I (p + 2) (I 49 q) = C (p + 2) (I 49 q) := by rw [sf_fr_p hp hJ.1 2 (by omega)]
          have two : ∀ v I3 L3 T3, sf_po p C rm rT (sf_G I TT) q 0 (sk_uI (sk_uI I 52 q 0) 48 13 q) L1 TT (sk_WB p C (sf_G I TT) 300 (TT q) (C (p + 2) (I 49 q))) (sk_VB p C (sf_G I TT) 300 (TT q) (C (p + 2) (I 49 q))) v I3 L3 T3 → AW l E (d + 61) 0 0 mX0_sweep 93 [some (vr 48), some (vi 1), some (vi q), some (vi (I 51 q))] [vi v, vi (I 51 q), vi q, vr 51] sk_G (I3, L3, sk_J cu sp io rp tp p) Q := by
            intro v I3 L3 T3 h3
            have n3 := h3.1.2.1.1.1
            have g1 := h3.2.1.1
            have k12 : sk_uI (sk_uI I 52 q 0) 48 13 q 48 12 = I 48 12 := by rw [sk_uI_s, sk_up_o (by decide), sk_uI_o (by decide)]
            rw [k12] at g1
            have s3 : ∀ j, 0 ≤ j → j < I3 48 12 → I3 52 j = 0 ∨ I3 52 j = 1 := fun j a b => (h3.1.2.1.1.2 j a b).2.2.2.2.2
            have s1 : ∀ j, 0 ≤ j → j < I 48 12 → I 52 j = 0 ∨ I 52 j = 1 := fun j a b => (hJ.2.1.1.2 j a b).2.2.2.2.2
            have c1 : ∀ j, 0 ≤ j → j < I 48 12 → 0 ≤ I 51 j ∧ I 51 j ≤ 7 := fun j a b => (hJ.2.1.1.2 j a b).2.2.2.2.1
            have or7 := (sf_or_b p5 h3.2.2.1).1
            have same : sk_or (I 51 q) v = I 51 q → AW l E (d + 61) 0 0 mX0_sweep 10 [some (vr 48), some (vi 1), some (vi (q - 1)), none] [vi (q - 1)] sk_G (sk_uI I3 51 q (sk_or (I 51 q) v), L3, sk_J cu sp io rp tp p) Q := by
              intro e
              refine nx _ L3 T3 (sf_jv_step hp ⟨hq0.1, hqn⟩ hJ1 g2 h3 (fun c a b => sk_uI_o a) (by rw [sk_uI_s]) (fun j _ _ => Or.inl (by rw [sk_uI_o (by decide)])) (fun z => absurd e z)) (by rw [sk_uI_o (by decide)]; exact g1) (sf_mu_step ⟨hq0.1, hqn⟩ hn.2 h52q s1 c1 h3 (by rw [sk_uI_o (by decide)]) (by rw [sk_uI_s]) (fun _ => by rw [sk_uI_o (by decide)]) (fun j a b => by rw [sk_uI_o (by decide)]; exact s3 j a b))
            have diff : sk_or (I 51 q) v ≠ I 51 q → ∀ I5, sf_ms L3 q (I3 48 12) (I3 48 12) (sk_uI I3 51 q (sk_or (I 51 q) v)) I5 → AW l E (d + 61) 0 0 mX0_sweep 10 [some (vr 48), some (vi 1), some (vi (q - 1)), none] [vi (q - 1)] sk_G (I5, L3, sk_J cu sp io rp tp p) Q := by
              intro e I5 hms
              have m52 : ∀ j, 0 ≤ j → j < I3 48 12 → (sf_cb L3 q j → I5 52 j = 1) ∧ (¬ sf_cb L3 q j → I5 52 j = I3 52 j) := fun j a b => by
                have := hms.2.1 j a b b
                rw [sk_uI_o (by decide)] at this
                exact this
              have mo : ∀ c, c ≠ 51 → c ≠ 52 → I5 c = I3 c := fun c a b => by rw [hms.1 c b, sk_uI_o a]
              have m51 : I5 51 = sk_up (I3 51) q (sk_or (I 51 q) v) := by rw [hms.1 51 (by decide), sk_uI_s]
              have m48 : I5 48 = I3 48 := mo 48 (by decide) (by decide)
              have mz : ∀ j, 0 ≤ j → j < I3 48 12 → I5 52 j = I3 52 j ∨ I5 52 j = 1 := fun j a b => by
                by_cases z : sf_cb L3 q j
                · exact Or.inr ((m52 j a b).1 z)
                · exact Or.inl ((m52 j a b).2 z)
              refine nx I5 L3 T3 (sf_jv_step hp ⟨hq0.1, hqn⟩ hJ1 g2 h3 mo m51 mz (fun _ j a b z => (m52 j a b).1 z)) (by rw [m48]; exact g1) (sf_mu_step ⟨hq0.1, hqn⟩ hn.2 h52q s1 c1 h3 (by rw [m48]) m51 (fun z => absurd z e) (fun j a b => ?_))
              rcases mz j a b with z | z
              · rw [z]; exact s3 j a b
              · exact Or.inr z
            clear nx hx iv wb hJ hJ1 h3
            refine AW_run 80 rfl ?_
            refine AW_iast rfl rfl ⟨by omega, by omega⟩ (by decide) ?_
            refine AW_run 80 rfl ?_
            refine AW_iald rfl rfl ⟨by omega, by omega⟩ (by decide) ?_
            rw [sk_uI_s, sk_up_s]
            refine AW_run 80 rfl ?_
            refine AW_iceq rfl (fun g4 => ?_) (fun g4 => ?_) (by unfold sk_in; omega) (by unfold sk_in; omega)
            · have same := same g4
              refine AW_run 80 rfl ?_
              exact AW_lk same ⟨rfl, rfl, rfl, trivial⟩
            · have diff := diff g4
              refine AW_run 80 rfl ?_
              refine AW_cV (M' := mX0_makeCallersStale) (d' := d + 59 + 1) rfl kkX0_99 lcX0_makeCallersStale rfl rfl rfl rfl rfl rfl (Nat.le_refl _) ?_
              refine c_F_mcs q (I3 48 12) hq0 (by rw [sk_uI_o (by decide)]) n3 (fun j a b => by rw [sk_uI_o (by decide)]; exact s3 j a b) (fun I5 hms => ?_)
              have diff := diff I5 hms
              refine AW_run 80 rfl ?_
              exact AW_lk diff ⟨rfl, rfl, rfl, trivial⟩
          have wb := wb (fun v G' σ' => AW l E (d + 61) 0 0 mX0_sweep 93 [some (vr 48), some (vi 1), some (vi q), some (vi (I 51 q))] (v.toList ++ [vi (I 51 q), vi q, vr 51]) G' σ' Q) two
          have m1 : sk_in (I 49 q) := by
            have := hv.1
            rw [e0] at p1
            unfold sk_in
            omega
          have h9 : 0 ≤ I p 9 ∧ I p 9 ≤ 20 := by
            have := hv.1
            rw [e0]
            omega
          have p1' := p1
          rw [← f2] at wb
          clear hq nx two hx iv hJ hJ1 e56
          have hp' := hp
          rcases hp with rfl | rfl <;>
          · refine AW_run 80 rfl ?_
            refine AW_zast rfl rfl ⟨by omega, by omega⟩ (by decide) (o0) ?_
            refine AW_run 80 rfl ?_
            refine AW_acL rfl kw_pX0_84 (by omega) rfl rfl rfl (by omega) (by omega) (by omega) (by omega) (by omega) (by decide) (by decide) ?_
            rw [hL1]
            refine AW_run 80 rfl ?_
            refine AW_iald rfl rfl ⟨by omega, by omega⟩ (by decide) ?_
            refine AW_run 80 rfl ?_
            refine AW_iald rfl rfl ⟨by omega, by omega⟩ (by decide) ?_
            refine AW_run 80 rfl ?_
            refine AW_iald rfl rfl ⟨by omega, by omega⟩ (by decide) ?_
            refine AW_cV (M' := mX2_startOf) (d' := d + 59 + 1) rfl kkX0_90 lcX2_startOf rfl rfl rfl rfl rfl rfl (Nat.le_refl _) ?_
            refine c_Pg_start _ hp' _ m1 h9 (fun _ _ => ?_) (fun z => absurd p1' z)
            refine AW_run 80 rfl ?_
            refine AW_cV (M' := mX0_walkBlock) rfl kkX0_96 lcX0_walkBlock rfl rfl rfl rfl rfl rfl (Nat.le_refl _) ?_
            exact wb
  have hn := hJ0.2.1.1.1
  have lp := lp (I0 48 12).toNat (I0 48 12 - 1) 0 I0 L0 T0 (by omega) (Or.inl rfl) hJ0 (by omega) (by omega) (fun _ j a b => by omega)
  refine AW_run 80 rfl ?_
  exact AW_lk lp ⟨rfl, rfl, rfl, trivial⟩
end SKFh
