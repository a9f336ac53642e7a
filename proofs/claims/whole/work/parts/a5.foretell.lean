/-! ===== Foresight.foretell ===== -/
theorem sf_mu_0 {p : Nat} {C : sk_SI} {rm : Int} {rT : sk_Tb} {I : sk_SI} {L : sk_SL} {TT : Int → sk_Tb} (h : sf_jv p C rm rT I L TT) : 0 ≤ sf_mu I := by
  have n0 := h.2.1.1.1
  obtain ⟨n, hn⟩ := Int.eq_ofNat_of_zero_le n0.1
  have a := sk_sum_bd (f := I 52) (a := 0) (b := 1) n (fun i a b => by
    have := (h.2.1.1.2 i a (by omega)).2.2.2.2.2
    omega)
  have b := sk_sum_bd (f := fun q => sf_po3 (I 51 q)) (a := 0) (b := 3) n (fun i a b => sf_po3_b (h.2.1.1.2 i a (by omega)).2.2.2.2.1)
  unfold sf_mu
  rw [hn, Int.toNat_natCast]
  omega
def sf_f0 (I : sk_SI) : sk_SI := sk_fil 58 200 0 (sk_fil 57 200 0 (sk_fil 55 20 0 (sk_uI (sk_uI I 48 12 0) 48 14 0)))
theorem sf_f0_o (I : sk_SI) {c : Nat} (h : c ≠ 48 ∧ c ≠ 55 ∧ c ≠ 57 ∧ c ≠ 58) : sf_f0 I c = I c := by
  unfold sf_f0
  rw [sk_fil_o h.2.2.2, sk_fil_o h.2.2.1, sk_fil_o h.2.1, sk_uI_o h.1, sk_uI_o h.1]
theorem sf_f0_48 (I : sk_SI) : sf_f0 I 48 12 = 0 ∧ sf_f0 I 48 14 = 0 := by
  unfold sf_f0
  rw [sk_fil_o (by decide), sk_fil_o (by decide), sk_fil_o (by decide), sk_uI_s, sk_up_o (by decide), sk_up_s, sk_uI_s, sk_up_s]
  exact ⟨rfl, rfl⟩
theorem sf_f0_z (I : sk_SI) : (∀ m, 0 ≤ m → m < 20 → sf_f0 I 55 m = 0) ∧ ∀ s, 0 ≤ s → s < 200 → sf_f0 I 57 s = 0 ∧ sf_f0 I 58 s = 0 := by
  unfold sf_f0
  refine ⟨fun m a b => ?_, fun s a b => ⟨?_, ?_⟩⟩
  · rw [sk_fil_o (by decide), sk_fil_o (by decide), sk_fil_s, if_pos (by omega)]
  · rw [sk_fil_o (by decide), sk_fil_s, if_pos (by omega)]
  · rw [sk_fil_s, if_pos (by omega)]
def sf_no : sk_Tb := fun _ => -1
theorem sf_no_8 : sk_t8 sf_no := fun r _ _ => by unfold sf_no; omega
theorem sf_no_lg (k : Int) : sk_lg (sk_row1 sf_no k) = 0 := rfl
theorem sf_jv_0 {p : Nat} (hp : sk_pg p) {I : sk_SI} {L : sk_SL} {m pl : Int} (hm : 0 ≤ m ∧ m < I p 9) (ho : 0 ≤ I (p + 1) m ∧ I (p + 1) m ≤ 7) (hL : sk_ht (L 56) ((0 + 1) * 8) (sk_cT p I m sf_no)) (hpl : 0 ≤ pl ∧ pl ≤ sf_f0 I 48 12) : sf_jv p I m (sk_cT p I m sf_no) (sf_iI m pl (sf_f0 I)) (sf_iL (0 + 1) (sf_f0 I 48 12) L) (sf_nT (fun _ => sf_no) (sf_f0 I 48 12) (sk_cT p I m sf_no)) ∧ sf_mu (sf_iI m pl (sf_f0 I)) = 271200 ∧ sf_iI m pl (sf_f0 I) 48 14 = 0 := by
  have n0 := (sf_f0_48 I).1
  have ep : sf_f0 I p = I p := sf_f0_o I (by rcases hp with rfl | rfl <;> decide)
  have hB8 := sk_cT_8 (p := p) (I := I) (m := m) sf_no_8 ho
  have hBc := sf_cn_cT p I m sf_no
  have hP : sf_pr p (sf_f0 I) L (fun _ => sf_no) := ⟨by omega, fun q a b => by omega⟩
  have hO : sf_od (sf_f0 I) (fun _ => sf_no) := ⟨fun q a b => by omega, fun i j a b c => by omega, fun q a b => by omega⟩
  have e57 : sf_iI m pl (sf_f0 I) 57 = sf_f0 I 57 := sf_iI_o m pl _ (by decide)
  have e58 : sf_iI m pl (sf_f0 I) 58 = sf_f0 I 58 := sf_iI_o m pl _ (by decide)
  have e12 := sf_iI_48 m pl (sf_f0 I)
  have e14 : sf_iI m pl (sf_f0 I) 48 14 = 0 := by rw [sf_iI_48o m pl _ (by decide)]; exact (sf_f0_48 I).2
  have z := sf_f0_z I
  have q49 : sf_iI m pl (sf_f0 I) 49 0 = m := by rw [sf_iI_49, n0, sk_up_s]
  have q51 : sf_iI m pl (sf_f0 I) 51 0 = 0 := by rw [sf_iI_51, n0, sk_up_s]
  have q52 : sf_iI m pl (sf_f0 I) 52 0 = 1 := by rw [sf_iI_52, n0, sk_up_s]
  have qT : sf_nT (fun _ => sf_no) (sf_f0 I 48 12) (sk_cT p I m sf_no) 0 = sk_cT p I m sf_no := by rw [n0, sf_nT_s]
  refine ⟨⟨fun c a b c' d f g h i => by rw [sf_iI_o m pl _ ⟨a, b, c', d, f, g⟩, sf_f0_o I ⟨a, g, h, i⟩], ⟨sf_ins_pr hp hP (by omega) (by rw [ep]; exact hm) hB8 hBc hL, sf_ins_od hP hO hpl hBc (fun i a b => by omega) (fun i a b => by omega) (fun q a b => by omega), sf_ins_ct (by omega) (fun a a0 a1 => by rw [z.1 a a0 a1, n0]; rfl), fun s a b => ?_⟩, ⟨by omega, q49, qT⟩, Or.inl e14, fun _ => ⟨fun A G P O hc => ⟨fun q a b => ?_, fun s a b => ?_⟩, fun q a b c => ?_⟩, fun y => by omega⟩, ?_, e14⟩
  · rw [e57, e58]
    exact ⟨Or.inl (z.2 s a b).1, Or.inl (z.2 s a b).2⟩
  · have : q = 0 := by omega
    subst this
    rw [q49, q51, qT]
    exact ⟨hc.1, fun x hx => ((sf_b_0 x).mp hx).elim⟩
  · rw [e57, e58, (z.2 s a b).1, (z.2 s a b).2]
    exact ⟨fun y => by omega, fun y => by omega⟩
  · have : q = 0 := by omega
    subst this
    omega
  · unfold sf_mu
    rw [e12, n0]
    show sk_sum (sf_iI m pl (sf_f0 I) 52) 1 + (300 - (0 + 1)) + 301 * (900 - sk_sum (fun q => sf_po3 (sf_iI m pl (sf_f0 I) 51 q)) 1) = 271200
    have a : sk_sum (sf_iI m pl (sf_f0 I) 52) 1 = 0 + sf_iI m pl (sf_f0 I) 52 0 := rfl
    have b : sk_sum (fun q => sf_po3 (sf_iI m pl (sf_f0 I) 51 q)) 1 = 0 + sf_po3 (sf_iI m pl (sf_f0 I) 51 0) := rfl
    have c : sf_po3 0 = 0 := by decide
    rw [a, b, q52, q51, c]
    omega
section SKFi
variable {l : Launch} {E : sk_En} {d : Nat} {cu sp io rp tp fp p : Nat} {Q : Option sk_V → List sk_Sh → sk_St → Prop} {D : Int → Int}
theorem c_fillL (v : Int64) (I : sk_SI) (L : sk_SL) (J : sk_SR) (hq : Q none sk_G (I, sf_fL 56 0 104 v L, J)) : AW l E d 0 0 mJ7_fill_d0a16 0 [some (vr 56), some (vl v), none, none, none] [] sk_G (I, L, J) Q := by
  have lp : ∀ (k : Nat) (i : Int), 0 ≤ i → i + k = 104 → AW l E d 0 0 mJ7_fill_d0a16 9 [some (vr 56), some (vl v), none, some (vi i), some (vi 104)] [vi 104, vi i] sk_G (I, sf_fL 56 0 i v L, J) Q := by
    intro k
    induction k with
    | zero =>
      intro i i0 hi
      have : i = 104 := by omega
      subst this
      refine AW_icge rfl (fun g => ?_) (fun g => by omega)
      exact AW_vret rfl rfl hq
    | succ k ih =>
      intro i i0 hi
      have ih2 := ih (i + 1) (by omega) (by omega)
      rw [← sf_fL_1 56 0 i v L i0] at ih2
      refine AW_icge rfl (fun g => by omega) (fun g => ?_) (by unfold sk_in; omega)
      refine AW_run 80 rfl ?_
      refine AW_last rfl rfl ⟨by omega, by omega⟩ (by decide) ?_
      refine AW_run 80 rfl ?_
      exact ih2
  have lp := lp 104 0 (by omega) (by omega)
  rw [sf_fL_0] at lp
  refine AW_run 80 rfl ?_
  exact lp
theorem c_F_foretell (hp : sk_pg p) (I : sk_SI) (L : sk_SL) (hv : sk_pv p D I) (hr : sk_ru I) (m : Int) (hm : 0 ≤ m ∧ m < I p 9) (hq0 : ∀ I' L' TT', sf_jv p I m (sk_cT p I m sf_no) I' L' TT' → I' 48 14 = 1 → Q (some (vi (-6))) sk_G (sk_uI I' 48 15 0, L', sk_J cu sp io rp tp p)) (hq1 : ∀ I' L' TT', sf_jv p I m (sk_cT p I m sf_no) I' L' TT' → I' 48 14 = 0 → (∀ q, 0 ≤ q → q < I' 48 12 → I' 52 q = 0) → Q (some (vi (I' 48 12))) sk_G (sk_uI I' 48 15 1, L', sk_J cu sp io rp tp p)) : AW l E (d + 62) 0 0 mX0_foretell 0 [some (vr 48), some (vr p), some (vi m), none, none] [] sk_G (I, L, sk_J cu sp io rp tp fp) Q := by
  have v9 := hv.1
  have ow := (hv.2.2.2.1 m hm.1 hm.2).1
  have fin : ∀ (ls : List (Option sk_V)) (I' : sk_SI) (L' : sk_SL) (TT' : Int → sk_Tb), ls = [some (vr 48), none, none, none, none] → sf_jv p I m (sk_cT p I m sf_no) I' L' TT' → (I' 48 14 = 1 ∨ ∀ q, 0 ≤ q → q < I' 48 12 → I' 52 q = 0) → AW l E (d + 62) 0 0 mX0_foretell 81 ls [] sk_G (I', L', sk_J cu sp io rp tp p) Q := by
    intro ls I' L' TT' hls hJ h
    subst hls
    have h14 := hJ.2.2.2.1
    refine AW_run 80 rfl ?_
    refine AW_ifne rfl (fun g => ?_) (fun g => ?_) (by unfold sk_in; omega)
    · have hq0 := hq0 I' L' TT' hJ (by omega)
      refine AW_run 80 rfl ?_
      refine AW_putZ rfl rfl (Or.inl rfl) ?_
      refine AW_run 80 rfl ?_
      refine AW_top (b := 0) (by rw [sk_uI_s]; exact sk_up_s) ?_
      first | refine AW_e1 rfl ?_ | refine AW_e0 rfl ?_ | refine AW_n1 rfl ?_ | refine AW_n0 rfl ?_
      refine AW_run 80 rfl ?_
      exact AW_iret rfl rfl hq0
    · have hq1 := hq1 I' L' TT' hJ g (h.resolve_left (by omega))
      refine AW_run 80 rfl ?_
      refine AW_putZ rfl rfl (Or.inr rfl) ?_
      refine AW_run 80 rfl ?_
      refine AW_top (b := 1) (by rw [sk_uI_s]; exact sk_up_s) ?_
      first | refine AW_e1 rfl ?_ | refine AW_e0 rfl ?_ | refine AW_n1 rfl ?_ | refine AW_n0 rfl ?_
      refine AW_run 80 rfl ?_
      refine AW_top (b := I' 48 12) (by rw [sk_uI_s]; exact sk_up_o (by decide)) ?_
      exact AW_iret rfl rfl hq1
  have lp : ∀ (k : Nat) (i u : Int) (I' : sk_SI) (L' : sk_SL) (TT' : Int → sk_Tb), 0 ≤ i → (u = 0 ∨ u = 1) → sf_jv p I m (sk_cT p I m sf_no) I' L' TT' → (u = 1 → sf_mu I' + 1 ≤ k ∧ i + k ≤ 300000) → i ≤ 300001 → (u = 0 → I' 48 14 = 1 ∨ ∀ q, 0 ≤ q → q < I' 48 12 → I' 52 q = 0) → AW l E (d + 62) 0 0 mX0_foretell 63 [some (vr 48), none, none, some (vi u), some (vi i)] [vi 1000000, vi i] sk_G (I', L', sk_J cu sp io rp tp p) Q := by
    intro k
    induction k with
    | zero =>
      intro i u I' L' TT' i0 hu hJ h1 hi h0
      have mu := sf_mu_0 hJ
      have fin := fun ls hls => fin ls I' L' TT' hls hJ (h0 (by omega))
      refine AW_icge rfl (fun g => by omega) (fun g => ?_) (by unfold sk_in; omega) (by unfold sk_in; omega)
      refine AW_run 80 rfl ?_
      refine AW_ifeq rfl (fun g2 => ?_) (fun g2 => by omega) (by unfold sk_in; omega)
      exact AW_lk (fin _ rfl) ⟨rfl, trivial⟩
    | succ k ih =>
      intro i u I' L' TT' i0 hu hJ h1 hi h0
      refine AW_icge rfl (fun g => by omega) (fun g => ?_) (by unfold sk_in; omega) (by unfold sk_in; omega)
      refine AW_run 80 rfl ?_
      refine AW_ifeq rfl (fun g2 => ?_) (fun g2 => ?_) (by unfold sk_in; omega)
      · have fin := fun ls hls => fin ls I' L' TT' hls hJ (h0 g2)
        exact AW_lk (fin _ rfl) ⟨rfl, trivial⟩
      · have h1 := h1 (by omega)
        refine AW_run 80 rfl ?_
        refine AW_cV (M' := mX0_sweep) rfl kkX0_74 lcX0_sweep rfl rfl rfl rfl rfl rfl (Nat.le_refl _) ?_
        refine c_F_sweep hp hv hr I' L' TT' hJ (fun r I2 L2 T2 r01 r1 r2 r3 => ?_)
        have ih2 := ih (i + 1) r I2 L2 T2 (by omega) r01 r1 (fun z => by have := r2 z; omega) (by omega) r3
        refine AW_run 80 rfl ?_
        refine AW_ldcM rfl ?_
        exact AW_lk ih2 ⟨rfl, rfl, rfl, trivial⟩
  have cm := fun Q' L1 (hL1 : sk_ht (L1 56) (0 * 8) sf_no) h => c_F_come (l := l) (E := E) (d := d + 58) (I := sf_f0 I) (TT := fun _ => sf_no) (cu := cu) (sp := sp) (io := io) (rp := rp) (tp := tp) (Q := Q') hp (by intro i a b; rw [sf_f0_o I (by decide)]; exact hr i a b) L1 m 0 (by omega) (by rw [show sf_f0 I p = I p from sf_f0_o I (by rcases hp with rfl | rfl <;> decide)]; omega) (by rw [show sf_f0 I p = I p from sf_f0_o I (by rcases hp with rfl | rfl <;> decide)]; exact hm) sf_no sf_no_8 hL1 (by rw [sf_f0_o I (by rcases hp with rfl | rfl <;> decide)]; exact ow) ⟨by have := (sf_f0_48 I).1; omega, fun q a b => by have := (sf_f0_48 I).1; omega⟩ ⟨fun q a b => by have := (sf_f0_48 I).1; omega, fun i j a b c => by have := (sf_f0_48 I).1; omega, fun q a b => by have := (sf_f0_48 I).1; omega⟩ h
  have n0 := (sf_f0_48 I).1
  have eB : sk_cT p (sf_f0 I) m sf_no = sk_cT p I m sf_no := by
    unfold sk_cT
    rw [sf_f0_o I (c := p + 1) (by rcases hp with rfl | rfl <;> decide), sf_f0_o I (c := 8) (by decide)]
  rw [eB] at cm
  have go : AW l E (d + 61) 0 0 mX0_come 0 [some (vr 48), some (vi m), some (vi 0), none, none] [] sk_G (sf_f0 I, sf_fL 56 0 104 0 L, sk_J cu sp io rp tp p) (fun v G' σ' => AW l E (d + 62) 0 0 mX0_foretell 53 [some (vr 48), some (vr p), some (vi m), none, none] (v.toList ++ []) G' σ' Q) := by
    refine cm _ _ (fun k k0 k1 => by rw [sf_no_lg, sf_fL_s, if_pos (by omega)]) (fun L' g1 g2 => ⟨fun q a b => by omega, fun _ => ⟨fun z => by omega, fun _ pl hpl _ _ => ?_⟩⟩)
    obtain ⟨j1, j2, j3⟩ := sf_jv_0 hp hm ow g1 hpl
    have lp := lp 271201 0 1 _ _ _ (by omega) (Or.inr rfl) j1 (fun _ => by omega) (by omega) (fun z => by omega)
    refine AW_run 80 rfl ?_
    refine AW_ldcM rfl ?_
    exact AW_lk lp ⟨rfl, rfl, rfl, trivial⟩
  unfold sf_f0 at go
  clear fin lp cm
  refine AW_run 80 rfl ?_
  rw [sk_J_fp]
  refine AW_putZ rfl rfl (Or.inl rfl) ?_
  refine AW_run 80 rfl ?_
  refine AW_cS (M' := mJ7_fill_53178) (d' := d + 61) rfl kkX0_60 lcJ7_fill_53178 rfl rfl rfl (Nat.le_refl _) ?_
  refine c_fill 55 20 (by omega) 0 _ _ ?_
  refine AW_run 80 rfl ?_
  refine AW_cS (M' := mJ7_fill_53178) (d' := d + 61) rfl kkX0_60 lcJ7_fill_53178 rfl rfl rfl (Nat.le_refl _) ?_
  refine c_fill 57 200 (by omega) 0 _ _ ?_
  refine AW_run 80 rfl ?_
  refine AW_cS (M' := mJ7_fill_53178) (d' := d + 61) rfl kkX0_60 lcJ7_fill_53178 rfl rfl rfl (Nat.le_refl _) ?_
  refine c_fill 58 200 (by omega) 0 _ _ ?_
  refine AW_run 80 rfl ?_
  refine AW_cS (M' := mJ7_fill_d0a16) (d' := d + 61) rfl kkX0_66 lcJ7_fill_d0a16 rfl rfl rfl (Nat.le_refl _) ?_
  refine c_fillL 0 _ _ _ ?_
  refine AW_run 80 rfl ?_
  refine AW_cV (M' := mX0_come) rfl kkX0_69 lcX0_come rfl rfl rfl rfl rfl rfl (Nat.le_refl _) ?_
  exact go
end SKFi
