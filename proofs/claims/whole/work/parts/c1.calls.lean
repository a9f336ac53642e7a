/-! ===== the calls, one by one: the class's answer is the model's ===== -/
def sr_P (l : Launch) (E : sk_En) (M : sk_M) (ls : List (Option sk_V)) : Option sk_V → List sk_Sh → sk_St → Prop := fun v G' σ' => ∃ (a : Int) (I1 : sk_SI) (L1 : sk_SL) (cu sp io rp tp fp : Nat), v = some (vi a) ∧ G' = sk_G ∧ σ' = (I1, L1, sk_J cu sp io rp tp fp) ∧ ∀ Q' : Option sk_V → List sk_Sh → sk_St → Prop, (∀ I2, sr_R cu sp I2 L1 → Q' (some (vi a)) sk_G (I2, L1, sk_J cu sp io rp tp fp)) → AW l E 100 0 0 M 0 ls [] sk_G (I1, L1, sk_J cu sp io rp tp fp) Q'
def sr_20 (f : Int → Int) (n a b c e g : Int) : Int → Int := sr_u4 (sr_u4 (sr_u4 (sr_u4 (sr_u4 f n a) (n + 4) b) (n + 8) c) (n + 12) e) (n + 16) g
theorem sr_k20 (I : sk_SI) (a b c e g : Int) : sk_ab (sk_ab (sk_ab (sk_ab (sk_ab I a) b) c) e) g 2 = sr_20 (I 2) (I 1 1) a b c e g ∧ sk_ab (sk_ab (sk_ab (sk_ab (sk_ab I a) b) c) e) g 1 1 = I 1 1 + 20 ∧ ∀ k, k ≠ 1 → k ≠ 2 → sk_ab (sk_ab (sk_ab (sk_ab (sk_ab I a) b) c) e) g k = I k := by
  refine ⟨?_, ?_, fun k h1 h2 => ?_⟩
  · rw [(sr_ab _ g).1, (sr_ab _ e).1, (sr_ab _ c).1, (sr_ab _ b).1, (sr_ab _ a).1]
    simp only [sk_ab_n]
    unfold sr_20
    rw [show I 1 1 + 4 + 4 = I 1 1 + 8 by omega, show I 1 1 + 8 + 4 = I 1 1 + 12 by omega, show I 1 1 + 12 + 4 = I 1 1 + 16 by omega]
  · simp only [sk_ab_n]
    omega
  · rw [(sr_ab _ g).2.2 k h1 h2, (sr_ab _ e).2.2 k h1 h2, (sr_ab _ c).2.2 k h1 h2, (sr_ab _ b).2.2 k h1 h2, (sr_ab _ a).2.2 k h1 h2]
theorem sr_m20 (I : sk_SI) (a b c e g : Int) : sk_a4 (sk_a4 (sk_a4 (sk_a4 (sk_a4 I a) b) c) e) g 60 = sr_20 (I 60) (I 59 2) a b c e g ∧ sk_a4 (sk_a4 (sk_a4 (sk_a4 (sk_a4 I a) b) c) e) g 59 2 = I 59 2 + 20 ∧ (∀ j, j ≠ 2 → sk_a4 (sk_a4 (sk_a4 (sk_a4 (sk_a4 I a) b) c) e) g 59 j = I 59 j) ∧ ∀ k, k ≠ 59 → k ≠ 60 → sk_a4 (sk_a4 (sk_a4 (sk_a4 (sk_a4 I a) b) c) e) g k = I k := by
  refine ⟨?_, ?_, fun j hj => ?_, fun k h1 h2 => ?_⟩
  · rw [(sr_a4 _ g).1, (sr_a4 _ e).1, (sr_a4 _ c).1, (sr_a4 _ b).1, (sr_a4 _ a).1]
    simp only [sk_a4_n]
    unfold sr_20
    rw [show I 59 2 + 4 + 4 = I 59 2 + 8 by omega, show I 59 2 + 8 + 4 = I 59 2 + 12 by omega, show I 59 2 + 12 + 4 = I 59 2 + 16 by omega]
  · simp only [sk_a4_n]
    omega
  · rw [(sr_a4 _ g).2.2.1 j hj, (sr_a4 _ e).2.2.1 j hj, (sr_a4 _ c).2.2.1 j hj, (sr_a4 _ b).2.2.1 j hj, (sr_a4 _ a).2.2.1 j hj]
  · rw [(sr_a4 _ g).2.2.2 k h1 h2, (sr_a4 _ e).2.2.2 k h1 h2, (sr_a4 _ c).2.2.2 k h1 h2, (sr_a4 _ b).2.2.2 k h1 h2, (sr_a4 _ a).2.2.2 k h1 h2]
theorem sr_20_b {f : Int → Int} {n : Int} (a b c e g : Int) (hn : 0 ≤ n) (h : ∀ i, 0 ≤ i → i < n → 0 ≤ f i ∧ f i ≤ 255) : ∀ i, 0 ≤ i → i < n + 20 → 0 ≤ sr_20 f n a b c e g i ∧ sr_20 f n a b c e g i ≤ 255 := by
  have h1 := sr_u4_b a hn h
  have h2 := sr_u4_b b (by omega) h1
  have h3 := sr_u4_b c (show 0 ≤ n + 8 by omega) (fun i x y => h2 i x (by omega))
  have h4 := sr_u4_b e (show 0 ≤ n + 12 by omega) (fun i x y => h3 i x (by omega))
  have h5 := sr_u4_b g (show 0 ≤ n + 16 by omega) (fun i x y => h4 i x (by omega))
  exact fun i x y => h5 i x (by omega)
section SKK2
variable {l : Launch} {E : sk_En} {I : sk_SI} {L : sk_SL} {cu sp io rp tp fp : Nat}
theorem sr_feed (h : sr_R cu sp I L) (a b c e g : Int) : AW l E 100 0 0 mX9_feed 0 [some (vr 0), some (vi a), some (vi b), some (vi c), some (vi e), some (vi g)] [] sk_G (I, L, sk_J cu sp io rp tp fp) (sr_P l E mX10_feed [some (vr 59), some (vi a), some (vi b), some (vi c), some (vi e), some (vi g)]) := by
  have h' := h
  obtain ⟨h0, hm, ht, hru, hb, hp, hrn, hn, hk⟩ := h
  have hc := (sr_pg h0).1
  obtain ⟨t1, t2, t3⟩ := ht
  refine c_K_feed (d := 97) a b c e g t3.1 t3.2.1 (fun z => ?_) (fun z => ?_)
  · refine ⟨_, I, L, cu, sp, io, rp, tp, fp, rfl, rfl, rfl, fun Q' hQ => ?_⟩
    exact c_M_feed (d := 99) a b c e g hm.1 (by have := t3.1; omega) (by have := t3.2.1; omega) (fun _ => hQ I h') (fun y => by omega)
  · obtain ⟨k1, k2, k3⟩ := sr_k20 I a b c e g
    refine ⟨_, _, L, cu, sp, io, rp, tp, fp, rfl, rfl, rfl, fun Q' hQ => ?_⟩
    generalize sk_ab (sk_ab (sk_ab (sk_ab (sk_ab I a) b) c) e) g = K at *
    have k59 : K 59 = I 59 := k3 59 (by decide) (by decide)
    refine c_M_feed (d := 99) a b c e g (by rw [k59]; exact hm.1) (by rw [k59]; have := t3.1; omega) (by rw [k59]; have := t3.2.1; omega) (fun y => by rw [k59] at y; omega) (fun y => ?_)
    obtain ⟨n1, n2, n3, n4⟩ := sr_m20 K a b c e g
    generalize sk_a4 (sk_a4 (sk_a4 (sk_a4 (sk_a4 K a) b) c) e) g = N at *
    rw [k59, ← t2]
    have kN : ∀ k, k ≠ 1 → k ≠ 2 → k ≠ 59 → k ≠ 60 → N k = I k := fun k x1 x2 x3 x4 => by rw [n4 k x3 x4, k3 k x1 x2]
    have jN : ∀ j, j ≠ 2 → N 59 j = I 59 j := fun j hj => by rw [n3 j hj, k59]
    have N2 : N 2 = sr_20 (I 2) (I 1 1) a b c e g := by rw [n4 2 (by decide) (by decide), k1]
    have N1 : N 1 1 = I 1 1 + 20 := by rw [n4 1 (by decide) (by decide), k2]
    refine hQ N ⟨h0, sr_misc_cg hm (jN 0 (by decide)) (jN 25 (by decide)) (by rw [kN 29 (by decide) (by decide) (by decide) (by decide)]) (jN 6 (by decide)), ⟨?_, ?_, ?_⟩, sr_rule_cg hru (kN 8 (by decide) (by decide) (by decide) (by decide)) (kN 61 (by decide) (by decide) (by decide) (by decide)), sr_bits_cg hb (by rw [kN 3 (by decide) (by decide) (by decide) (by decide)]) (kN 4 (by decide) (by decide) (by decide) (by decide)) (kN 62 (by decide) (by decide) (by decide) (by decide)) (jN 5 (by decide)), sr_prog_cg hc hp (fun c x => kN c (by rcases hc with rfl | rfl <;> omega) (by rcases hc with rfl | rfl <;> omega) (by rcases hc with rfl | rfl <;> omega) (by rcases hc with rfl | rfl <;> omega)) (fun c x => kN c (by omega) (by omega) (by omega) (by omega)) (jN 7 (by decide)), sr_run_cg hrn (by rw [kN 34 (by decide) (by decide) (by decide) (by decide)]) (kN 44 (by decide) (by decide) (by decide) (by decide)) (fun j x => jN j (by omega)), sr_note_cg hn (by rw [kN 5 (by decide) (by decide) (by decide) (by decide)]) (kN 6 (by decide) (by decide) (by decide) (by decide)) (kN 90 (by decide) (by decide) (by decide) (by decide)) (jN 58 (by decide)), sr_kept_cg hk (kN cu (by rcases hc with rfl | rfl <;> omega) (by rcases hc with rfl | rfl <;> omega) (by rcases hc with rfl | rfl <;> omega) (by rcases hc with rfl | rfl <;> omega)) (fun c x => kN c (by omega) (by omega) (by omega) (by omega)) (fun c x => kN c (by omega) (by omega) (by omega) (by omega)) (jN 7 (by decide)) (jN 59 (by decide)) (jN 60 (by decide)) rfl⟩
    · rw [N2, n1, k3 60 (by decide) (by decide), k59, ← t1, ← t2]
    · rw [N1, n2, k59, t2]
    · refine ⟨by rw [N1]; have := t3.1; omega, by rw [N1]; omega, ?_⟩
      rw [N1, N2]
      exact sr_20_b a b c e g t3.1 t3.2.2
/-- what holds when a slot of the model and a cell of the class come to be other -/
theorem sr_R_u (h : sr_R cu sp I L) {K : sk_SI} (kN : ∀ k, k ≠ 1 → k ≠ 3 → k ≠ 8 → k ≠ 59 → k ≠ 61 → K k = I k) (jN : ∀ j, j ≠ 2 → j ≠ 5 → K 59 j = I 59 j) (ht : sr_tape K) (hr : sr_rule K) (hb : sr_bits K) : sr_R cu sp K L := by
  obtain ⟨h0, hm, -, -, -, hp, hrn, hn, hk⟩ := h
  have hc := (sr_pg h0).1
  exact ⟨h0, sr_misc_cg hm (jN 0 (by decide) (by decide)) (jN 25 (by decide) (by decide)) (by rw [kN 29 (by decide) (by decide) (by decide) (by decide) (by decide)]) (jN 6 (by decide) (by decide)), ht, hr, hb, sr_prog_cg hc hp (fun c x => by rcases hc with rfl | rfl <;> exact kN c (by omega) (by omega) (by omega) (by omega) (by omega)) (fun c x => kN c (by omega) (by omega) (by omega) (by omega) (by omega)) (jN 7 (by decide) (by decide)), sr_run_cg hrn (by rw [kN 34 (by decide) (by decide) (by decide) (by decide) (by decide)]) (kN 44 (by decide) (by decide) (by decide) (by decide) (by decide)) (fun j x => jN j (by omega) (by omega)), sr_note_cg hn (by rw [kN 5 (by decide) (by decide) (by decide) (by decide) (by decide)]) (kN 6 (by decide) (by decide) (by decide) (by decide) (by decide)) (kN 90 (by decide) (by decide) (by decide) (by decide) (by decide)) (jN 58 (by decide) (by decide)), sr_kept_cg hk (by rcases hc with rfl | rfl <;> exact kN _ (by omega) (by omega) (by omega) (by omega) (by omega)) (fun c x => kN c (by omega) (by omega) (by omega) (by omega) (by omega)) (fun c x => kN c (by omega) (by omega) (by omega) (by omega) (by omega)) (jN 7 (by decide) (by decide)) (jN 59 (by decide) (by decide)) (jN 60 (by decide) (by decide)) rfl⟩
theorem sr_trim (h : sr_R cu sp I L) (n : Int) (hi : sk_in n) : AW l E 100 0 0 mX9_trim 0 [some (vr 0), some (vi n)] [] sk_G (I, L, sk_J cu sp io rp tp fp) (sr_P l E mX10_trim [some (vr 59), some (vi n)]) := by
  have h' := h
  obtain ⟨h0, hm, ht, hru, hb, -⟩ := h
  obtain ⟨t1, t2, t3⟩ := ht
  refine c_K_trim (d := 98) n hi t3.1 t3.2.1 (fun z => ?_) (fun z y => ?_)
  · refine ⟨_, I, L, cu, sp, io, rp, tp, fp, rfl, rfl, rfl, fun Q' hQ => ?_⟩
    exact c_M_trim (d := 99) n hi hm.1 (by have := t3.1; omega) (by have := t3.2.1; omega) (fun _ => hQ I h') (fun y w => absurd ⟨y, by omega⟩ z)
  · refine ⟨_, _, L, cu, sp, io, rp, tp, fp, rfl, rfl, rfl, fun Q' hQ => ?_⟩
    have e59 : sk_uI I 1 1 n 59 = I 59 := sk_uI_o (by decide)
    refine c_M_trim (d := 99) n hi (by rw [e59]; exact hm.1) (by rw [e59]; have := t3.1; omega) (by rw [e59]; have := t3.2.1; omega) (fun w => by rw [e59] at w; exact absurd ⟨z, by omega⟩ w) (fun _ _ => ?_)
    refine hQ _ (sr_R_u h' (fun k x1 x2 x3 x4 x5 => by rw [sk_uI_o x4, sk_uI_o x1]) (fun j x1 x2 => by rw [sk_uI_s, sk_up_o x1, e59]) ⟨?_, ?_, ?_⟩ ?_ ?_)
    · rw [sk_uI_o (by decide), sk_uI_o (by decide), sk_uI_o (by decide), sk_uI_o (by decide)]; exact t1
    · rw [sk_uI_o (by decide), sk_uI_s, sk_up_s, sk_uI_s, sk_up_s]
    · unfold sk_tp
      rw [sk_uI_o (by decide), sk_uI_s, sk_up_s, sk_uI_o (by decide), sk_uI_o (by decide)]
      exact ⟨z, by have := t3.2.1; omega, fun i a b => t3.2.2 i a (by omega)⟩
    · exact sr_rule_cg hru (by rw [sk_uI_o (by decide), sk_uI_o (by decide)]) (by rw [sk_uI_o (by decide), sk_uI_o (by decide)])
    · exact sr_bits_cg hb (by rw [sk_uI_o (by decide), sk_uI_o (by decide)]) (by rw [sk_uI_o (by decide), sk_uI_o (by decide)]) (by rw [sk_uI_o (by decide), sk_uI_o (by decide)]) (by rw [sk_uI_s, sk_up_o (by decide), e59])
theorem sr_fault (h : sr_R cu sp I L) : AW l E 100 0 0 mX9_fault 0 [some (vr 0)] [] sk_G (I, L, sk_J cu sp io rp tp fp) (sr_P l E mX10_fault [some (vr 59)]) := by
  refine c_K_fault ?_
  refine ⟨_, I, L, cu, sp, io, rp, tp, fp, rfl, rfl, rfl, fun Q' hQ => ?_⟩
  refine c_M_fault h.2.1.1 ?_
  rw [← h.2.1.2.2]
  exact hQ I h
theorem sr_rulec (h : sr_R cu sp I L) (o k v : Int) (ho : sk_in o) (hk : sk_in k) (hv : sk_in v) : AW l E 100 0 0 mX9_rule 0 [some (vr 0), some (vi o), some (vi k), some (vi v)] [] sk_G (I, L, sk_J cu sp io rp tp fp) (sr_P l E mX10_rule [some (vr 59), some (vi o), some (vi k), some (vi v), none]) := by
  have h' := h
  obtain ⟨h0, hm, ht, hru, hb, -⟩ := h
  refine c_K_rule (d := 97) o k v ho hk hv (fun z => ?_) (fun a1 a2 a3 a4 a5 a6 => ?_)
  · refine ⟨_, I, L, cu, sp, io, rp, tp, fp, rfl, rfl, rfl, fun Q' hQ => ?_⟩
    exact c_M_rule (d := 99) o k v ho hk hv hm.1 (fun _ => hQ I h') (fun a1 a2 a3 a4 a5 a6 => absurd ⟨a1, a2, a3, a4, a5, a6⟩ z)
  · refine ⟨_, _, L, cu, sp, io, rp, tp, fp, rfl, rfl, rfl, fun Q' hQ => ?_⟩
    refine c_M_rule (d := 99) o k v ho hk hv (by rw [sk_uI_o (by decide)]; exact hm.1) (fun z => absurd ⟨a1, a2, a3, a4, a5, a6⟩ z) (fun _ _ _ _ _ _ => ?_)
    have e : sk_uI I 8 (o * 8 + k) v 61 (8 * o + k) = I 8 (o * 8 + k) := by rw [sk_uI_o (by decide), hru.1, show 8 * o + k = o * 8 + k by omega]
    rw [e]
    refine hQ _ (sr_R_u h' (fun k x1 x2 x3 x4 x5 => by rw [sk_uI_o x5, sk_uI_o x3]) (fun j x1 x2 => by rw [sk_uI_o (by decide), sk_uI_o (by decide)]) ?_ ⟨?_, ?_⟩ ?_)
    · exact sr_tape_cg ht (by rw [sk_uI_o (by decide), sk_uI_o (by decide)]) (by rw [sk_uI_o (by decide), sk_uI_o (by decide)]) (by rw [sk_uI_o (by decide), sk_uI_o (by decide)]) (by rw [sk_uI_o (by decide), sk_uI_o (by decide)])
    · rw [sk_uI_s, sk_uI_o (by decide), sk_uI_o (by decide), sk_uI_s, hru.1, show 8 * o + k = o * 8 + k by omega]
    · intro i i0 i1
      rw [sk_uI_o (by decide), sk_uI_s]
      by_cases e : i = o * 8 + k
      · subst e; rw [sk_up_s]; exact ⟨a5, a6⟩
      · rw [sk_up_o e]; exact hru.2 i i0 i1
    · exact sr_bits_cg hb (by rw [sk_uI_o (by decide), sk_uI_o (by decide)]) (by rw [sk_uI_o (by decide), sk_uI_o (by decide)]) (by rw [sk_uI_o (by decide), sk_uI_o (by decide)]) (by rw [sk_uI_o (by decide), sk_uI_o (by decide)])
theorem sr_forget (h : sr_R cu sp I L) : AW l E 100 0 0 mX9_forget 0 [some (vr 0), none] [] sk_G (I, L, sk_J cu sp io rp tp fp) (sr_P l E mX10_forget [some (vr 59), none]) := by
  have h' := h
  obtain ⟨h0, hm, ht, hru, hb, -⟩ := h
  refine c_K_forget (d := 98) hb.2.2.1.1 hb.2.2.1.2 ?_
  refine ⟨_, _, L, cu, sp, io, rp, tp, fp, rfl, rfl, rfl, fun Q' hQ => ?_⟩
  have e59 : sk_uI I 3 1 0 59 = I 59 := sk_uI_o (by decide)
  refine c_M_forget (by rw [e59]; exact hm.1) ?_
  rw [e59, hb.2.1]
  refine hQ _ (sr_R_u h' (fun k x1 x2 x3 x4 x5 => by rw [sk_uI_o x4, sk_uI_o x2]) (fun j x1 x2 => by rw [sk_uI_s, sk_up_o x2, e59]) ?_ ?_ ⟨?_, ?_, ?_, ?_⟩)
  · exact sr_tape_cg ht (by rw [sk_uI_o (by decide), sk_uI_o (by decide)]) (by rw [sk_uI_o (by decide), sk_uI_o (by decide)]) (by rw [sk_uI_o (by decide), sk_uI_o (by decide)]) (by rw [sk_uI_s, sk_up_o (by decide), e59])
  · exact sr_rule_cg hru (by rw [sk_uI_o (by decide), sk_uI_o (by decide)]) (by rw [sk_uI_o (by decide), sk_uI_o (by decide)])
  · rw [sk_uI_o (by decide), sk_uI_o (by decide), sk_uI_o (by decide), sk_uI_o (by decide)]; exact hb.1
  · rw [sk_uI_s, sk_up_s, sk_uI_o (by decide), sk_uI_s, sk_up_s]
  · rw [sk_uI_o (by decide), sk_uI_s, sk_up_s]; omega
  · rw [sk_uI_o (by decide), sk_uI_s, sk_up_s]; intro i a b; omega
theorem sr_bitsc (h : sr_R cu sp I L) (v n : Int) (hi : sk_in n) : AW l E 100 0 0 mX9_bits 0 [some (vr 0), some (vi v), some (vi n), none] [] sk_G (I, L, sk_J cu sp io rp tp fp) (sr_P l E mX10_bits [some (vr 59), some (vi v), some (vi n), none]) := by
  have h' := h
  obtain ⟨h0, hm, ht, hru, hb, hp, hrn, hn, hk⟩ := h
  have hc := (sr_pg h0).1
  refine c_K_bits (d := 98) v n hi hb.2.2.1.1 hb.2.2.1.2 (fun z => ?_) (fun z1 z2 z3 => ?_) (fun z1 z2 z3 => ?_)
  · refine ⟨_, I, L, cu, sp, io, rp, tp, fp, rfl, rfl, rfl, fun Q' hQ => ?_⟩
    exact c_M_bits (d := 99) v n hi hm.1 (by rw [hb.2.1]; exact hb.2.2.1.1) (by rw [hb.2.1]; exact hb.2.2.1.2) (fun _ => hQ I h') (fun y1 y2 => absurd ⟨y1, y2⟩ z) (fun y1 y2 => absurd ⟨y1, y2⟩ z)
  · refine ⟨_, I, L, cu, sp, io, rp, tp, fp, rfl, rfl, rfl, fun Q' hQ => ?_⟩
    exact c_M_bits (d := 99) v n hi hm.1 (by rw [hb.2.1]; exact hb.2.2.1.1) (by rw [hb.2.1]; exact hb.2.2.1.2) (fun z => absurd ⟨z1, z2⟩ z) (fun _ _ _ => hQ I h') (fun _ _ y => by rw [hb.2.1] at y; omega)
  · obtain ⟨k1, k2⟩ := sr_kb I v n.toNat (by omega)
    have k3 := sk_kb_n I v n.toNat
    refine ⟨_, _, L, cu, sp, io, rp, tp, fp, rfl, rfl, rfl, fun Q' hQ => ?_⟩
    generalize sk_kb I v n.toNat = K at *
    have k59 : K 59 = I 59 := k2 59 (by decide) (by decide)
    refine c_M_bits (d := 99) v n hi (by rw [k59]; exact hm.1) (by rw [k59, hb.2.1]; exact hb.2.2.1.1) (by rw [k59, hb.2.1]; exact hb.2.2.1.2) (fun z => absurd ⟨z1, z2⟩ z) (fun _ _ y => by rw [k59, hb.2.1] at y; omega) (fun _ _ _ => ?_)
    obtain ⟨n1, n2, n3⟩ := sr_mb K v n.toNat
    have n4 := sk_mb_n K v n.toNat
    generalize sk_mb K v n.toNat = N at *
    rw [k59, hb.2.1]
    have kN : ∀ k, k ≠ 3 → k ≠ 4 → k ≠ 59 → k ≠ 62 → N k = I k := fun k x1 x2 x3 x4 => by rw [n3 k x3 x4, k2 k x1 x2]
    have jN : ∀ j, j ≠ 5 → N 59 j = I 59 j := fun j hj => by rw [n2 j hj, k59]
    have N4 : N 4 = sr_ub (I 4) (I 3 1) v n.toNat := by rw [n3 4 (by decide) (by decide), k1]
    have N3 : N 3 1 = I 3 1 + n.toNat := by rw [n3 3 (by decide) (by decide), k3]
    refine hQ N ⟨h0, sr_misc_cg hm (jN 0 (by decide)) (jN 25 (by decide)) (by rw [kN 29 (by decide) (by decide) (by decide) (by decide)]) (jN 6 (by decide)), sr_tape_cg ht (by rw [kN 1 (by decide) (by decide) (by decide) (by decide)]) (kN 2 (by decide) (by decide) (by decide) (by decide)) (kN 60 (by decide) (by decide) (by decide) (by decide)) (jN 2 (by decide)), sr_rule_cg hru (kN 8 (by decide) (by decide) (by decide) (by decide)) (kN 61 (by decide) (by decide) (by decide) (by decide)), ⟨?_, ?_, ?_, ?_⟩, sr_prog_cg hc hp (fun c x => by rcases hc with rfl | rfl <;> exact kN c (by omega) (by omega) (by omega) (by omega)) (fun c x => kN c (by omega) (by omega) (by omega) (by omega)) (jN 7 (by decide)), sr_run_cg hrn (by rw [kN 34 (by decide) (by decide) (by decide) (by decide)]) (kN 44 (by decide) (by decide) (by decide) (by decide)) (fun j x => jN j (by omega)), sr_note_cg hn (by rw [kN 5 (by decide) (by decide) (by decide) (by decide)]) (kN 6 (by decide) (by decide) (by decide) (by decide)) (kN 90 (by decide) (by decide) (by decide) (by decide)) (jN 58 (by decide)), sr_kept_cg hk (by rcases hc with rfl | rfl <;> exact kN _ (by omega) (by omega) (by omega) (by omega)) (fun c x => kN c (by omega) (by omega) (by omega) (by omega)) (fun c x => kN c (by omega) (by omega) (by omega) (by omega)) (jN 7 (by decide)) (jN 59 (by decide)) (jN 60 (by decide)) rfl⟩
    · rw [n1, N4, k2 62 (by decide) (by decide), k59, hb.1, hb.2.1]
    · rw [n4, N3, k59, hb.2.1]
    · rw [N3]; have := hb.2.2.1; omega
    · rw [N3, N4]
      exact fun i a b => sr_ub_b v hb.2.2.1.1 hb.2.2.2 n.toNat i a b
theorem sr_notec (h : sr_R cu sp I L) (i : Int) (hi : sk_in i) : AW l E 100 0 0 mX9_note 0 [some (vr 0), some (vi i)] [] sk_G (I, L, sk_J cu sp io rp tp fp) (sr_P l E mX10_note [some (vr 59), some (vi i)]) := by
  have hn := h.2.2.2.2.2.2.2.1
  have hm := h.2.1
  refine c_K_note (d := 99) i hi hn.2.1.1 hn.2.1.2 (fun z y => ?_) (fun z => ?_)
  · refine ⟨_, I, L, cu, sp, io, rp, tp, fp, rfl, rfl, rfl, fun Q' hQ => ?_⟩
    refine c_M_note (d := 99) i hi hm.1 (by rw [hn.1]; exact hn.2.1.1) (by rw [hn.1]; exact hn.2.1.2) (fun _ _ => ?_) (fun w => absurd ⟨z, by rw [hn.1]; exact y⟩ w)
    rw [hn.2.2 i z y]
    exact hQ I h
  · refine ⟨_, I, L, cu, sp, io, rp, tp, fp, rfl, rfl, rfl, fun Q' hQ => ?_⟩
    exact c_M_note (d := 99) i hi hm.1 (by rw [hn.1]; exact hn.2.1.1) (by rw [hn.1]; exact hn.2.1.2) (fun a b => absurd ⟨a, by rw [← hn.1]; exact b⟩ z) (fun _ => hQ I h)
theorem sr_ranc (h : sr_R cu sp I L) (w : Int) (hw : sk_in w) : AW l E 100 0 0 mX9_ran 0 [some (vr 0), some (vi w)] [] sk_G (I, L, sk_J cu sp io rp tp fp) (sr_P l E mX10_ran [some (vr 59), some (vi w)]) := by
  have hn := h.2.2.2.2.2.2.1
  have hm := h.2.1
  have mr := fun Q' => c_M_ran (l := l) (E := E) (d := 99) (I := I) (L := L) (cu := cu) (sp := sp) (io := io) (rp := rp) (tp := tp) (fp := fp) (Q := Q') w hw hm.1 (by rw [← hn.1]; exact hn.2.1)
  refine c_K_ran (d := 99) w hw hn.2.1 (fun z => ?_) (fun z1 z2 z3 => ?_) (fun z1 z2 z3 => ?_)
  · refine ⟨_, I, L, cu, sp, io, rp, tp, fp, rfl, rfl, rfl, fun Q' hQ => ?_⟩
    exact mr Q' (fun _ => hQ I h) (fun a b => absurd ⟨a, b⟩ z) (fun _ v hv => absurd (show 0 ≤ w ∧ w < 8 by omega) z)
  · refine ⟨_, I, L, cu, sp, io, rp, tp, fp, rfl, rfl, rfl, fun Q' hQ => ?_⟩
    exact mr Q' (fun y => absurd ⟨z1, z2⟩ y) (fun _ _ _ => hQ I h) (fun y => by rw [← hn.1] at y; omega)
  · refine ⟨_, I, L, cu, sp, io, rp, tp, fp, rfl, rfl, rfl, fun Q' hQ => ?_⟩
    obtain ⟨r0, r1, r2, r3, r4, r5, r6, r7⟩ := hn.2.2 z3
    refine mr Q' (fun y => absurd ⟨z1, z2⟩ y) (fun _ _ y => by rw [← hn.1] at y; omega) (fun _ v hv => ?_)
    have e : v = I 44 w := by
      rcases hv with ⟨rfl, rfl⟩ | ⟨rfl, rfl⟩ | ⟨rfl, rfl⟩ | ⟨rfl, rfl⟩ | ⟨rfl, rfl⟩ | ⟨rfl, rfl⟩ | ⟨rfl, rfl⟩ | ⟨rfl, rfl⟩ <;> assumption
    rw [e]
    exact hQ I h
theorem sr_countc (h : sr_R cu sp I L) (w : Int) (hw : sk_in w) : AW l E 100 0 0 mX9_count 0 [some (vr 0), some (vi w)] [] sk_G (I, L, sk_J cu sp io rp tp fp) (sr_P l E mX10_count [some (vr 59), some (vi w), none, none]) := by
  have hm := h.2.1
  have ht := h.2.2.1
  have hr := h.2.2.2.1
  have hb := h.2.2.2.2.1
  have hn := h.2.2.2.2.2.2.2.1
  have in8 : ∀ i, 0 ≤ i → i < 64 → sk_in (I 8 i) := fun i a b => by
    have := hr.2 i a b
    unfold sk_in
    omega
  have mc := fun Q' => c_M_count (l := l) (E := E) (d := 99) (I := I) (L := L) (cu := cu) (sp := sp) (io := io) (rp := rp) (tp := tp) (fp := fp) (Q := Q') w hw hm.1 (by rw [hr.1]; exact in8)
  refine c_K_count (d := 99) w hw in8 (fun z => ?_) (fun z => ?_) (fun z => ?_) (fun z => ?_) (fun z => ?_)
  · refine ⟨_, I, L, cu, sp, io, rp, tp, fp, rfl, rfl, rfl, fun Q' hQ => ?_⟩
    exact mc Q' (fun _ => by rw [← ht.2.1]; exact hQ I h) (fun y => by omega) (fun y => by omega) (fun y => by omega) (fun y => by omega)
  · refine ⟨_, I, L, cu, sp, io, rp, tp, fp, rfl, rfl, rfl, fun Q' hQ => ?_⟩
    exact mc Q' (fun y => by omega) (fun _ => by rw [hb.2.1]; exact hQ I h) (fun y => by omega) (fun y => by omega) (fun y => by omega)
  · refine ⟨_, I, L, cu, sp, io, rp, tp, fp, rfl, rfl, rfl, fun Q' hQ => ?_⟩
    exact mc Q' (fun y => by omega) (fun y => by omega) (fun _ => by rw [hn.1]; exact hQ I h) (fun y => by omega) (fun y => by omega)
  · refine ⟨_, I, L, cu, sp, io, rp, tp, fp, rfl, rfl, rfl, fun Q' hQ => ?_⟩
    exact mc Q' (fun y => by omega) (fun y => by omega) (fun y => by omega) (fun _ => by rw [hr.1]; exact hQ I h) (fun y => by omega)
  · refine ⟨_, I, L, cu, sp, io, rp, tp, fp, rfl, rfl, rfl, fun Q' hQ => ?_⟩
    exact mc Q' (fun y => by omega) (fun y => by omega) (fun y => by omega) (fun y => by omega) (fun _ => hQ I h)
end SKK2
