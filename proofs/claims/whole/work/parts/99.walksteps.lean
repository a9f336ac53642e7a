/-! ===== Foresight.walkStep: the steps with blocks ===== -/
def sf_BC (l : Launch) (E : sk_En) (cu sp io rp tp p : Nat) (C : sk_SI) (D : Int → Int) (rm : Int) (rT : sk_Tb) (Go : sk_Or) (wk : Int) (n : Nat) : Prop := ∀ (d : Nat) (T : sk_Tb) (s dp : Int) (I : sk_SI) (L : sk_SL) (TT : Int → sk_Tb) (Q : Option sk_V → List sk_Sh → sk_St → Prop), (0 ≤ dp ∧ dp ≤ 11) → 60 ≤ (d : Int) + 5 * dp → sk_t8 T → sk_ht (L 56) (dp * 8) T → (s = -1 ∨ (0 ≤ s ∧ s < C p 10 ∧ D s = dp + 1)) → sk_fue n s → sf_iv p C rm rT Go wk I L TT → (I 48 14 = 0 → sf_hx p C rm rT (sk_VB p C Go n T s)) → (∀ v I' L' TT', sf_po p C rm rT Go wk dp I L TT (sk_WB p C Go n T s) (sk_VB p C Go n T s) v I' L' TT' → Q (some (vi v)) sk_G (I', L', sk_J cu sp io rp tp p)) → AW l E d 0 0 mX0_walkBlock 0 [some (vr 48), some (vi s), some (vi dp), none, none, none] [] sk_G (I, L, sk_J cu sp io rp tp p) Q
theorem sf_vs_self {p : Nat} {C : sk_SI} {wk s : Int} {I : sk_SI} {L : sk_SL} {TT : Int → sk_Tb} {T : sk_Tb} (hs : 0 ≤ s ∧ s < C p 10) (h0 : C (p + 3) s ≠ 0) (h1 : C (p + 3) s ≠ 1) (h57 : I 57 s = 1) : sf_vs p C wk I L TT s T := ⟨hs, h57, fun z => absurd z h0, fun z => absurd z h1⟩
theorem sf_bT_8 {p : Nat} {C : sk_SI} {s : Int} {T : sk_Tb} (hT : sk_t8 T) (ho : 0 ≤ C (p + 1) (C (p + 4) s) ∧ C (p + 1) (C (p + 4) s) ≤ 7) : sk_t8 (sk_bT p C s T) := by
  intro r r0 r1
  have := hT r r0 r1
  unfold sk_bT
  rw [if_pos ⟨r0, r1⟩]
  split
  · split
    · omega
    · split
      · split <;> omega
      · exact this
  · exact this
theorem sk_fue_n {n : Nat} {s u N : Int} (h : sk_fue (n + 1) s) (hs : 0 ≤ s ∧ s < N) (hN : N ≤ 200) (hu : u = -1 ∨ (s < u ∧ u < N)) : sk_fue n u := by
  have := h.2 hs.1
  unfold sk_fue
  refine ⟨by omega, fun _ => by omega⟩
section SKFb
variable {l : Launch} {E : sk_En} {d : Nat} {I : sk_SI} {L : sk_SL} {cu sp io rp tp p : Nat} {Q : Option sk_V → List sk_Sh → sk_St → Prop} {TT : Int → sk_Tb} {C : sk_SI} {D : Int → Int} {rm wk : Int} {rT : sk_Tb} {Go : sk_Or} {n : Nat}
theorem c_F_inner (hB : sf_BC l E cu sp io rp tp p C D rm rT Go wk n) (T : sk_Tb) (hT : sk_t8 T) (u dp : Int) (hu : u = -1 ∨ (0 ≤ u ∧ u < C p 10 ∧ D u = dp + 2)) (hf : sk_fue n u) (hd : 0 ≤ dp ∧ dp ≤ 10) (hdd : 55 ≤ (d : Int) + 5 * dp) (hL : sk_ht (L 56) (dp * 8) T) (hI : sf_iv p C rm rT Go wk I L TT) (hx : I 48 14 = 0 → sf_hx p C rm rT (sk_VB p C Go n T u)) (hq : ∀ v I' L' TT', sf_po p C rm rT Go wk dp I L TT (sk_WB p C Go n T u) (sk_VB p C Go n T u) v I' L' TT' → Q (some (vi v)) sk_G (I', L', sk_J cu sp io rp tp p)) : AW l E (d + 1) 0 0 mX0_walkInner 0 [some (vr 48), some (vi u), some (vi dp)] [] sk_G (I, L, sk_J cu sp io rp tp p) Q := by
  obtain ⟨k, rfl⟩ : ∃ k, d = k + 1 := ⟨d - 1, by omega⟩
  obtain ⟨g1, g2⟩ := sk_ht_cp hL
  have e53 : sk_cL L 56 (sk_cp (L 56) (L 56) (dp * 8) (dp * 8 + 8) 8) 53 = L 53 := rfl
  have e50 : sk_cL L 56 (sk_cp (L 56) (L 56) (dp * 8) (dp * 8 + 8) 8) 50 = L 50 := rfl
  generalize hL1 : sk_cL L 56 (sk_cp (L 56) (L 56) (dp * 8) (dp * 8 + 8) 8) = L1 at *
  rw [show dp * 8 + 8 = (dp + 1) * 8 by omega] at g1
  have b := fun Q' h => hB (k + 1) T u (dp + 1) I L1 TT Q' (by omega) (by omega) hT g1 (by omega) hf (sf_iv_L hI e50) hx h
  have gL : sf_gr dp I L TT I L1 TT := sf_gr_L e53 (fun i hi => g2 i (by omega))
  refine AW_run 80 rfl ?_
  refine AW_cV (M' := mX0_copyDown) rfl kkX0_129 lcX0_copyDown rfl rfl rfl rfl rfl rfl (Nat.le_refl _) ?_
  refine c_F_copy dp (by omega) ?_
  rw [hL1]
  refine AW_run 80 rfl ?_
  refine AW_cV (M' := mX0_walkBlock) rfl kkX0_96 lcX0_walkBlock rfl rfl rfl rfl rfl rfl (Nat.le_refl _) ?_
  refine b _ (fun v I' L' TT' h => ?_)
  have hq := hq v I' L' TT' ⟨h.1, sf_gr_tr hI.2.1.1.1.1 gL (sf_gr_dn (by omega) h.2.1), h.2.2⟩
  refine AW_run 80 rfl ?_
  exact AW_iret rfl rfl hq
/-- lend, cut -/
theorem c_F_s2 (hp : sk_pg p) (hv : sk_pv p D C) (hr : sk_ru C) (hB : sf_BC l E cu sp io rp tp p C D rm rT Go wk n) (T : sk_Tb) (hT : sk_t8 T) (s dp : Int) (hs : 0 ≤ s ∧ s < C p 10) (hD : D s = dp + 1) (hf : sk_fue (n + 1) s) (hd : 0 ≤ dp ∧ dp ≤ 11) (hdd : 55 ≤ (d : Int) + 5 * dp) (hw : C (p + 3) s = 2 ∨ C (p + 3) s = 3) (hL : sk_ht (L 56) (dp * 8) T) (hI : sf_iv p C rm rT Go wk I L TT) (h57 : I 57 s = 1) (hx : I 48 14 = 0 → sf_hx p C rm rT (sf_sV p C Go n T s)) (hq : ∀ v I' L' TT', sf_po p C rm rT Go wk dp I L TT (sk_WS p C Go (sk_WB p C Go n) T s) (sf_sV p C Go n T s) v I' L' TT' → Q (some (vi v)) sk_G (I', L', sk_J cu sp io rp tp p)) : AW l E (d + 1) 0 0 mX0_walkStep 110 [some (vr 48), some (vi s), some (vi dp)] [] sk_G (I, L, sk_J cu sp io rp tp p) Q := by
  obtain ⟨w1, -, -, -, w6, -, -, w8, w9⟩ := sf_wf hv hs
  have w9 := w9 (by omega)
  have v10 := hv.2.1
  obtain ⟨k, rfl⟩ : ∃ k, d = k + 2 := ⟨d - 2, by omega⟩
  obtain ⟨g1, g2⟩ := sk_ht_cp hL
  have e53 : sk_cL L 56 (sk_cp (L 56) (L 56) (dp * 8) (dp * 8 + 8) 8) 53 = L 53 := rfl
  have e50 : sk_cL L 56 (sk_cp (L 56) (L 56) (dp * 8) (dp * 8 + 8) 8) 50 = L 50 := rfl
  generalize hL1 : sk_cL L 56 (sk_cp (L 56) (L 56) (dp * 8) (dp * 8 + 8) 8) = L1 at *
  rw [show dp * 8 + 8 = (dp + 1) * 8 by omega] at g1
  have gL : sf_gr dp I L TT I L1 TT := sf_gr_L e53 (fun i hi => g2 i (by omega))
  have iL := sf_iv_L hI e50
  have hv' : sk_pv p D I := sk_pv_cg hv (fun k hk => sf_fr_p hp hI.1 k hk)
  have e0 : I p = C p := sf_fr_p hp hI.1 0 (by omega)
  have e3 := sf_fr_p hp hI.1 3 (by omega)
  have e8 := sf_fr_p hp hI.1 8 (by omega)
  have f8 : I (p + 8) s = C (p + 8) s := by rw [e8]
  have hr' : sk_ru I := by intro i a b; rw [sf_fr_8 hI.1]; exact hr i a b
  have ow : 0 ≤ C (p + 1) (C (p + 4) s) ∧ C (p + 1) (C (p + 4) s) ≤ 7 := by
    obtain ⟨-, m2, -⟩ := hv.2.2.1 s hs.1 hs.2
    exact (hv.2.2.2.1 _ m2.1 m2.2).1
  have en := fun Q' h => c_F_enter (l := l) (E := E) (d := k) (I := I) (L := L1) (cu := cu) (sp := sp) (io := io) (rp := rp) (tp := tp) (Q := Q') hp hv' hr' s (dp + 1) (by omega) (by rw [e0]; exact hs) (by rw [e3]; exact hw) T hT g1 h
  rw [sf_bT_e hp hI.1] at en
  have hW : ∀ x, sk_WS p C Go (sk_WB p C Go n) T s x ↔ sk_WB p C Go n (sk_bT p C s T) (C (p + 8) s) x := by
    intro x
    unfold sk_WS
    rw [if_neg (by omega), if_neg (by omega), if_pos hw]
  have hV : ∀ t T', sf_sV p C Go n T s t T' ↔ ((t = s ∧ T' = T) ∨ sk_VB p C Go n (sk_bT p C s T) (C (p + 8) s) t T') := by
    intro t T'
    unfold sf_sV sk_VS
    rw [if_pos hw]
  have wb : ∀ L2, sk_ht (L2 56) ((dp + 1) * 8) (sk_bT p C s T) → sk_lfr ((dp + 1) * 8) L1 L2 → AW l E (k + 2) 0 0 mX0_walkBlock 0 [some (vr 48), some (vi (I (p + 8) s)), some (vi (dp + 1)), none, none, none] [] sk_G (I, L2, sk_J cu sp io rp tp p) (fun v G' σ' => AW l E (k + 2 + 1) 0 0 mX0_walkStep 139 [some (vr 48), some (vi s), some (vi dp)] (v.toList ++ []) G' σ' Q) := by
    intro L2 q1 q2
    have i2 := sf_iv_L iL (q2.1 50 (by decide))
    have gg : sf_gr dp I L TT I L2 TT := sf_gr_tr hI.2.1.1.1.1 gL (sf_gr_L (q2.1 53 (by decide)) (fun i hi => q2.2 i (by omega)))
    rw [f8]
    refine hB (k + 2) (sk_bT p C s T) (C (p + 8) s) (dp + 1) I L2 TT _ (by omega) (by omega) (sf_bT_8 hT ow) q1 (by omega) (sk_fue_n hf hs v10.2 (by omega)) i2 (fun z => sf_hx_mono (hx z) (fun t T' y => (hV t T').mpr (Or.inr y))) (fun v I' L' TT' h => ?_)
    have gt := sf_gr_tr hI.2.1.1.1.1 gg (sf_gr_dn (show dp ≤ dp + 1 by omega) h.2.1)
    have hq := hq v I' L' TT' ⟨h.1, gt, h.2.2.1, fun z => ⟨fun x => by rw [hW x]; exact (h.2.2.2 z).1 x, fun t T' y => by
      rcases (hV t T').mp y with ⟨rfl, rfl⟩ | y
      · exact sf_vs_self hs (by omega) (by omega) ((gt.2.2.2.1 _).1 h57)
      · exact (h.2.2.2 z).2 t T' y⟩⟩
    exact AW_iret rfl rfl hq
  have hs2 : 0 ≤ s ∧ s < 200 := by omega
  clear hq hx hW hV hB iL gL g1 g2 hL
  rcases hp with rfl | rfl <;>
  · refine AW_run 80 rfl ?_
    refine AW_cV (M' := mX0_copyDown) rfl kkX0_129 lcX0_copyDown rfl rfl rfl rfl rfl rfl (Nat.le_refl _) ?_
    refine c_F_copy dp hd ?_
    rw [hL1]
    refine AW_run 80 rfl ?_
    refine AW_cV (M' := mX0_enterBlock) rfl kkX0_132 lcX0_enterBlock rfl rfl rfl rfl rfl rfl (Nat.le_refl _) ?_
    refine en _ (fun L2 q1 q2 => ?_)
    have wb := wb L2 q1 q2
    refine AW_run 80 rfl ?_
    refine AW_iald rfl rfl ⟨by omega, by omega⟩ (by decide) ?_
    refine AW_run 80 rfl ?_
    refine AW_cV (M' := mX0_walkBlock) rfl kkX0_96 lcX0_walkBlock rfl rfl rfl rfl rfl rfl (Nat.le_refl _) ?_
    exact wb
end SKFb
