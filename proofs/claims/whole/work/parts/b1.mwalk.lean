/-! ===== SealKeeperModel.walkStep, walk ===== -/
section SKG6
variable {l : Launch} {E : sk_En} {d : Nat} {I I0 I1 : sk_SI} {L : sk_SL} {cu sp io rp tp fp p : Nat} {Q : Option sk_V → List sk_Sh → sk_St → Prop} {TT : Int → sk_Tb} {C : sk_SI} {D : Int → Int} {rm : Int} {rT : sk_Tb} {Go : sk_Or} {n : Nat}
theorem c_M_wdisp (s dp : Int) (hs : 0 ≤ s ∧ s < 200) (h71 : I 59 71 = 0 ∨ I 59 71 = 1) (h98 : I 98 s = 0 ∨ I 98 s = 1) (hw : 0 ≤ I 67 s ∧ I 67 s ≤ 12) (t : Nat) (ht : ([116, 167, 293, 293, 487, 487, 487, 313, 368, 485, 400, 443, 487] : List Nat)[(I 67 s).toNat]? = some t) (k : ∀ nv, ((nv = 1 ∧ (I 59 71 = 1 ∨ I 98 s = 0)) ∨ (nv = 0 ∧ I 59 71 = 0 ∧ I 98 s = 1)) → AW l E d 0 0 mX10_walkStep t [some (vr 59), some (vi s), some (vi dp), some (vi (10 * I 69 s + I 70 s)), none, none, none] [] sk_G (sk_uI (sk_uI I 59 71 nv) 98 s 1, L, sk_J cu sp io rp tp fp) Q) : AW l E d 0 0 mX10_walkStep 0 [some (vr 59), some (vi s), some (vi dp), none, none, none, none] [] sk_G (I, L, sk_J cu sp io rp tp fp) Q := by
  have o1 : (1 : Int) = 0 ∨ (1 : Int) = 1 := Or.inr rfl
  have iw : sk_in (I 67 s) := by unfold sk_in; omega
  have sw : ∀ nv, ((nv = 1 ∧ (I 59 71 = 1 ∨ I 98 s = 0)) ∨ (nv = 0 ∧ I 59 71 = 0 ∧ I 98 s = 1)) → AW l E d 0 0 mX10_walkStep 55 [some (vr 59), some (vi s), some (vi dp), some (vi (10 * I 69 s + I 70 s)), none, none, none] [vi (I 67 s)] sk_G (sk_uI (sk_uI I 59 71 nv) 98 s 1, L, sk_J cu sp io rp tp fp) Q := by
    intro nv hnv
    have k := k nv hnv
    by_cases e : I 67 s = 12
    · rw [e] at ht
      have : t = 487 := by
        have : (some 487 : Option Nat) = some t := ht
        cases this
        rfl
      subst this
      exact AW_tout rfl (Or.inr (by omega)) iw k
    · refine AW_tin (I 67 s).toNat rfl (by omega) (t := t) ?_ iw k
      have lt : (I 67 s).toNat < 12 := by omega
      generalize (I 67 s).toNat = i at *
      rcases (show i = 0 ∨ i = 1 ∨ i = 2 ∨ i = 3 ∨ i = 4 ∨ i = 5 ∨ i = 6 ∨ i = 7 ∨ i = 8 ∨ i = 9 ∨ i = 10 ∨ i = 11 by omega) with rfl | rfl | rfl | rfl | rfl | rfl | rfl | rfl | rfl | rfl | rfl | rfl <;> exact ht
  clear k
  refine AW_run 80 rfl ?_
  refine AW_ifne rfl (fun g3 => ?_) (fun g3 => ?_) (by unfold sk_in; omega)
  · have sw := sw 1 (by omega)
    refine AW_run 80 rfl ?_
    refine AW_putZ rfl rfl (Or.inr rfl) ?_
    refine AW_run 80 rfl ?_
    refine AW_zast rfl rfl ⟨by omega, by omega⟩ (by decide) (o1) ?_
    refine AW_run 80 rfl ?_
    refine AW_iald rfl rfl ⟨by omega, by omega⟩ (by decide) ?_
    refine AW_run 80 rfl ?_
    refine AW_iald rfl rfl ⟨by omega, by omega⟩ (by decide) ?_
    refine AW_run 80 rfl ?_
    refine AW_iald rfl rfl ⟨by omega, by omega⟩ (by decide) ?_
    exact sw
  · refine AW_run 80 rfl ?_
    refine AW_zald rfl rfl ⟨by omega, by omega⟩ (by decide) ?_
    refine AW_ifne rfl (fun g4 => ?_) (fun g4 => ?_) (by unfold sk_in; omega)
    · have sw := sw 0 (by omega)
      refine AW_run 80 rfl ?_
      refine AW_putZ rfl rfl (Or.inl rfl) ?_
      refine AW_run 80 rfl ?_
      refine AW_zast rfl rfl ⟨by omega, by omega⟩ (by decide) (o1) ?_
      refine AW_run 80 rfl ?_
      refine AW_iald rfl rfl ⟨by omega, by omega⟩ (by decide) ?_
      refine AW_run 80 rfl ?_
      refine AW_iald rfl rfl ⟨by omega, by omega⟩ (by decide) ?_
      refine AW_run 80 rfl ?_
      refine AW_iald rfl rfl ⟨by omega, by omega⟩ (by decide) ?_
      exact sw
    · have sw := sw 1 (by omega)
      refine AW_run 80 rfl ?_
      refine AW_putZ rfl rfl (Or.inr rfl) ?_
      refine AW_run 80 rfl ?_
      refine AW_zast rfl rfl ⟨by omega, by omega⟩ (by decide) (o1) ?_
      refine AW_run 80 rfl ?_
      refine AW_iald rfl rfl ⟨by omega, by omega⟩ (by decide) ?_
      refine AW_run 80 rfl ?_
      refine AW_iald rfl rfl ⟨by omega, by omega⟩ (by decide) ?_
      refine AW_run 80 rfl ?_
      refine AW_iald rfl rfl ⟨by omega, by omega⟩ (by decide) ?_
      exact sw
theorem c_M_wstep (hv : sk_pv p D C) (hr : sk_ru C) (hpl : ∀ s, 0 ≤ s → s < C p 10 → C (p + 3) s ≠ 4 ∧ C (p + 3) s ≠ 5 ∧ C (p + 3) s ≠ 6) (h1 : sk_q1 p C I0) (hB : sg_BC l E L cu sp io rp tp fp p C D rm rT Go I0 n) (T : sk_Tb) (hT : sk_t8 T) (s dp : Int) (hs : 0 ≤ s ∧ s < C p 10) (hD : D s = dp + 1) (hf : sk_fue (n + 1) s) (hd : 0 ≤ dp ∧ dp ≤ 11) (hdd : 37 ≤ (d : Int) + 3 * dp) (hL : sg_ht (I 96) (80 * dp) T) (hI : sg_iv p C rm rT Go I0 I TT) (hx : I 59 70 = 0 → sf_hx p C rm rT (sf_sV p C Go n T s)) (hq : ∀ v I' TT', sg_po p C rm rT Go I0 dp I TT (sk_WS p C Go (sk_WB p C Go n) T s) (sf_sV p C Go n T s) v I' TT' → Q (some (vi v)) sk_G (I', L, sk_J cu sp io rp tp fp)) : AW l E (d + 1) 0 0 mX10_walkStep 0 [some (vr 59), some (vi s), some (vi dp), none, none, none, none] [] sk_G (I, L, sk_J cu sp io rp tp fp) Q := by
  obtain ⟨w1, -⟩ := sf_wf hv hs
  have pl := hpl s hs.1 hs.2
  have v10 := hv.2.1
  obtain ⟨f67, f68, f69, f70, f71, f72, f73⟩ := (sg_q1 h1 hI.1).2.1 s hs.1 hs.2
  have dis := fun (t : Nat) ht k => c_M_wdisp (l := l) (E := E) (d := d + 1) (I := I) (L := L) (cu := cu) (sp := sp) (io := io) (rp := rp) (tp := tp) (fp := fp) (Q := Q) s dp (by omega) hI.2.2.2.1 (hI.2.1.2.2 s hs.1 (by omega)).1 (by rw [f67]; exact w1) t ht k
  have hri : 10 * I 69 s + I 70 s = 10 * C (p + 5) s + C (p + 6) s := by rw [f69, f70]
  rw [f67, hri] at dis
  have pre : ∀ nv, ((nv = 1 ∧ (I 59 71 = 1 ∨ I 98 s = 0)) ∨ (nv = 0 ∧ I 59 71 = 0 ∧ I 98 s = 1)) → ∃ I1, sk_uI (sk_uI I 59 71 nv) 98 s 1 = I1 ∧ sg_iv p C rm rT Go I0 I1 TT ∧ sg_ht (I1 96) (80 * dp) T ∧ I1 98 s = 1 ∧ (I1 59 70 = 0 → sf_hx p C rm rT (sf_sV p C Go n T s)) ∧ ∀ v I' TT', sg_po p C rm rT Go I0 dp I1 TT (sk_WS p C Go (sk_WB p C Go n) T s) (sf_sV p C Go n T s) v I' TT' → Q (some (vi v)) sk_G (I', L, sk_J cu sp io rp tp fp) := by
    intro nv hnv
    obtain ⟨i1, g1⟩ := sg_iv_98 (dp := dp) hI (s := s) (nv := nv) (by omega) hnv (fun z A G P O hc => (hx z A G P O hc s T (Or.inl ⟨rfl, rfl⟩)).1)
    refine ⟨_, rfl, i1, ?_, by rw [sk_uI_s, sk_up_s], fun z => hx (sg_70 hI.2.2.1 g1 z), fun v I' TT' h => hq v I' TT' ⟨h.1, sg_gr_tr hI.2.1.1.1.1 i1.2.2.2.1 g1 h.2.1, h.2.2⟩⟩
    rw [sk_uI_o (by decide), sk_uI_o (by decide)]
    exact hL
  clear hq hx hI
  have lt : C (p + 3) s = 0 ∨ C (p + 3) s = 1 ∨ C (p + 3) s = 2 ∨ C (p + 3) s = 3 ∨ C (p + 3) s = 7 ∨ C (p + 3) s = 8 ∨ C (p + 3) s = 10 ∨ C (p + 3) s = 11 ∨ C (p + 3) s = 12 ∨ C (p + 3) s = 9 := by omega
  rcases lt with e | e | e | e | e | e | e | e | e | e
  · refine dis 116 (by rw [e]; rfl) (fun nv hnv => ?_)
    obtain ⟨I1, eI, i1, l1, h98, hx, q1⟩ := pre nv hnv
    rw [eI]
    exact c_M_s0 hv h1 n T hT s dp _ hs hd e rfl l1 i1 h98 hx q1
  · refine dis 167 (by rw [e]; rfl) (fun nv hnv => ?_)
    obtain ⟨I1, eI, i1, l1, h98, hx, q1⟩ := pre nv hnv
    rw [eI]
    exact c_M_s1 hv hr h1 n T hT s dp _ hs hd e l1 i1 h98 hx q1
  · refine dis 293 (by rw [e]; rfl) (fun nv hnv => ?_)
    obtain ⟨I1, eI, i1, l1, h98, hx, q1⟩ := pre nv hnv
    rw [eI]
    exact c_M_s2 hv hr h1 hB T hT s dp _ hs hD hf hd hdd (Or.inl e) l1 i1 h98 hx q1
  · refine dis 293 (by rw [e]; rfl) (fun nv hnv => ?_)
    obtain ⟨I1, eI, i1, l1, h98, hx, q1⟩ := pre nv hnv
    rw [eI]
    exact c_M_s2 hv hr h1 hB T hT s dp _ hs hD hf hd hdd (Or.inr e) l1 i1 h98 hx q1
  · refine dis 313 (by rw [e]; rfl) (fun nv hnv => ?_)
    obtain ⟨I1, eI, i1, l1, h98, hx, q1⟩ := pre nv hnv
    rw [eI]
    exact c_M_s7 hv h1 hB T hT s dp _ hs hD hf hd hdd e l1 i1 h98 hx q1
  · refine dis 368 (by rw [e]; rfl) (fun nv hnv => ?_)
    obtain ⟨I1, eI, i1, l1, h98, hx, q1⟩ := pre nv hnv
    rw [eI]
    exact c_M_s8 hv h1 hB T hT s dp _ hs hD hf hd hdd e l1 i1 h98 hx q1
  · refine dis 400 (by rw [e]; rfl) (fun nv hnv => ?_)
    obtain ⟨I1, eI, i1, l1, h98, hx, q1⟩ := pre nv hnv
    rw [eI]
    exact c_M_s10 hv h1 hB T hT s dp _ hs hD hf hd hdd e rfl l1 i1 h98 hx q1
  · refine dis 443 (by rw [e]; rfl) (fun nv hnv => ?_)
    obtain ⟨I1, eI, i1, l1, h98, hx, q1⟩ := pre nv hnv
    rw [eI]
    exact c_M_s11 hv h1 hB T hT s dp _ hs hD hf hd hdd e l1 i1 h98 hx q1
  · refine dis 487 (by rw [e]; rfl) (fun nv hnv => ?_)
    obtain ⟨I1, eI, i1, l1, h98, hx, q1⟩ := pre nv hnv
    rw [eI]
    have q1 := q1 2 I1 TT ⟨i1, sg_gr_rf _ _ _, by omega, fun _ => ⟨fun x => by
      unfold sk_WS
      rw [if_neg (by omega), if_neg (by omega), if_neg (by omega), if_neg (by omega), if_neg (by omega), if_neg (by omega), if_neg (by omega), if_pos (by omega), sg_v_2], fun t T' y => by
      unfold sf_sV sk_VS at y
      rw [if_neg (by omega), if_neg (by omega), if_neg (by omega), if_neg (by omega), if_neg (by omega)] at y
      rcases y with ⟨rfl, rfl⟩ | y
      · exact sg_vs_self hs (by omega) (by omega) h98
      · exact y.elim⟩⟩
    refine AW_run 80 rfl ?_
    exact AW_iret rfl rfl q1
  · refine dis 485 (by rw [e]; rfl) (fun nv hnv => ?_)
    obtain ⟨I1, eI, i1, l1, h98, hx, q1⟩ := pre nv hnv
    rw [eI]
    have q1 := q1 1 I1 TT ⟨i1, sg_gr_rf _ _ _, by omega, fun _ => ⟨fun x => by
      unfold sk_WS
      rw [if_neg (by omega), if_neg (by omega), if_neg (by omega), if_neg (by omega), if_neg (by omega), if_neg (by omega), if_neg (by omega), if_neg (by omega), sg_v_1], fun t T' y => by
      unfold sf_sV sk_VS at y
      rw [if_neg (by omega), if_neg (by omega), if_neg (by omega), if_neg (by omega), if_neg (by omega)] at y
      rcases y with ⟨rfl, rfl⟩ | y
      · exact sg_vs_self hs (by omega) (by omega) h98
      · exact y.elim⟩⟩
    refine AW_run 80 rfl ?_
    exact AW_iret rfl rfl q1
def sg_LW (p : Nat) (C : sk_SI) (Go : sk_Or) (n : Nat) (T : sk_Tb) (s sm : Int) : Int → Prop := fun x => (x ≠ 1 ∧ sg_v sm x) ∨ (sg_v sm 1 ∧ sk_WB p C Go n T s x)
def sg_LV (p : Nat) (C : sk_SI) (Go : sk_Or) (n : Nat) (T : sk_Tb) (s sm : Int) : Int → sk_Tb → Prop := fun t T' => sg_v sm 1 ∧ sk_VB p C Go n T s t T'
theorem c_M_wloop (hv : sk_pv p D C) (hr : sk_ru C) (hpl : ∀ s, 0 ≤ s → s < C p 10 → C (p + 3) s ≠ 4 ∧ C (p + 3) s ≠ 5 ∧ C (p + 3) s ≠ 6) (h1q : sk_q1 p C I0) (s0 : Int) : ∀ (n : Nat), (∀ k, k < n → sg_BC l E L cu sp io rp tp fp p C D rm rT Go I0 k) → ∀ (d : Nat) (sm s dp : Int) (T : sk_Tb) (I : sk_SI) (TT : Int → sk_Tb), (0 ≤ sm ∧ sm ≤ 7) → (0 ≤ dp ∧ dp ≤ 11) → 40 ≤ (d : Int) + 3 * dp → sk_t8 T → sg_ht (I 96) (80 * dp) T → (s = -1 ∨ (0 ≤ s ∧ s < C p 10 ∧ D s = dp + 1)) → sk_fue n s → sg_iv p C rm rT Go I0 I TT → (I 59 70 = 0 → sg_v sm 1 → sf_hx p C rm rT (sk_VB p C Go n T s)) → (∀ v I' TT', sg_po p C rm rT Go I0 dp I TT (sg_LW p C Go n T s sm) (sg_LV p C Go n T s sm) v I' TT' → Q (some (vi v)) sk_G (I', L, sk_J cu sp io rp tp fp)) → AW l E d 0 0 mX10_walk 8 [some (vr 59), some (vi s0), some (vi dp), some (vi sm), some (vi s)] [vi (-1), vi s] sk_G (I, L, sk_J cu sp io rp tp fp) Q
  | 0, _, _, _, _, _, _, _, _, _, _, _, _, _, _, hf, _, _, _ => absurd hf.1 (by omega)
  | n + 1, hB, d, sm, s, dp, T, I, TT, hsm, hd, hdd, hT, hL, hs, hf, hI, hx, hq => by
    have v10 := hv.2.1
    obtain ⟨k, rfl⟩ : ∃ k, d = k + 2 := ⟨d - 2, by omega⟩
    have n0 := hI.2.1.1.1.1
    obtain ⟨t1, t2⟩ := sg_t1 hsm
    have stop : (s < 0 ∨ ¬ sg_v sm 1) → Q (some (vi sm)) sk_G (I, L, sk_J cu sp io rp tp fp) := fun h => hq sm I TT ⟨hI, sg_gr_rf _ _ _, hsm, fun _ => ⟨fun x => by
      unfold sg_LW
      rcases h with h | h
      · unfold sk_WB
        rw [if_pos h]
        constructor
        · intro y
          by_cases e : x = 1
          · subst e; exact Or.inr ⟨y, rfl⟩
          · exact Or.inl ⟨e, y⟩
        · rintro (y | ⟨y, rfl⟩)
          · exact y.2
          · exact y
      · constructor
        · intro y
          exact Or.inl ⟨fun e => h (e ▸ y), y⟩
        · rintro (y | y)
          · exact y.2
          · exact absurd y.1 h, fun t T' y => by
      unfold sg_LV at y
      rcases h with h | h
      · unfold sk_VB at y
        rw [if_pos h] at y
        exact y.2.elim
      · exact absurd y.1 h⟩⟩
    have step : 0 ≤ s → sg_v sm 1 → AW l E (k + 1) 0 0 mX10_walkStep 0 [some (vr 59), some (vi s), some (vi dp), none, none, none, none] [] sk_G (I, L, sk_J cu sp io rp tp fp) (fun v G' σ' => AW l E (k + 2) 0 0 mX10_walk 28 [some (vr 59), some (vi s0), some (vi dp), some (vi sm), some (vi s)] (v.toList ++ [vi (sk_and sm (-2))]) G' σ' Q) := by
      intro h0 h1
      have hs : 0 ≤ s ∧ s < C p 10 ∧ D s = dp + 1 := by omega
      obtain ⟨w1, -, -, -, -, -, w7, -⟩ := sf_wf hv ⟨hs.1, hs.2.1⟩
      have hVB : ∀ t T', sk_VB p C Go (n + 1) T s t T' ↔ (sf_sV p C Go n T s t T' ∨ (sk_WS p C Go (sk_WB p C Go n) T s 1 ∧ sk_VB p C Go n T (C (p + 7) s) t T')) := by
        intro t T'
        unfold sf_sV
        rw [sk_VB]
        dsimp only
        rw [if_neg (show ¬ s < 0 by omega), or_assoc]
      have hWB : ∀ x, sk_WB p C Go (n + 1) T s x ↔ ((x ≠ 1 ∧ sk_WS p C Go (sk_WB p C Go n) T s x) ∨ (sk_WS p C Go (sk_WB p C Go n) T s 1 ∧ sk_WB p C Go n T (C (p + 7) s) x)) := by
        intro x
        rw [sk_WB]
        dsimp only
        rw [if_neg (show ¬ s < 0 by omega)]
      refine c_M_wstep (n := n) hv hr hpl h1q (hB n (by omega)) T hT s dp ⟨hs.1, hs.2.1⟩ hs.2.2 hf hd (by omega) hL hI (fun z => sf_hx_mono (hx z h1) (fun t T' y => (hVB t T').mpr (Or.inl y))) (fun v I1 T1 h => ?_)
      obtain ⟨i1, g1, r1, x1⟩ := h
      obtain ⟨c1, c2⟩ := sg_cl1 hsm
      obtain ⟨o1, o2⟩ := sg_or_b c1 r1
      have g7 : I1 71 s = C (p + 7) s := ((sg_q1 h1q i1.1).2.1 s hs.1 hs.2.1).2.2.2.2.1
      have b1 : I1 59 70 = 0 → (sg_v (sk_or (sk_and sm (-2)) v) 1 ↔ sk_WS p C Go (sk_WB p C Go n) T s 1) := fun z => by
        rw [o2 1, c2 1, (x1 z).1 1]
        exact ⟨fun y => y.elim (fun y => absurd rfl y.1) id, Or.inr⟩
      have nx := c_M_wloop hv hr hpl h1q s0 n (fun k hk => hB k (by omega)) (k + 2) (sk_or (sk_and sm (-2)) v) (I1 71 s) dp T I1 T1 o1 hd hdd hT (sg_ht_cg hL (fun i a b => g1.2.2.2.2.2.1 i (by omega))) (by rw [g7]; omega) (by rw [g7]; exact sk_fue_n hf ⟨hs.1, hs.2.1⟩ v10.2 (by omega)) i1 (fun z y => by
        rw [g7]
        exact sf_hx_mono (hx (sg_70 hI.2.2.1 g1 z) h1) (fun t T' u => (hVB t T').mpr (Or.inr ⟨(b1 z).mp y, u⟩))) (fun v2 I2 T2 h2 => by
        obtain ⟨i2, g2, r2, x2⟩ := h2
        have gt := sg_gr_tr n0 i1.2.2.2.1 g1 g2
        refine hq v2 I2 T2 ⟨i2, gt, r2, fun z => ?_⟩
        have z1 := sg_70 i1.2.2.1 g2 z
        have b1 := b1 z1
        refine ⟨fun x => ?_, fun t T' y => ?_⟩
        · rw [(x2 z).1 x]
          unfold sg_LW
          rw [b1, o2 x, c2 x, (x1 z1).1 x, hWB x, g7]
          constructor
          · rintro (⟨a, ⟨-, b⟩ | b⟩ | b)
            · exact Or.inl ⟨a, b⟩
            · exact Or.inr ⟨h1, Or.inl ⟨a, b⟩⟩
            · exact Or.inr ⟨h1, Or.inr b⟩
          · rintro (a | ⟨-, a | a⟩)
            · exact Or.inl ⟨a.1, Or.inl a⟩
            · exact Or.inl ⟨a.1, Or.inr a.2⟩
            · exact Or.inr a
        · rcases (hVB t T').mp y.2 with u | u
          · exact sg_vs_gr ((x1 z1).2 t T' u) g2
          · exact (x2 z).2 t T' ⟨b1.mpr u.1, by rw [g7]; exact u.2⟩)
      clear hq hx hB stop x1 b1 hVB hWB g1 i1 hI hL hf
      have hs2 : 0 ≤ s ∧ s < 200 := by omega
      refine AW_run 80 rfl ?_
      refine AW_iald rfl rfl ⟨by omega, by omega⟩ (by decide) ?_
      refine AW_run 80 rfl ?_
      exact nx
    clear hq hx hB hf hL
    refine AW_iceq rfl (fun g => ?_) (fun g => ?_) (by unfold sk_in; omega)
    · have stop := stop (Or.inl (by omega))
      refine AW_run 80 rfl ?_
      exact AW_iret rfl rfl stop
    · refine AW_run 80 rfl ?_
      refine AW_ifeq rfl (fun g2 => ?_) (fun g2 => ?_) (by unfold sk_in; omega)
      · have stop := stop (Or.inr (t2.mp g2))
        refine AW_run 80 rfl ?_
        exact AW_iret rfl rfl stop
      · have step := step (by omega) (Classical.byContradiction (fun z => g2 (t2.mpr z)))
        refine AW_run 80 rfl ?_
        refine AW_cV (M' := mX10_walkStep) rfl kkX10_347 lcX10_walkStep rfl rfl rfl rfl rfl rfl (Nat.le_refl _) ?_
        exact step
theorem sg_block (hv : sk_pv p D C) (hr : sk_ru C) (hpl : ∀ s, 0 ≤ s → s < C p 10 → C (p + 3) s ≠ 4 ∧ C (p + 3) s ≠ 5 ∧ C (p + 3) s ≠ 6) (h1q : sk_q1 p C I0) : ∀ n, sg_BC l E L cu sp io rp tp fp p C D rm rT Go I0 n := by
  intro n
  induction n using Nat.strongRecOn with
  | ind n ih =>
    intro d T s dp I TT Q hd hdd hT hL hs hf hI hx hq
    have b1 : sg_v 1 1 := (sg_v_1 1).mpr rfl
    have lp := c_M_wloop (Q := Q) hv hr hpl h1q s n ih d 1 s dp T I TT (by omega) hd hdd hT hL hs hf hI (fun z _ => hx z) (fun v I' TT' h => hq v I' TT' ⟨h.1, h.2.1, h.2.2.1, fun z => ⟨fun x => by
      rw [(h.2.2.2 z).1 x]
      unfold sg_LW
      rw [sg_v_1 x]
      exact ⟨fun y => y.elim (fun y => absurd y.2 y.1) (fun y => y.2), fun y => Or.inr ⟨b1, y⟩⟩, fun t T' y => (h.2.2.2 z).2 t T' ⟨b1, y⟩⟩⟩)
    refine AW_run 80 rfl ?_
    exact lp
end SKG6
