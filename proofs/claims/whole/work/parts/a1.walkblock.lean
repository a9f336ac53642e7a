/-! ===== Foresight.walkStep, walkBlock ===== -/
section SKFd
variable {l : Launch} {E : sk_En} {d : Nat} {I : sk_SI} {L : sk_SL} {cu sp io rp tp p : Nat} {Q : Option sk_V → List sk_Sh → sk_St → Prop} {TT : Int → sk_Tb} {C : sk_SI} {D : Int → Int} {rm wk : Int} {rT : sk_Tb} {Go : sk_Or} {n : Nat}
theorem c_F_disp (hp : sk_pg p) (s dp : Int) (hs : 0 ≤ s ∧ s < 200) (i t : Nat) (hw : I (p + 3) s = 0 + (i : Int)) (ht : ([84, 91, 110, 110, 247, 247, 247, 140, 147, 247, 178, 215, 245] : List Nat)[i]? = some t) (k : AW l E d 0 0 mX0_walkStep t [some (vr 48), some (vi s), some (vi dp)] [] sk_G (sk_uI I 57 s 1, L, sk_J cu sp io rp tp p) Q) : AW l E d 0 0 mX0_walkStep 0 [some (vr 48), some (vi s), some (vi dp)] [] sk_G (I, L, sk_J cu sp io rp tp p) Q := by
  have hi : i < 13 := by
    have := (List.getElem?_eq_some_iff.mp ht).1
    exact this
  have iw : sk_in (I (p + 3) s) := by unfold sk_in; omega
  rcases hp with rfl | rfl <;>
  · refine AW_run 80 rfl ?_
    refine AW_iast rfl rfl ⟨by omega, by omega⟩ (by decide) ?_
    refine AW_run 80 rfl ?_
    refine AW_iald rfl rfl ⟨by omega, by omega⟩ (by decide) ?_
    exact AW_tin i rfl hw ht iw k
theorem c_F_step (hp : sk_pg p) (hv : sk_pv p D C) (hr : sk_ru C) (hB : sf_BC l E cu sp io rp tp p C D rm rT Go wk n) (T : sk_Tb) (hT : sk_t8 T) (s dp : Int) (hs : 0 ≤ s ∧ s < C p 10) (hD : D s = dp + 1) (hf : sk_fue (n + 1) s) (hd : 0 ≤ dp ∧ dp ≤ 11) (hdd : 55 ≤ (d : Int) + 5 * dp) (hL : sk_ht (L 56) (dp * 8) T) (hI : sf_iv p C rm rT Go wk I L TT) (hx : I 48 14 = 0 → sf_hx p C rm rT (sf_sV p C Go n T s)) (hq : ∀ v I' L' TT', sf_po p C rm rT Go wk dp I L TT (sk_WS p C Go (sk_WB p C Go n) T s) (sf_sV p C Go n T s) v I' L' TT' → Q (some (vi v)) sk_G (I', L', sk_J cu sp io rp tp p)) : AW l E (d + 4) 0 0 mX0_walkStep 0 [some (vr 48), some (vi s), some (vi dp)] [] sk_G (I, L, sk_J cu sp io rp tp p) Q := by
  obtain ⟨w1, -⟩ := sf_wf hv hs
  have v10 := hv.2.1
  have e3 : I (p + 3) s = C (p + 3) s := by rw [sf_fr_p hp hI.1 3 (by omega)]
  obtain ⟨i1, g1⟩ := sf_iv_57 (dp := dp) (s := s) hp hI (fun z A G P O hc => (hx z A G P O hc s T (Or.inl ⟨rfl, rfl⟩)).1)
  have h57 : sk_uI I 57 s 1 57 s = 1 := by rw [sk_uI_s, sk_up_s]
  have hx1 : sk_uI I 57 s 1 48 14 = 0 → sf_hx p C rm rT (sf_sV p C Go n T s) := hx
  have q1 : ∀ v I' L' TT', sf_po p C rm rT Go wk dp (sk_uI I 57 s 1) L TT (sk_WS p C Go (sk_WB p C Go n) T s) (sf_sV p C Go n T s) v I' L' TT' → Q (some (vi v)) sk_G (I', L', sk_J cu sp io rp tp p) := fun v I' L' TT' h => hq v I' L' TT' ⟨h.1, sf_gr_tr hI.2.1.1.1.1 g1 h.2.1, h.2.2⟩
  have dis := fun (i t : Nat) hw ht k => c_F_disp (l := l) (E := E) (d := d + 4) (I := I) (L := L) (cu := cu) (sp := sp) (io := io) (rp := rp) (tp := tp) (Q := Q) hp s dp (by omega) i t hw ht k
  clear hq hx hI g1
  generalize hI1 : sk_uI I 57 s 1 = I1 at *
  have lt : C (p + 3) s = 0 ∨ C (p + 3) s = 1 ∨ C (p + 3) s = 2 ∨ C (p + 3) s = 3 ∨ C (p + 3) s = 7 ∨ C (p + 3) s = 8 ∨ C (p + 3) s = 10 ∨ C (p + 3) s = 11 ∨ C (p + 3) s = 12 ∨ C (p + 3) s = 4 ∨ C (p + 3) s = 5 ∨ C (p + 3) s = 6 ∨ C (p + 3) s = 9 := by omega
  have dflt : (C (p + 3) s = 4 ∨ C (p + 3) s = 5 ∨ C (p + 3) s = 6 ∨ C (p + 3) s = 9) → AW l E (d + 4) 0 0 mX0_walkStep 247 [some (vr 48), some (vi s), some (vi dp)] [] sk_G (I1, L, sk_J cu sp io rp tp p) Q := by
    intro h
    have q1 := q1 1 I1 L TT ⟨i1, sf_gr_rf _ _ _ _, by omega, fun _ => ⟨fun x => by
      unfold sk_WS
      rw [if_neg (by omega), if_neg (by omega), if_neg (by omega), if_neg (by omega), if_neg (by omega), if_neg (by omega), if_neg (by omega), if_neg (by omega), sf_b_1], fun t T' y => by
      unfold sf_sV sk_VS at y
      rw [if_neg (by omega), if_neg (by omega), if_neg (by omega), if_neg (by omega), if_neg (by omega)] at y
      rcases y with ⟨rfl, rfl⟩ | y
      · exact sf_vs_self hs (by omega) (by omega) h57
      · exact y.elim⟩⟩
    refine AW_run 80 rfl ?_
    exact AW_iret rfl rfl q1
  rcases lt with e | e | e | e | e | e | e | e | e | e | e | e | e
  · exact dis 0 84 (by omega) rfl (c_F_s0 (d := d + 1) hp hv n T hT s dp hs hd e hL i1 h57 hx1 q1)
  · exact dis 1 91 (by omega) rfl (c_F_s1 (d := d) hp hv hr n T hT s dp hs hd e hL i1 h57 hx1 q1)
  · exact dis 2 110 (by omega) rfl (c_F_s2 (d := d + 3) hp hv hr hB T hT s dp hs hD hf hd (by omega) (Or.inl e) hL i1 h57 hx1 q1)
  · exact dis 3 110 (by omega) rfl (c_F_s2 (d := d + 3) hp hv hr hB T hT s dp hs hD hf hd (by omega) (Or.inr e) hL i1 h57 hx1 q1)
  · refine dis 7 140 (by omega) rfl ?_
    refine AW_run 80 rfl ?_
    refine AW_cV (M' := mX0_walkTry) rfl kkX0_139 lcX0_walkTry rfl rfl rfl rfl rfl rfl (Nat.le_refl _) ?_
    refine c_F_try (d := d + 1) hp hv hB T hT s dp hs hD hf hd (by omega) e hL i1 h57 hx1 (fun v I' L' TT' h => ?_)
    have q1 := q1 v I' L' TT' h
    refine AW_run 80 rfl ?_
    exact AW_iret rfl rfl q1
  · exact dis 8 147 (by omega) rfl (c_F_s8 (d := d + 2) hp hv hB T hT s dp hs hD hf hd (by omega) e hL i1 h57 hx1 q1)
  · exact dis 10 178 (by omega) rfl (c_F_s10 (d := d + 2) hp hv hB T hT s dp hs hD hf hd (by omega) e hL i1 h57 hx1 q1)
  · exact dis 11 215 (by omega) rfl (c_F_s11 (d := d + 2) hp hv hB T hT s dp hs hD hf hd (by omega) e hL i1 h57 hx1 q1)
  · refine dis 12 245 (by omega) rfl ?_
    have q1 := q1 4 I1 L TT ⟨i1, sf_gr_rf _ _ _ _, by omega, fun _ => ⟨fun x => by
      unfold sk_WS
      rw [if_neg (by omega), if_neg (by omega), if_neg (by omega), if_neg (by omega), if_neg (by omega), if_neg (by omega), if_neg (by omega), if_pos (by omega), sf_b_4], fun t T' y => by
      unfold sf_sV sk_VS at y
      rw [if_neg (by omega), if_neg (by omega), if_neg (by omega), if_neg (by omega), if_neg (by omega)] at y
      rcases y with ⟨rfl, rfl⟩ | y
      · exact sf_vs_self hs (by omega) (by omega) h57
      · exact y.elim⟩⟩
    refine AW_run 80 rfl ?_
    exact AW_iret rfl rfl q1
  · exact dis 4 247 (by omega) rfl (dflt (by omega))
  · exact dis 5 247 (by omega) rfl (dflt (by omega))
  · exact dis 6 247 (by omega) rfl (dflt (by omega))
  · exact dis 9 247 (by omega) rfl (dflt (by omega))
def sf_LW (p : Nat) (C : sk_SI) (Go : sk_Or) (n : Nat) (T : sk_Tb) (s sm : Int) : Int → Prop := fun x => (x ≠ 1 ∧ sf_b sm x) ∨ (sf_b sm 1 ∧ sk_WB p C Go n T s x)
def sf_LV (p : Nat) (C : sk_SI) (Go : sk_Or) (n : Nat) (T : sk_Tb) (s sm : Int) : Int → sk_Tb → Prop := fun t T' => sf_b sm 1 ∧ sk_VB p C Go n T s t T'
theorem c_F_loop (hp : sk_pg p) (hv : sk_pv p D C) (hr : sk_ru C) (s0 : Int) : ∀ (n : Nat), (∀ k, k < n → sf_BC l E cu sp io rp tp p C D rm rT Go wk k) → ∀ (d : Nat) (lf sm s dp : Int) (T : sk_Tb) (I : sk_SI) (L : sk_SL) (TT : Int → sk_Tb), (0 ≤ sm ∧ sm ≤ 7) → (0 ≤ dp ∧ dp ≤ 11) → 60 ≤ (d : Int) + 5 * dp → sk_t8 T → sk_ht (L 56) (dp * 8) T → (s = -1 ∨ (0 ≤ s ∧ s < C p 10 ∧ D s = dp + 1)) → sk_fue n s → (0 ≤ lf ∧ lf ≤ 200 ∧ (0 ≤ s → 200 ≤ lf + s)) → sf_iv p C rm rT Go wk I L TT → (I 48 14 = 0 → sf_b sm 1 → sf_hx p C rm rT (sk_VB p C Go n T s)) → (∀ v I' L' TT', sf_po p C rm rT Go wk dp I L TT (sf_LW p C Go n T s sm) (sf_LV p C Go n T s sm) v I' L' TT' → Q (some (vi v)) sk_G (I', L', sk_J cu sp io rp tp p)) → AW l E d 0 0 mX0_walkBlock 20 [some (vr 48), some (vi s0), some (vi dp), some (vi sm), some (vi s), some (vi lf)] [vi lf] sk_G (I, L, sk_J cu sp io rp tp p) Q
  | 0, _, _, _, _, _, _, _, _, _, _, _, _, _, _, _, _, hf, _, _, _, _ => absurd hf.1 (by omega)
  | n + 1, hB, d, lf, sm, s, dp, T, I, L, TT, hsm, hd, hdd, hT, hL, hs, hf, hlf, hI, hx, hq => by
    have v10 := hv.2.1
    obtain ⟨k, rfl⟩ : ∃ k, d = k + 5 := ⟨d - 5, by omega⟩
    have e0 : I p = C p := sf_fr_p hp hI.1 0 (by omega)
    have n0 := hI.2.1.1.1.1
    obtain ⟨t1, t2⟩ := sf_t1 hsm
    have hwk : 0 ≤ wk ∧ wk < 300 := by
      have a := hI.2.2.1
      have b := hI.2.1.1.1
      omega
    have stop : (s < 0 ∨ ¬ sf_b sm 1) → Q (some (vi sm)) sk_G (I, L, sk_J cu sp io rp tp p) := fun h => hq sm I L TT ⟨hI, sf_gr_rf _ _ _ _, hsm, fun _ => ⟨fun x => by
      unfold sf_LW
      rcases h with h | h
      · unfold sk_WB
        rw [if_pos h]
        constructor
        · intro y
          by_cases e : x = 1
          · subst e; exact Or.inr ⟨y, rfl⟩
          · exact Or.inl ⟨e, y⟩
        · rintro (y | ⟨y, rfl⟩)
          · exact y.2
          · exact y
      · constructor
        · intro y
          exact Or.inl ⟨fun e => h (e ▸ y), y⟩
        · rintro (y | y)
          · exact y.2
          · exact absurd y.1 h, fun t T' y => by
      unfold sf_LV at y
      rcases h with h | h
      · unfold sk_VB at y
        rw [if_pos h] at y
        exact y.2.elim
      · exact absurd y.1 h⟩⟩
    have step : 0 ≤ s → sf_b sm 1 → AW l E (k + 4) 0 0 mX0_walkStep 0 [some (vr 48), some (vi s), some (vi dp)] [] sk_G (I, L, sk_J cu sp io rp tp p) (fun v G' σ' => AW l E (k + 5) 0 0 mX0_walkBlock 52 [some (vr 48), some (vi s0), some (vi dp), some (vi sm), some (vi s), some (vi lf)] (v.toList ++ [vi (sk_and sm (-2))]) G' σ' Q) := by
      intro h0 h1
      have hs : 0 ≤ s ∧ s < C p 10 ∧ D s = dp + 1 := by omega
      obtain ⟨w1, -, -, -, -, -, w7, -⟩ := sf_wf hv ⟨hs.1, hs.2.1⟩
      have hVB : ∀ t T', sk_VB p C Go (n + 1) T s t T' ↔ (sf_sV p C Go n T s t T' ∨ (sk_WS p C Go (sk_WB p C Go n) T s 1 ∧ sk_VB p C Go n T (C (p + 7) s) t T')) := by
        intro t T'
        unfold sf_sV
        rw [sk_VB]
        dsimp only
        rw [if_neg (show ¬ s < 0 by omega), or_assoc]
      have hWB : ∀ x, sk_WB p C Go (n + 1) T s x ↔ ((x ≠ 1 ∧ sk_WS p C Go (sk_WB p C Go n) T s x) ∨ (sk_WS p C Go (sk_WB p C Go n) T s 1 ∧ sk_WB p C Go n T (C (p + 7) s) x)) := by
        intro x
        rw [sk_WB]
        dsimp only
        rw [if_neg (show ¬ s < 0 by omega)]
      refine c_F_step (n := n) hp hv hr (hB n (by omega)) T hT s dp ⟨hs.1, hs.2.1⟩ hs.2.2 hf hd (by omega) hL hI (fun z => sf_hx_mono (hx z h1) (fun t T' y => (hVB t T').mpr (Or.inl y))) (fun v I1 L1 T1 h => ?_)
      obtain ⟨i1, g1, r1, x1⟩ := h
      obtain ⟨c1, c2⟩ := sf_cl1 hsm
      obtain ⟨o1, o2⟩ := sf_or_b c1 r1
      have g7 : I1 (p + 7) s = C (p + 7) s := by rw [sf_fr_p hp i1.1 7 (by omega)]
      have b1 : I1 48 14 = 0 → (sf_b (sk_or (sk_and sm (-2)) v) 1 ↔ sk_WS p C Go (sk_WB p C Go n) T s 1) := fun z => by
        rw [o2 1, c2 1, (x1 z).1 1]
        exact ⟨fun y => y.elim (fun y => absurd rfl y.1) id, Or.inr⟩
      have nx := c_F_loop hp hv hr s0 n (fun k hk => hB k (by omega)) (k + 5) (lf - 1) (sk_or (sk_and sm (-2)) v) (I1 (p + 7) s) dp T I1 L1 T1 o1 hd hdd hT (sk_ht_cg hL (fun i a b => g1.2.2.2.2.2 i (by omega))) (by rw [g7]; omega) (by rw [g7]; exact sk_fue_n hf ⟨hs.1, hs.2.1⟩ v10.2 (by omega)) (by rw [g7]; omega) i1 (fun z y => by
        rw [g7]
        exact sf_hx_mono (hx (sf_14 hI.2.2.2.1 g1 z) h1) (fun t T' u => (hVB t T').mpr (Or.inr ⟨(b1 z).mp y, u⟩))) (fun v2 I2 L2 T2 h2 => by
        obtain ⟨i2, g2, r2, x2⟩ := h2
        have gt := sf_gr_tr n0 g1 g2
        refine hq v2 I2 L2 T2 ⟨i2, gt, r2, fun z => ?_⟩
        have z1 := sf_14 i1.2.2.2.1 g2 z
        have b1 := b1 z1
        refine ⟨fun x => ?_, fun t T' y => ?_⟩
        · rw [(x2 z).1 x]
          unfold sf_LW
          rw [b1, o2 x, c2 x, (x1 z1).1 x, hWB x, g7]
          constructor
          · rintro (⟨a, ⟨-, b⟩ | b⟩ | b)
            · exact Or.inl ⟨a, b⟩
            · exact Or.inr ⟨h1, Or.inl ⟨a, b⟩⟩
            · exact Or.inr ⟨h1, Or.inr b⟩
          · rintro (a | ⟨-, a | a⟩)
            · exact Or.inl ⟨a.1, Or.inl a⟩
            · exact Or.inl ⟨a.1, Or.inr a.2⟩
            · exact Or.inr a
        · rcases (hVB t T').mp y.2 with u | u
          · exact sf_vs_gr hwk ((x1 z1).2 t T' u) g2
          · exact (x2 z).2 t T' ⟨b1.mpr u.1, by rw [g7]; exact u.2⟩)
      clear hq hx hB stop x1 b1 hVB hWB g1 i1 hI hL hf
      have hs2 : 0 ≤ s ∧ s < 200 := by omega
      rcases hp with rfl | rfl <;>
      · refine AW_run 80 rfl ?_
        refine AW_iald rfl rfl ⟨by omega, by omega⟩ (by decide) ?_
        refine AW_run 80 rfl ?_
        exact nx
    clear hq hx hB hf hL
    have hp' := hp
    have h10 : 0 ≤ I p 10 ∧ I p 10 ≤ 200 := by rw [e0]; exact v10
    refine AW_ifle rfl (fun g => ?_) (fun g => ?_) (by unfold sk_in; omega)
    · have stop := stop (Or.inl (by omega))
      refine AW_run 80 rfl ?_
      exact AW_iret rfl rfl stop
    · have hs10 : 0 ≤ s → s < I p 10 := fun z => by rw [e0]; omega
      rcases hp with rfl | rfl <;>
      · refine AW_run 80 rfl ?_
        refine AW_cV (M' := mX2_hasStep) (d' := k + 3 + 1) rfl kkX0_107 lcX2_hasStep rfl rfl rfl rfl rfl rfl (Nat.le_refl _) ?_
        refine c_Pg_has _ hp' s (by unfold sk_in; omega) h10 (fun h1 h2 => ?_) (fun h1 => ?_)
        · refine AW_run 80 rfl ?_
          first | refine AW_e1 rfl ?_ | refine AW_e0 rfl ?_ | refine AW_n1 rfl ?_ | refine AW_n0 rfl ?_
          refine AW_run 80 rfl ?_
          refine AW_ifeq rfl (fun g2 => ?_) (fun g2 => ?_) (by unfold sk_in; omega)
          · have stop := stop (Or.inr (t2.mp g2))
            refine AW_run 80 rfl ?_
            exact AW_iret rfl rfl stop
          · have step := step h1 (Classical.byContradiction (fun z => g2 (t2.mpr z)))
            refine AW_run 80 rfl ?_
            refine AW_cV (M' := mX0_walkStep) rfl kkX0_111 lcX0_walkStep rfl rfl rfl rfl rfl rfl (Nat.le_refl _) ?_
            exact step
        · have stop := stop (Or.inl (by
            apply Classical.byContradiction
            intro z
            exact h1 ⟨by omega, hs10 (by omega)⟩))
          refine AW_run 80 rfl ?_
          first | refine AW_e1 rfl ?_ | refine AW_e0 rfl ?_ | refine AW_n1 rfl ?_ | refine AW_n0 rfl ?_
          refine AW_run 80 rfl ?_
          exact AW_iret rfl rfl stop
theorem sf_block (hp : sk_pg p) (hv : sk_pv p D C) (hr : sk_ru C) : ∀ n, sf_BC l E cu sp io rp tp p C D rm rT Go wk n := by
  intro n
  induction n using Nat.strongRecOn with
  | ind n ih =>
    intro d T s dp I L TT Q hd hdd hT hL hs hf hI hx hq
    have b1 : sf_b 1 1 := (sf_b_1 1).mpr rfl
    have lp := c_F_loop (Q := Q) hp hv hr s n ih d 200 1 s dp T I L TT (by omega) hd hdd hT hL hs hf (by omega) hI (fun z _ => hx z) (fun v I' L' TT' h => hq v I' L' TT' ⟨h.1, h.2.1, h.2.2.1, fun z => ⟨fun x => by
      rw [(h.2.2.2 z).1 x]
      unfold sf_LW
      rw [sf_b_1 x]
      exact ⟨fun y => y.elim (fun y => absurd y.2 y.1) (fun y => y.2), fun y => Or.inr ⟨b1, y⟩⟩, fun t T' y => (h.2.2.2 z).2 t T' ⟨b1, y⟩⟩⟩)
    refine AW_run 80 rfl ?_
    refine AW_iclt rfl (fun g => ?_) (fun g => by omega) (by unfold sk_in; omega) (by unfold sk_in; omega)
    refine AW_run 80 rfl ?_
    exact lp
end SKFd
