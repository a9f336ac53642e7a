/-! ===== SealKeeperModel.walkStep: the steps with blocks ===== -/
def sg_BC (l : Launch) (E : sk_En) (L : sk_SL) (cu sp io rp tp fp p : Nat) (C : sk_SI) (D : Int → Int) (rm : Int) (rT : sk_Tb) (Go : sk_Or) (I0 : sk_SI) (n : Nat) : Prop := ∀ (d : Nat) (T : sk_Tb) (s dp : Int) (I : sk_SI) (TT : Int → sk_Tb) (Q : Option sk_V → List sk_Sh → sk_St → Prop), (0 ≤ dp ∧ dp ≤ 11) → 40 ≤ (d : Int) + 3 * dp → sk_t8 T → sg_ht (I 96) (80 * dp) T → (s = -1 ∨ (0 ≤ s ∧ s < C p 10 ∧ D s = dp + 1)) → sk_fue n s → sg_iv p C rm rT Go I0 I TT → (I 59 70 = 0 → sf_hx p C rm rT (sk_VB p C Go n T s)) → (∀ v I' TT', sg_po p C rm rT Go I0 dp I TT (sk_WB p C Go n T s) (sk_VB p C Go n T s) v I' TT' → Q (some (vi v)) sk_G (I', L, sk_J cu sp io rp tp fp)) → AW l E d 0 0 mX10_walk 0 [some (vr 59), some (vi s), some (vi dp), none, none] [] sk_G (I, L, sk_J cu sp io rp tp fp) Q
theorem sg_vs_self {p : Nat} {C : sk_SI} {s : Int} {I : sk_SI} {TT : Int → sk_Tb} {T : sk_Tb} (hs : 0 ≤ s ∧ s < C p 10) (h0 : C (p + 3) s ≠ 0) (h1 : C (p + 3) s ≠ 1) (h98 : I 98 s = 1) : sg_vs p C I TT s T := ⟨hs, h98, fun z => absurd z h0, fun z => absurd z h1⟩
section SKG5
variable {l : Launch} {E : sk_En} {d : Nat} {I I0 I1 : sk_SI} {L : sk_SL} {cu sp io rp tp fp p : Nat} {Q : Option sk_V → List sk_Sh → sk_St → Prop} {TT : Int → sk_Tb} {C : sk_SI} {D : Int → Int} {rm : Int} {rT : sk_Tb} {Go : sk_Or} {n : Nat}
theorem c_M_inner (hB : sg_BC l E L cu sp io rp tp fp p C D rm rT Go I0 n) (T : sk_Tb) (hT : sk_t8 T) (f : sk_Tb) (hf8 : sk_t8 f) (u dp : Int) (hu : u = -1 ∨ (0 ≤ u ∧ u < C p 10 ∧ D u = dp + 2)) (hf : sk_fue n u) (hd : 0 ≤ dp ∧ dp ≤ 10) (hdd : 37 ≤ (d : Int) + 3 * dp) (g : Int → Int) (hg : ∀ r, 0 ≤ r → r < 80 → g r = f r) (hw : sg_wr 96 (80 * (dp + 1)) g 80 I I1) (hI : sg_iv p C rm rT Go I0 I TT) (hx : I 59 70 = 0 → sf_hx p C rm rT (sk_VB p C Go n f u)) (hq : ∀ v I' TT', sg_po p C rm rT Go I0 dp I TT (sk_WB p C Go n f u) (sk_VB p C Go n f u) v I' TT' → Q (some (vi v)) sk_G (I', L, sk_J cu sp io rp tp fp)) : AW l E d 0 0 mX10_walk 0 [some (vr 59), some (vi u), some (vi (dp + 1)), none, none] [] sk_G (I1, L, sk_J cu sp io rp tp fp) Q := by
  have e : ∀ c, c ≠ 96 → c ≠ 97 → I1 c = I c := fun c a _ => hw.1 c a
  have iw := sg_iv_w hI e
  have gw : sg_gr dp I TT I1 TT := sg_gr_w e (fun i hi => hw.2.2 i (by omega))
  refine hB d f u (dp + 1) I1 TT Q (by omega) (by omega) hf8 (fun r r0 r1 => ?_) (by omega) hf iw (fun z => hx (by rw [hw.1 59 (by decide)] at z; exact z)) (fun v I' TT' h => ?_)
  · rw [hw.2.1 r r0 r1, hg r r0 r1]
  · exact hq v I' TT' ⟨h.1, sg_gr_tr hI.2.1.1.1.1 iw.2.2.2.1 gw (sg_gr_dn (by omega) h.2.1), h.2.2⟩
theorem c_M_s2 (hv : sk_pv p D C) (hr : sk_ru C) (h1 : sk_q1 p C I0) (hB : sg_BC l E L cu sp io rp tp fp p C D rm rT Go I0 n) (T : sk_Tb) (hT : sk_t8 T) (s dp ri : Int) (hs : 0 ≤ s ∧ s < C p 10) (hD : D s = dp + 1) (hf : sk_fue (n + 1) s) (hd : 0 ≤ dp ∧ dp ≤ 11) (hdd : 37 ≤ (d : Int) + 3 * dp) (hw : C (p + 3) s = 2 ∨ C (p + 3) s = 3) (hL : sg_ht (I 96) (80 * dp) T) (hI : sg_iv p C rm rT Go I0 I TT) (h98 : I 98 s = 1) (hx : I 59 70 = 0 → sf_hx p C rm rT (sf_sV p C Go n T s)) (hq : ∀ v I' TT', sg_po p C rm rT Go I0 dp I TT (sk_WS p C Go (sk_WB p C Go n) T s) (sf_sV p C Go n T s) v I' TT' → Q (some (vi v)) sk_G (I', L, sk_J cu sp io rp tp fp)) : AW l E (d + 1) 0 0 mX10_walkStep 293 [some (vr 59), some (vi s), some (vi dp), some (vi ri), none, none, none] [] sk_G (I, L, sk_J cu sp io rp tp fp) Q := by
  obtain ⟨w1, -, -, -, w6, -, -, w8, w9⟩ := sf_wf hv hs
  have w9 := w9 (by omega)
  have v10 := hv.2.1
  have v9 := hv.1
  obtain ⟨-, m2, m3, m4, -⟩ := hv.2.2.1 s hs.1 hs.2
  have ow := (hv.2.2.2.1 _ m2.1 m2.2).1
  have n5 : 0 ≤ C (p + 5) s ∧ C (p + 5) s ≤ 7 := by
    unfold sk_no at m3
    rcases hw with z | z <;> rw [z] at m3
    · have : sk_mf 2 = 7 := rfl
      omega
    · have : sk_mf 3 = 7 := rfl
      omega
  have n6 : -1 ≤ C (p + 6) s ∧ C (p + 6) s ≤ 9 := by
    unfold sk_no at m4
    rcases hw with z | z <;> rw [z] at m4
    · have : sk_ms 2 = 9 := rfl
      omega
    · have : sk_ms 3 = -1 := rfl
      omega
  obtain ⟨k, rfl⟩ : ∃ k, d = k + 1 := ⟨d - 1, by omega⟩
  have q1 := sg_q1 h1 hI.1
  obtain ⟨f67, f68, f69, f70, f71, f72, f73⟩ := q1.2.1 s hs.1 hs.2
  have f64 : I 64 (C (p + 4) s) = C (p + 1) (C (p + 4) s) := (q1.1 _ m2.1 m2.2).1
  have f61 : I 61 = C 8 := q1.2.2.1
  have hW : ∀ x, sk_WS p C Go (sk_WB p C Go n) T s x ↔ sk_WB p C Go n (sk_bT p C s T) (C (p + 8) s) x := by
    intro x
    unfold sk_WS
    rw [if_neg (by omega), if_neg (by omega), if_pos hw]
  have hV : ∀ t T', sf_sV p C Go n T s t T' ↔ ((t = s ∧ T' = T) ∨ sk_VB p C Go n (sk_bT p C s T) (C (p + 8) s) t T') := by
    intro t T'
    unfold sf_sV sk_VS
    rw [if_pos hw]
  have cvT : ∀ r, 0 ≤ r → r < 80 → sg_cv I s dp r = sk_bT p C s T r := fun r r0 r1 => by
    unfold sg_cv
    rw [f67, f68, f69, f70, f61, f64, hL r r0 r1]
    rcases hw with z | z
    · have n3 : ¬ C (p + 3) s = 3 := by omega
      rw [sk_bT_2 n3 r0 r1]
      by_cases e : r / 10 = C (p + 5) s
      · rw [if_pos e, if_pos e, if_neg n3, e, show 8 * C (p + 1) (C (p + 4) s) = C (p + 1) (C (p + 4) s) * 8 by omega]
      · rw [if_neg e, if_neg e]
    · rw [sk_bT_3 z r0 r1]
      by_cases e : r / 10 = C (p + 5) s
      · rw [if_pos e, if_pos e, if_pos z]
      · rw [if_neg e, if_neg e]
  have go : ∀ I1, sg_wr 96 (80 * (dp + 1)) (sg_cv I s dp) 80 I I1 → AW l E (k + 1) 0 0 mX10_walk 0 [some (vr 59), some (vi (I1 72 s)), some (vi (dp + 1)), none, none] [] sk_G (I1, L, sk_J cu sp io rp tp fp) (fun v G' σ' => AW l E (k + 1 + 1) 0 0 mX10_walkStep 312 [some (vr 59), some (vi s), some (vi dp), some (vi ri), none, none, none] (v.toList ++ []) G' σ' Q) := by
    intro I1 hw1
    have g72 : I1 72 s = C (p + 8) s := by rw [hw1.1 72 (by decide), f72]
    rw [g72]
    refine c_M_inner hB T hT (sk_bT p C s T) (sf_bT_8 hT ow) (C (p + 8) s) dp (by omega) (sk_fue_n hf hs v10.2 (by omega)) (by omega) hdd _ cvT hw1 hI (fun z => sf_hx_mono (hx z) (fun t T' y => (hV t T').mpr (Or.inr y))) (fun v I' TT' h => ?_)
    have hq := hq v I' TT' ⟨h.1, h.2.1, h.2.2.1, fun z => ⟨fun x => by rw [hW x]; exact (h.2.2.2 z).1 x, fun t T' y => by
      rcases (hV t T').mp y with ⟨rfl, rfl⟩ | y
      · exact sg_vs_self hs (by omega) (by omega) ((h.2.1.2.2.2.1 _).1 h98)
      · exact (h.2.2.2 z).2 t T' y⟩⟩
    exact AW_iret rfl rfl hq
  have hs2 : 0 ≤ s ∧ s < 200 := by omega
  have cov := fun Q' h => c_M_cover (l := l) (E := E) (d := k) (L := L) (cu := cu) (sp := sp) (io := io) (rp := rp) (tp := tp) (fp := fp) (Q := Q') I s dp (by omega) hs2 (by rw [f67]; exact hw) (by rw [f69]; exact n5) (by rw [f70]; exact n6) (by rw [f68]; omega) (by rw [f68, f64]; exact ow) (by rw [f61]; exact hr) h
  clear hq hx hW hV hI hL hB hf hv
  refine AW_run 80 rfl ?_
  refine AW_cV (M' := mX10_cover) rfl kkX10_354 lcX10_cover rfl rfl rfl rfl rfl rfl (Nat.le_refl _) ?_
  refine cov _ (fun I1 hw1 => ?_)
  have go := go I1 hw1
  refine AW_run 80 rfl ?_
  refine AW_iald rfl rfl ⟨by omega, by omega⟩ (by decide) ?_
  refine AW_run 80 rfl ?_
  refine AW_cV (M' := mX10_walk) rfl kkX10_357 lcX10_walk rfl rfl rfl rfl rfl rfl (Nat.le_refl _) ?_
  exact go
theorem c_M_s7 (hv : sk_pv p D C) (h1 : sk_q1 p C I0) (hB : sg_BC l E L cu sp io rp tp fp p C D rm rT Go I0 n) (T : sk_Tb) (hT : sk_t8 T) (s dp ri : Int) (hs : 0 ≤ s ∧ s < C p 10) (hD : D s = dp + 1) (hf : sk_fue (n + 1) s) (hd : 0 ≤ dp ∧ dp ≤ 11) (hdd : 37 ≤ (d : Int) + 3 * dp) (hw : C (p + 3) s = 7) (hL : sg_ht (I 96) (80 * dp) T) (hI : sg_iv p C rm rT Go I0 I TT) (h98 : I 98 s = 1) (hx : I 59 70 = 0 → sf_hx p C rm rT (sf_sV p C Go n T s)) (hq : ∀ v I' TT', sg_po p C rm rT Go I0 dp I TT (sk_WS p C Go (sk_WB p C Go n) T s) (sf_sV p C Go n T s) v I' TT' → Q (some (vi v)) sk_G (I', L, sk_J cu sp io rp tp fp)) : AW l E (d + 1) 0 0 mX10_walkStep 313 [some (vr 59), some (vi s), some (vi dp), some (vi ri), none, none, none] [] sk_G (I, L, sk_J cu sp io rp tp fp) Q := by
  obtain ⟨w1, -, -, -, w6, w7, -, w8, w9⟩ := sf_wf hv hs
  have w9 := w9 (by omega)
  have v10 := hv.2.1
  have n0 := hI.2.1.1.1.1
  have hs2 : 0 ≤ s ∧ s < 200 := by omega
  obtain ⟨f67, f68, f69, f70, f71, f72, f73⟩ := (sg_q1 h1 hI.1).2.1 s hs.1 hs.2
  have hW : ∀ x, sk_WS p C Go (sk_WB p C Go n) T s x ↔ ((x ≠ 2 ∧ sk_WB p C Go n T (C (p + 8) s) x) ∨ (sk_WB p C Go n T (C (p + 8) s) 2 ∧ sk_WB p C Go n T (C (p + 9) s) x)) := by
    intro x
    unfold sk_WS
    rw [if_neg (by omega), if_neg (by omega), if_neg (by omega), if_pos hw]
  have hV : ∀ t T', sf_sV p C Go n T s t T' ↔ ((t = s ∧ T' = T) ∨ sk_VB p C Go n T (C (p + 8) s) t T' ∨ (sk_WB p C Go n T (C (p + 8) s) 2 ∧ sk_VB p C Go n T (C (p + 9) s) t T')) := by
    intro t T'
    unfold sf_sV sk_VS
    rw [if_neg (by omega), if_pos hw]
  have two : ∀ v I2 T2, sg_po p C rm rT Go I0 dp I TT (sk_WB p C Go n T (C (p + 8) s)) (sk_VB p C Go n T (C (p + 8) s)) v I2 T2 → AW l E (d + 1) 0 0 mX10_walkStep 331 [some (vr 59), some (vi s), some (vi dp), some (vi ri), none, none, none] [vi v] sk_G (I2, L, sk_J cu sp io rp tp fp) Q := by
    intro v I2 T2 h2
    obtain ⟨i1, g1, r1, x1⟩ := h2
    obtain ⟨-, -, -, -, -, -, g73⟩ := (sg_q1 h1 i1.1).2.1 s hs.1 hs.2
    have hL1 : sg_ht (I2 96) (80 * dp) T := sg_ht_cg hL (fun i a b => g1.2.2.2.2.2.1 i (by omega))
    obtain ⟨t1, t2⟩ := sg_t4 r1
    have noF : sk_and v 4 = 0 → Q (some (vi v)) sk_G (I2, L, sk_J cu sp io rp tp fp) := fun e => hq v I2 T2 ⟨i1, g1, r1, fun z => by
      have nb : ¬ sk_WB p C Go n T (C (p + 8) s) 2 := fun y => (t2.mp e) (((x1 z).1 2).mpr y)
      refine ⟨fun x => ?_, fun t T' y => ?_⟩
      · rw [hW x, (x1 z).1 x]
        constructor
        · intro y
          exact Or.inl ⟨fun e => nb (e ▸ y), y⟩
        · rintro (y | y)
          · exact y.2
          · exact absurd y.1 nb
      · rcases (hV t T').mp y with ⟨rfl, rfl⟩ | y | y
        · exact sg_vs_self hs (by omega) (by omega) ((g1.2.2.2.1 _).1 h98)
        · exact (x1 z).2 t T' y
        · exact absurd y.1 nb⟩
    have isF : sk_and v 4 ≠ 0 → ∀ I3, sg_wr 96 (80 * (dp + 1)) (fun r => I2 96 (80 * dp + r)) 80 I2 I3 → AW l E d 0 0 mX10_walk 0 [some (vr 59), some (vi (I3 73 s)), some (vi (dp + 1)), none, none] [] sk_G (I3, L, sk_J cu sp io rp tp fp) (fun v2 G' σ' => AW l E (d + 1) 0 0 mX10_walkStep 366 [some (vr 59), some (vi s), some (vi dp), some (vi ri), some (vi v), none, none] (v2.toList ++ [vi (sk_and v (-5))]) G' σ' Q) := by
      intro e I3 hw3
      have bF : I2 59 70 = 0 → sk_WB p C Go n T (C (p + 8) s) 2 := fun z => ((x1 z).1 2).mp (Classical.byContradiction (fun y => e (t2.mpr y)))
      have k73 : I3 73 s = C (p + 9) s := by rw [hw3.1 73 (by decide), g73]
      rw [k73]
      refine c_M_inner hB T hT T hT (C (p + 9) s) dp (by omega) (sk_fue_n hf hs v10.2 (by omega)) (by omega) hdd _ hL1 hw3 i1 (fun z => sf_hx_mono (hx (sg_70 hI.2.2.1 g1 z)) (fun t T' y => (hV t T').mpr (Or.inr (Or.inr ⟨bF z, y⟩)))) (fun v2 I4 T4 h4 => ?_)
      obtain ⟨i2, g2, r2, x2⟩ := h4
      have gt := sg_gr_tr n0 i1.2.2.2.1 g1 g2
      obtain ⟨c1, c2⟩ := sg_cl2 r1
      obtain ⟨o1, o2⟩ := sg_or_b c1 r2
      have hq := hq (sk_or (sk_and v (-5)) v2) I4 T4 ⟨i2, gt, o1, fun z => by
        have z1 := sg_70 i1.2.2.1 g2 z
        have bF := bF z1
        refine ⟨fun x => ?_, fun t T' y => ?_⟩
        · rw [hW x, o2 x, c2 x, (x1 z1).1 x, (x2 z).1 x]
          constructor
          · rintro (y | y)
            · exact Or.inl y
            · exact Or.inr ⟨bF, y⟩
          · rintro (y | y)
            · exact Or.inl y
            · exact Or.inr y.2
        · rcases (hV t T').mp y with ⟨rfl, rfl⟩ | y | y
          · exact sg_vs_self hs (by omega) (by omega) ((gt.2.2.2.1 _).1 h98)
          · exact sg_vs_gr ((x1 z1).2 t T' y) g2
          · exact (x2 z).2 t T' y.2⟩
      refine AW_run 80 rfl ?_
      exact AW_iret rfl rfl hq
    clear hq hx hW hV x1 i1 g1 hL1 hI hL hB hf hv
    refine AW_run 80 rfl ?_
    refine AW_ifne rfl (fun g => ?_) (fun g => ?_) (by unfold sk_in; omega)
    · have isF := isF g
      refine AW_run 80 rfl ?_
      refine AW_cV (M' := mX10_same) rfl kkX10_360 lcX10_same rfl rfl rfl rfl rfl rfl (Nat.le_refl _) ?_
      refine c_M_same I2 dp (by omega) (fun I3 hw3 => ?_)
      have isF := isF I3 hw3
      refine AW_run 80 rfl ?_
      refine AW_iald rfl rfl ⟨by omega, by omega⟩ (by decide) ?_
      refine AW_run 80 rfl ?_
      refine AW_cV (M' := mX10_walk) rfl kkX10_357 lcX10_walk rfl rfl rfl rfl rfl rfl (Nat.le_refl _) ?_
      exact isF
    · have noF := noF g
      refine AW_run 80 rfl ?_
      exact AW_iret rfl rfl noF
  have go : ∀ I1, sg_wr 96 (80 * (dp + 1)) (fun r => I 96 (80 * dp + r)) 80 I I1 → AW l E d 0 0 mX10_walk 0 [some (vr 59), some (vi (I1 72 s)), some (vi (dp + 1)), none, none] [] sk_G (I1, L, sk_J cu sp io rp tp fp) (fun v G' σ' => AW l E (d + 1) 0 0 mX10_walkStep 331 [some (vr 59), some (vi s), some (vi dp), some (vi ri), none, none, none] (v.toList ++ []) G' σ' Q) := by
    intro I1 hw1
    have g72 : I1 72 s = C (p + 8) s := by rw [hw1.1 72 (by decide), f72]
    rw [g72]
    exact c_M_inner hB T hT T hT (C (p + 8) s) dp (by omega) (sk_fue_n hf hs v10.2 (by omega)) (by omega) hdd _ hL hw1 hI (fun z => sf_hx_mono (hx z) (fun t T' y => (hV t T').mpr (Or.inr (Or.inl y)))) two
  clear hq hx hW hV hI hL hB hf hv two
  refine AW_run 80 rfl ?_
  refine AW_cV (M' := mX10_same) rfl kkX10_360 lcX10_same rfl rfl rfl rfl rfl rfl (Nat.le_refl _) ?_
  refine c_M_same I dp (by omega) (fun I1 hw1 => ?_)
  have go := go I1 hw1
  refine AW_run 80 rfl ?_
  refine AW_iald rfl rfl ⟨by omega, by omega⟩ (by decide) ?_
  refine AW_run 80 rfl ?_
  refine AW_cV (M' := mX10_walk) rfl kkX10_357 lcX10_walk rfl rfl rfl rfl rfl rfl (Nat.le_refl _) ?_
  exact go
theorem c_M_s11 (hv : sk_pv p D C) (h1 : sk_q1 p C I0) (hB : sg_BC l E L cu sp io rp tp fp p C D rm rT Go I0 n) (T : sk_Tb) (hT : sk_t8 T) (s dp ri : Int) (hs : 0 ≤ s ∧ s < C p 10) (hD : D s = dp + 1) (hf : sk_fue (n + 1) s) (hd : 0 ≤ dp ∧ dp ≤ 11) (hdd : 37 ≤ (d : Int) + 3 * dp) (hw : C (p + 3) s = 11) (hL : sg_ht (I 96) (80 * dp) T) (hI : sg_iv p C rm rT Go I0 I TT) (h98 : I 98 s = 1) (hx : I 59 70 = 0 → sf_hx p C rm rT (sf_sV p C Go n T s)) (hq : ∀ v I' TT', sg_po p C rm rT Go I0 dp I TT (sk_WS p C Go (sk_WB p C Go n) T s) (sf_sV p C Go n T s) v I' TT' → Q (some (vi v)) sk_G (I', L, sk_J cu sp io rp tp fp)) : AW l E (d + 1) 0 0 mX10_walkStep 443 [some (vr 59), some (vi s), some (vi dp), some (vi ri), none, none, none] [] sk_G (I, L, sk_J cu sp io rp tp fp) Q := by
  obtain ⟨w1, -, -, -, w6, w7, -, w8, w9⟩ := sf_wf hv hs
  have w9 := w9 (by omega)
  have v10 := hv.2.1
  have n0 := hI.2.1.1.1.1
  have hs2 : 0 ≤ s ∧ s < 200 := by omega
  obtain ⟨f67, f68, f69, f70, f71, f72, f73⟩ := (sg_q1 h1 hI.1).2.1 s hs.1 hs.2
  have hW : ∀ x, sk_WS p C Go (sk_WB p C Go n) T s x ↔ (sk_WB p C Go n T (C (p + 8) s) x ∨ sk_WB p C Go n T (C (p + 9) s) x) := by
    intro x
    unfold sk_WS
    rw [if_neg (by omega), if_neg (by omega), if_neg (by omega), if_neg (by omega), if_neg (by omega), if_neg (by omega), if_pos hw]
  have hV : ∀ t T', sf_sV p C Go n T s t T' ↔ ((t = s ∧ T' = T) ∨ sk_VB p C Go n T (C (p + 8) s) t T' ∨ sk_VB p C Go n T (C (p + 9) s) t T') := by
    intro t T'
    unfold sf_sV sk_VS
    rw [if_neg (by omega), if_neg (by omega), if_neg (by omega), if_neg (by omega), if_pos hw]
  have two : ∀ v I2 T2, sg_po p C rm rT Go I0 dp I TT (sk_WB p C Go n T (C (p + 8) s)) (sk_VB p C Go n T (C (p + 8) s)) v I2 T2 → AW l E (d + 1) 0 0 mX10_walkStep 461 [some (vr 59), some (vi s), some (vi dp), some (vi ri), none, none, none] [vi v] sk_G (I2, L, sk_J cu sp io rp tp fp) Q := by
    intro v I2 T2 h2
    obtain ⟨i1, g1, r1, x1⟩ := h2
    obtain ⟨-, -, -, -, -, -, g73⟩ := (sg_q1 h1 i1.1).2.1 s hs.1 hs.2
    have hL1 : sg_ht (I2 96) (80 * dp) T := sg_ht_cg hL (fun i a b => g1.2.2.2.2.2.1 i (by omega))
    have isF : ∀ I3, sg_wr 96 (80 * (dp + 1)) (fun r => I2 96 (80 * dp + r)) 80 I2 I3 → AW l E d 0 0 mX10_walk 0 [some (vr 59), some (vi (I3 73 s)), some (vi (dp + 1)), none, none] [] sk_G (I3, L, sk_J cu sp io rp tp fp) (fun v2 G' σ' => AW l E (d + 1) 0 0 mX10_walkStep 483 [some (vr 59), some (vi s), some (vi dp), some (vi ri), some (vi v), none, none] (v2.toList ++ [vi v]) G' σ' Q) := by
      intro I3 hw3
      have k73 : I3 73 s = C (p + 9) s := by rw [hw3.1 73 (by decide), g73]
      rw [k73]
      refine c_M_inner hB T hT T hT (C (p + 9) s) dp (by omega) (sk_fue_n hf hs v10.2 (by omega)) (by omega) hdd _ hL1 hw3 i1 (fun z => sf_hx_mono (hx (sg_70 hI.2.2.1 g1 z)) (fun t T' y => (hV t T').mpr (Or.inr (Or.inr y)))) (fun v2 I4 T4 h4 => ?_)
      obtain ⟨i2, g2, r2, x2⟩ := h4
      have gt := sg_gr_tr n0 i1.2.2.2.1 g1 g2
      obtain ⟨o1, o2⟩ := sg_or_b r1 r2
      have hq := hq (sk_or v v2) I4 T4 ⟨i2, gt, o1, fun z => by
        have z1 := sg_70 i1.2.2.1 g2 z
        refine ⟨fun x => ?_, fun t T' y => ?_⟩
        · rw [hW x, o2 x, (x1 z1).1 x, (x2 z).1 x]
        · rcases (hV t T').mp y with ⟨rfl, rfl⟩ | y | y
          · exact sg_vs_self hs (by omega) (by omega) ((gt.2.2.2.1 _).1 h98)
          · exact sg_vs_gr ((x1 z1).2 t T' y) g2
          · exact (x2 z).2 t T' y⟩
      refine AW_run 80 rfl ?_
      exact AW_iret rfl rfl hq
    clear hq hx hW hV x1 i1 g1 hL1 hI hL hB hf hv
    refine AW_run 80 rfl ?_
    refine AW_cV (M' := mX10_same) rfl kkX10_360 lcX10_same rfl rfl rfl rfl rfl rfl (Nat.le_refl _) ?_
    refine c_M_same I2 dp (by omega) (fun I3 hw3 => ?_)
    have isF := isF I3 hw3
    refine AW_run 80 rfl ?_
    refine AW_iald rfl rfl ⟨by omega, by omega⟩ (by decide) ?_
    refine AW_run 80 rfl ?_
    refine AW_cV (M' := mX10_walk) rfl kkX10_357 lcX10_walk rfl rfl rfl rfl rfl rfl (Nat.le_refl _) ?_
    exact isF
  have go : ∀ I1, sg_wr 96 (80 * (dp + 1)) (fun r => I 96 (80 * dp + r)) 80 I I1 → AW l E d 0 0 mX10_walk 0 [some (vr 59), some (vi (I1 72 s)), some (vi (dp + 1)), none, none] [] sk_G (I1, L, sk_J cu sp io rp tp fp) (fun v G' σ' => AW l E (d + 1) 0 0 mX10_walkStep 461 [some (vr 59), some (vi s), some (vi dp), some (vi ri), none, none, none] (v.toList ++ []) G' σ' Q) := by
    intro I1 hw1
    have g72 : I1 72 s = C (p + 8) s := by rw [hw1.1 72 (by decide), f72]
    rw [g72]
    exact c_M_inner hB T hT T hT (C (p + 8) s) dp (by omega) (sk_fue_n hf hs v10.2 (by omega)) (by omega) hdd _ hL hw1 hI (fun z => sf_hx_mono (hx z) (fun t T' y => (hV t T').mpr (Or.inr (Or.inl y)))) two
  clear hq hx hW hV hI hL hB hf hv two
  refine AW_run 80 rfl ?_
  refine AW_cV (M' := mX10_same) rfl kkX10_360 lcX10_same rfl rfl rfl rfl rfl rfl (Nat.le_refl _) ?_
  refine c_M_same I dp (by omega) (fun I1 hw1 => ?_)
  have go := go I1 hw1
  refine AW_run 80 rfl ?_
  refine AW_iald rfl rfl ⟨by omega, by omega⟩ (by decide) ?_
  refine AW_run 80 rfl ?_
  refine AW_cV (M' := mX10_walk) rfl kkX10_357 lcX10_walk rfl rfl rfl rfl rfl rfl (Nat.le_refl _) ?_
  exact go
theorem c_M_s8 (hv : sk_pv p D C) (h1 : sk_q1 p C I0) (hB : sg_BC l E L cu sp io rp tp fp p C D rm rT Go I0 n) (T : sk_Tb) (hT : sk_t8 T) (s dp ri : Int) (hs : 0 ≤ s ∧ s < C p 10) (hD : D s = dp + 1) (hf : sk_fue (n + 1) s) (hd : 0 ≤ dp ∧ dp ≤ 11) (hdd : 37 ≤ (d : Int) + 3 * dp) (hw : C (p + 3) s = 8) (hL : sg_ht (I 96) (80 * dp) T) (hI : sg_iv p C rm rT Go I0 I TT) (h98 : I 98 s = 1) (hx : I 59 70 = 0 → sf_hx p C rm rT (sf_sV p C Go n T s)) (hq : ∀ v I' TT', sg_po p C rm rT Go I0 dp I TT (sk_WS p C Go (sk_WB p C Go n) T s) (sf_sV p C Go n T s) v I' TT' → Q (some (vi v)) sk_G (I', L, sk_J cu sp io rp tp fp)) : AW l E (d + 1) 0 0 mX10_walkStep 368 [some (vr 59), some (vi s), some (vi dp), some (vi ri), none, none, none] [] sk_G (I, L, sk_J cu sp io rp tp fp) Q := by
  obtain ⟨w1, -, -, w4, w6, w7, -, w8, w9⟩ := sf_wf hv hs
  have w9 := w9 (by omega)
  have w4 := w4 hw
  have v10 := hv.2.1
  have hs2 : 0 ≤ s ∧ s < 200 := by omega
  obtain ⟨f67, f68, f69, f70, f71, f72, f73⟩ := (sg_q1 h1 hI.1).2.1 s hs.1 hs.2
  have hW : ∀ x, sk_WS p C Go (sk_WB p C Go n) T s x ↔ (if C (p + 5) s = 0 then x = 1 else sk_WB p C Go n T (C (p + 8) s) x) := by
    intro x
    unfold sk_WS
    rw [if_neg (by omega), if_neg (by omega), if_neg (by omega), if_neg (by omega), if_pos hw]
  have hV : ∀ t T', sf_sV p C Go n T s t T' ↔ ((t = s ∧ T' = T) ∨ (if C (p + 5) s = 0 then False else sk_VB p C Go n T (C (p + 8) s) t T')) := by
    intro t T'
    unfold sf_sV sk_VS
    rw [if_neg (by omega), if_neg (by omega), if_pos hw]
  have zero : C (p + 5) s = 0 → ∀ I1, sg_wr 96 (80 * (dp + 1)) (fun r => I 96 (80 * dp + r)) 80 I I1 → Q (some (vi 1)) sk_G (I1, L, sk_J cu sp io rp tp fp) := fun e I1 hw1 => by
    have e2 : ∀ c, c ≠ 96 → c ≠ 97 → I1 c = I c := fun c a _ => hw1.1 c a
    refine hq 1 I1 TT ⟨sg_iv_w hI e2, sg_gr_w e2 (fun i hi => hw1.2.2 i (by omega)), by omega, fun _ => ⟨fun x => by rw [hW x, if_pos e, sg_v_1], fun t T' y => ?_⟩⟩
    rcases (hV t T').mp y with ⟨rfl, rfl⟩ | y
    · exact sg_vs_self hs (by omega) (by omega) (by rw [hw1.1 98 (by decide)]; exact h98)
    · rw [if_pos e] at y
      exact y.elim
  have go : C (p + 5) s ≠ 0 → ∀ I1, sg_wr 96 (80 * (dp + 1)) (fun r => I 96 (80 * dp + r)) 80 I I1 → AW l E d 0 0 mX10_walk 0 [some (vr 59), some (vi (I1 72 s)), some (vi (dp + 1)), none, none] [] sk_G (I1, L, sk_J cu sp io rp tp fp) (fun v G' σ' => AW l E (d + 1) 0 0 mX10_walkStep 399 [some (vr 59), some (vi s), some (vi dp), some (vi ri), none, none, none] (v.toList ++ []) G' σ' Q) := by
    intro e I1 hw1
    have g72 : I1 72 s = C (p + 8) s := by rw [hw1.1 72 (by decide), f72]
    rw [g72]
    refine c_M_inner hB T hT T hT (C (p + 8) s) dp (by omega) (sk_fue_n hf hs v10.2 (by omega)) (by omega) hdd _ hL hw1 hI (fun z => sf_hx_mono (hx z) (fun t T' y => (hV t T').mpr (Or.inr (by rw [if_neg e]; exact y)))) (fun v I' TT' h => ?_)
    have hq := hq v I' TT' ⟨h.1, h.2.1, h.2.2.1, fun z => ⟨fun x => by rw [hW x, if_neg e]; exact (h.2.2.2 z).1 x, fun t T' y => by
      rcases (hV t T').mp y with ⟨rfl, rfl⟩ | y
      · exact sg_vs_self hs (by omega) (by omega) ((h.2.1.2.2.2.1 _).1 h98)
      · rw [if_neg e] at y
        exact (h.2.2.2 z).2 t T' y⟩⟩
    exact AW_iret rfl rfl hq
  clear hq hx hW hV hI hL hB hf hv
  refine AW_run 80 rfl ?_
  refine AW_cV (M' := mX10_same) rfl kkX10_360 lcX10_same rfl rfl rfl rfl rfl rfl (Nat.le_refl _) ?_
  refine c_M_same I dp (by omega) (fun I1 hw1 => ?_)
  have e69 : I1 69 s = C (p + 5) s := by rw [hw1.1 69 (by decide), f69]
  refine AW_run 80 rfl ?_
  refine AW_iald rfl rfl ⟨by omega, by omega⟩ (by decide) ?_
  rw [e69]
  refine AW_ifne rfl (fun g => ?_) (fun g => ?_) (by unfold sk_in; omega)
  · have go := go g I1 hw1
    refine AW_run 80 rfl ?_
    refine AW_iald rfl rfl ⟨by omega, by omega⟩ (by decide) ?_
    refine AW_run 80 rfl ?_
    refine AW_cV (M' := mX10_walk) rfl kkX10_357 lcX10_walk rfl rfl rfl rfl rfl rfl (Nat.le_refl _) ?_
    exact go
  · have zero := zero g I1 hw1
    refine AW_run 80 rfl ?_
    exact AW_iret rfl rfl zero
theorem c_M_s10 (hv : sk_pv p D C) (h1 : sk_q1 p C I0) (hB : sg_BC l E L cu sp io rp tp fp p C D rm rT Go I0 n) (T : sk_Tb) (hT : sk_t8 T) (s dp ri : Int) (hs : 0 ≤ s ∧ s < C p 10) (hD : D s = dp + 1) (hf : sk_fue (n + 1) s) (hd : 0 ≤ dp ∧ dp ≤ 11) (hdd : 37 ≤ (d : Int) + 3 * dp) (hw : C (p + 3) s = 10) (hri : ri = 10 * C (p + 5) s + C (p + 6) s) (hL : sg_ht (I 96) (80 * dp) T) (hI : sg_iv p C rm rT Go I0 I TT) (h98 : I 98 s = 1) (hx : I 59 70 = 0 → sf_hx p C rm rT (sf_sV p C Go n T s)) (hq : ∀ v I' TT', sg_po p C rm rT Go I0 dp I TT (sk_WS p C Go (sk_WB p C Go n) T s) (sf_sV p C Go n T s) v I' TT' → Q (some (vi v)) sk_G (I', L, sk_J cu sp io rp tp fp)) : AW l E (d + 1) 0 0 mX10_walkStep 400 [some (vr 59), some (vi s), some (vi dp), some (vi ri), none, none, none] [] sk_G (I, L, sk_J cu sp io rp tp fp) Q := by
  obtain ⟨w1, w2, -, -, w6, w7, -, w8, w9⟩ := sf_wf hv hs
  have w9 := w9 (by omega)
  have w2 := w2 (Or.inr hw)
  have v10 := hv.2.1
  have hs2 : 0 ≤ s ∧ s < 200 := by omega
  obtain ⟨f67, f68, f69, f70, f71, f72, f73⟩ := (sg_q1 h1 hI.1).2.1 s hs.1 hs.2
  have hrT : -1 ≤ sk_rT p C s T ∧ sk_rT p C s T ≤ 7 := hT _ (by omega) (by omega)
  have e96 : I 96 (80 * dp + ri) = sk_rT p C s T := by rw [hL ri (by omega) (by omega), hri]; rfl
  have hW : ∀ x, sk_WS p C Go (sk_WB p C Go n) T s x ↔ (if sk_rT p C s T = -1 then sk_WB p C Go n T (C (p + 8) s) x else sk_WB p C Go n T (C (p + 9) s) x) := by
    intro x
    unfold sk_WS
    rw [if_neg (by omega), if_neg (by omega), if_neg (by omega), if_neg (by omega), if_neg (by omega), if_pos hw]
  have hV : ∀ t T', sf_sV p C Go n T s t T' ↔ ((t = s ∧ T' = T) ∨ (if sk_rT p C s T = -1 then sk_VB p C Go n T (C (p + 8) s) t T' else sk_VB p C Go n T (C (p + 9) s) t T')) := by
    intro t T'
    unfold sf_sV sk_VS
    rw [if_neg (by omega), if_neg (by omega), if_neg (by omega), if_pos hw]
  generalize sk_rT p C s T = R at *
  have go : ∀ u I1, ((R = -1 ∧ u = C (p + 8) s) ∨ (R ≠ -1 ∧ u = C (p + 9) s)) → sg_wr 96 (80 * (dp + 1)) (fun r => I 96 (80 * dp + r)) 80 I I1 → AW l E d 0 0 mX10_walk 0 [some (vr 59), some (vi u), some (vi (dp + 1)), none, none] [] sk_G (I1, L, sk_J cu sp io rp tp fp) (fun v G' σ' => AW l E (d + 1) 0 0 mX10_walkStep 442 [some (vr 59), some (vi s), some (vi dp), some (vi ri), none, none, none] (v.toList ++ []) G' σ' Q) := by
    intro u I1 hu hw1
    have wu : u = -1 ∨ (s < u ∧ u < C p 10 ∧ D u = D s + 1) := by
      rcases hu with ⟨_, rfl⟩ | ⟨_, rfl⟩
      · exact w6
      · exact w7
    have hW : ∀ x, sk_WS p C Go (sk_WB p C Go n) T s x ↔ sk_WB p C Go n T u x := by
      intro x
      rw [hW x]
      rcases hu with ⟨a, rfl⟩ | ⟨a, rfl⟩
      · rw [if_pos a]
      · rw [if_neg a]
    have hV : ∀ t T', sf_sV p C Go n T s t T' ↔ ((t = s ∧ T' = T) ∨ sk_VB p C Go n T u t T') := by
      intro t T'
      rw [hV t T']
      rcases hu with ⟨a, rfl⟩ | ⟨a, rfl⟩
      · rw [if_pos a]
      · rw [if_neg a]
    refine c_M_inner hB T hT T hT u dp (by omega) (sk_fue_n hf hs v10.2 (by omega)) (by omega) hdd _ hL hw1 hI (fun z => sf_hx_mono (hx z) (fun t T' y => (hV t T').mpr (Or.inr y))) (fun v I' TT' h => ?_)
    have hq := hq v I' TT' ⟨h.1, h.2.1, h.2.2.1, fun z => ⟨fun x => by rw [hW x]; exact (h.2.2.2 z).1 x, fun t T' y => by
      rcases (hV t T').mp y with ⟨rfl, rfl⟩ | y
      · exact sg_vs_self hs (by omega) (by omega) ((h.2.1.2.2.2.1 _).1 h98)
      · exact (h.2.2.2 z).2 t T' y⟩⟩
    exact AW_iret rfl rfl hq
  have b96 : 0 ≤ 80 * dp + ri ∧ 80 * dp + ri < 1280 := by omega
  clear hq hx hW hV hI hL hB hf hv
  refine AW_run 80 rfl ?_
  refine AW_cV (M' := mX10_same) rfl kkX10_360 lcX10_same rfl rfl rfl rfl rfl rfl (Nat.le_refl _) ?_
  refine c_M_same I dp (by omega) (fun I1 hw1 => ?_)
  have k96 : I1 96 (80 * dp + ri) = R := by rw [hw1.2.2 _ (by omega), e96]
  have k72 : I1 72 s = C (p + 8) s := by rw [hw1.1 72 (by decide), f72]
  have k73 : I1 73 s = C (p + 9) s := by rw [hw1.1 73 (by decide), f73]
  refine AW_run 80 rfl ?_
  refine AW_iald rfl rfl b96 (by decide) ?_
  rw [k96]
  refine AW_run 80 rfl ?_
  refine AW_icne rfl (fun g => ?_) (fun g => ?_) (by unfold sk_in; omega)
  · have go := go (I1 73 s) I1 (Or.inr ⟨g, k73⟩) hw1
    refine AW_run 80 rfl ?_
    refine AW_iald rfl rfl ⟨by omega, by omega⟩ (by decide) ?_
    refine AW_run 80 rfl ?_
    refine AW_cV (M' := mX10_walk) rfl kkX10_357 lcX10_walk rfl rfl rfl rfl rfl rfl (Nat.le_refl _) ?_
    exact go
  · have go := go (I1 72 s) I1 (Or.inl ⟨g, k72⟩) hw1
    refine AW_run 80 rfl ?_
    refine AW_iald rfl rfl ⟨by omega, by omega⟩ (by decide) ?_
    refine AW_run 80 rfl ?_
    refine AW_cV (M' := mX10_walk) rfl kkX10_357 lcX10_walk rfl rfl rfl rfl rfl rfl (Nat.le_refl _) ?_
    exact go
end SKG5
