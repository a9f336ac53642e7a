/-! ===== Foresight.enterBlock ===== -/
theorem sk_ht_eq {f : Int → Int64} {b : Int} {T T' : sk_Tb} (h : sk_ht f b T) (he : ∀ r, 0 ≤ r → r < 80 → T r = T' r) : sk_ht f b T' := fun k k0 k1 => by
  rw [h k k0 k1]
  apply sk_lg_cg
  intro j hj
  exact he (10 * k + j) (by omega) (by omega)
/-- what the longs of other depths, and other cells, are left as -/
def sk_lfr (b : Int) (L L' : sk_SL) : Prop := (∀ c, c ≠ 56 → L' c = L c) ∧ ∀ i, ¬ (b ≤ i ∧ i < b + 8) → L' 56 i = L 56 i
theorem sk_lfr_tr {b : Int} {L L1 L2 : sk_SL} (h1 : sk_lfr b L L1) (h2 : sk_lfr b L1 L2) : sk_lfr b L L2 := ⟨fun c hc => (h2.1 c hc).trans (h1.1 c hc), fun i hi => (h2.2 i hi).trans (h1.2 i hi)⟩
theorem sk_lfr_chg {L : sk_SL} {b k : Int} (hk : 0 ≤ k ∧ k < 8) (v : Int64) : sk_lfr b L (sk_uL L 56 (b + k) v) := ⟨fun c hc => sk_uL_o hc, fun i hi => by rw [sk_uL_s, sk_upL_o (by omega)]⟩
theorem sk_tc_in {T : sk_Tb} {k o r : Int} {S : Int → Bool} (r0 : 0 ≤ r) (r1 : r < 80) : sk_tc T k S o r = if r / 10 = k ∧ S (r % 10) = true then o else T r := by
  unfold sk_tc
  by_cases h : r / 10 = k ∧ S (r % 10) = true
  · rw [if_pos h, if_pos ⟨⟨r0, r1⟩, h⟩]
  · rw [if_neg h, if_neg (fun z => h z.2)]
theorem sk_bT_3 {p : Nat} {I : sk_SI} {s r : Int} {T : sk_Tb} (e : I (p + 3) s = 3) (r0 : 0 ≤ r) (r1 : r < 80) : sk_bT p I s T r = if r / 10 = I (p + 5) s then I (p + 1) (I (p + 4) s) else T r := by
  unfold sk_bT
  rw [if_pos ⟨r0, r1⟩]
  by_cases ek : r / 10 = I (p + 5) s
  · rw [if_pos ek, if_pos ek, if_pos e]
  · rw [if_neg ek, if_neg ek]
theorem sk_bT_2 {p : Nat} {I : sk_SI} {s r : Int} {T : sk_Tb} (e : ¬ I (p + 3) s = 3) (r0 : 0 ≤ r) (r1 : r < 80) : sk_bT p I s T r = if r / 10 = I (p + 5) s then (if r % 10 ≤ I (p + 6) s then (if r % 10 ≤ I 8 (I (p + 1) (I (p + 4) s) * 8 + I (p + 5) s) then -1 else I (p + 1) (I (p + 4) s)) else T r) else T r := by
  unfold sk_bT
  rw [if_pos ⟨r0, r1⟩]
  by_cases ek : r / 10 = I (p + 5) s
  · rw [if_pos ek, if_pos ek, if_neg e]
  · rw [if_neg ek, if_neg ek]
section SKF2
variable {l : Launch} {E : sk_En} {d : Nat} {I : sk_SI} {L : sk_SL} {cu sp io rp tp p : Nat} {Q : Option sk_V → List sk_Sh → sk_St → Prop} {D : Int → Int}
theorem c_F_enter (hp : sk_pg p) (hv : sk_pv p D I) (hr : sk_ru I) (s dp : Int) (hd : 0 ≤ dp ∧ dp ≤ 12) (hs : 0 ≤ s ∧ s < I p 10) (hw : I (p + 3) s = 2 ∨ I (p + 3) s = 3) (T : sk_Tb) (hT : sk_t8 T) (hL : sk_ht (L 56) (dp * 8) T) (hq : ∀ L', sk_ht (L' 56) (dp * 8) (sk_bT p I s T) → sk_lfr (dp * 8) L L' → Q none sk_G (I, L', sk_J cu sp io rp tp p)) : AW l E (d + 2) 0 0 mX0_enterBlock 0 [some (vr 48), some (vi s), some (vi dp), none, none, none, none] [] sk_G (I, L, sk_J cu sp io rp tp p) Q := by
  have v9 := hv.1
  have v10 := hv.2.1
  have v9' : 0 ≤ I p 9 ∧ I p 9 ≤ 20 := ⟨by omega, v9.2⟩
  obtain ⟨w1, w2, w3, w4, -⟩ := hv.2.2.1 s hs.1 hs.2
  have ow := (hv.2.2.2.1 (I (p + 4) s) w2.1 w2.2).1
  have h5 : 0 ≤ I (p + 5) s ∧ I (p + 5) s < 8 := by
    unfold sk_no at w3
    rcases hw with z | z <;> rw [z] at w3
    · have : sk_mf 2 = 7 := rfl
      omega
    · have : sk_mf 3 = 7 := rfl
      omega
  have h6 : I (p + 3) s = 2 → 0 ≤ I (p + 6) s ∧ I (p + 6) s ≤ 9 := by
    intro z
    unfold sk_no at w4
    rw [z] at w4
    have : sk_ms 2 = 9 := rfl
    omega
  have hs2 : 0 ≤ s ∧ s < 200 := by omega
  have iw : sk_in (I (p + 3) s) := by unfold sk_in; omega
  have m4 : sk_in (I (p + 4) s) := by unfold sk_in; omega
  have hp' := hp
  have hru := hr (I (p + 1) (I (p + 4) s) * 8 + I (p + 5) s) (by omega) (by omega)
  generalize hO : I (p + 1) (I (p + 4) s) = O at *
  generalize hK : I (p + 5) s = K at *
  have oi : sk_in O := by unfold sk_in; omega
  have ki : sk_in K := by unfold sk_in; omega
  have ob : 0 ≤ O ∧ O < 8 ∧ 0 ≤ K ∧ K < 8 := by omega
  have cut : I (p + 3) s = 3 → AW l E (d + 2) 0 0 mX0_enterBlock 49 [some (vr 48), some (vi s), some (vi dp), some (vi O), some (vi K), none, none] [vi O, vl sk_all, vi K, vi dp, vr 48] sk_G (I, L, sk_J cu sp io rp tp p) Q := by
    intro e
    obtain ⟨g1, g2⟩ := sk_ht_chg hL hT h5 sk_mk_all (o := O) (by omega)
    have hq := hq _ (sk_ht_eq g1 (fun r r0 r1 => by
      rw [sk_tc_in r0 r1, sk_bT_3 e r0 r1, hO, hK]
      by_cases ek : r / 10 = K
      · rw [if_pos ek, if_pos ⟨ek, rfl⟩]
      · rw [if_neg ek, if_neg (fun z => ek z.1)])) (sk_lfr_chg h5 _)
    refine AW_cV (M' := mX0_change) rfl kkX0_166 lcX0_change rfl rfl rfl rfl rfl rfl (Nat.le_refl _) ?_
    refine c_F_change dp K O sk_all hd h5 ?_
    refine AW_run 80 rfl ?_
    exact AW_vret rfl rfl hq
  have lend : I (p + 3) s = 2 → AW l E (d + 2) 0 0 mX0_enterBlock 84 [some (vr 48), some (vi s), some (vi dp), some (vi O), some (vi K), some (vl (sk_all &&& (sk_la (I (p + 6) s) ^^^ (-1)))), none] [vi (-1), vl (sk_all &&& (sk_la (I (p + 6) s) ^^^ (-1))), vi K, vi dp, vr 48] sk_G (I, L, sk_J cu sp io rp tp p) Q := by
    intro e
    have h6 := h6 e
    have mk1 := sk_mk_not (sk_mk_la (v := I (p + 6) s) (by omega))
    have mk2 := sk_mk_and mk1 (sk_mk_la (v := I 8 (O * 8 + K)) (by omega))
    obtain ⟨g1, g2⟩ := sk_ht_chg hL hT h5 mk1 (o := -1) (by omega)
    obtain ⟨g3, g4⟩ := sk_ht_chg g1 (sk_tc_8 hT K _ (by omega)) h5 mk2 (o := O) (by omega)
    have hq := hq _ (sk_ht_eq g3 (fun r r0 r1 => by
      have n3 : ¬ I (p + 3) s = 3 := by omega
      rw [sk_tc_in r0 r1, sk_tc_in r0 r1, sk_bT_2 n3 r0 r1, hO, hK]
      by_cases ek : r / 10 = K
      · rw [if_pos ek]
        by_cases e6 : r % 10 ≤ I (p + 6) s
        · have b1 : (!decide (I (p + 6) s < r % 10)) = true := by simp; omega
          rw [if_pos e6]
          by_cases eh : r % 10 ≤ I 8 (O * 8 + K)
          · rw [if_pos eh, if_neg (fun z => by have := z.2; simp only [Bool.and_eq_true, decide_eq_true_eq] at this; omega), if_pos ⟨ek, b1⟩]
          · rw [if_neg eh, if_pos ⟨ek, by simp only [Bool.and_eq_true, decide_eq_true_eq]; exact ⟨b1, by omega⟩⟩]
        · have b1 : ¬ (!decide (I (p + 6) s < r % 10)) = true := by simp; omega
          rw [if_neg e6, if_neg (fun z => by have := z.2; simp only [Bool.and_eq_true] at this; exact b1 this.1), if_neg (fun z => b1 z.2)]
      · rw [if_neg ek, if_neg (fun z => ek z.1), if_neg (fun z => ek z.1)])) (sk_lfr_tr (sk_lfr_chg h5 _) (sk_lfr_chg h5 _))
    refine AW_cV (M' := mX0_change) rfl kkX0_166 lcX0_change rfl rfl rfl rfl rfl rfl (Nat.le_refl _) ?_
    refine c_F_change dp K (-1) _ hd h5 ?_
    refine AW_run 80 rfl ?_
    refine AW_cV (M' := mX5_of) rfl kkX0_176 lcX5_of rfl rfl rfl rfl rfl rfl (Nat.le_refl _) ?_
    refine c_Rules_of O K oi ki (fun _ _ _ _ => ?_) (fun z => absurd ob z)
    refine AW_run 80 rfl ?_
    refine AW_cS (M' := mX0_levelsAbove) (d' := d + 1) rfl kkX0_170 lcX0_levelsAbove rfl rfl rfl (Nat.le_refl _) ?_
    refine c_F_la _ _ ?_
    refine AW_run 80 rfl ?_
    refine AW_cV (M' := mX0_change) rfl kkX0_166 lcX0_change rfl rfl rfl rfl rfl rfl (Nat.le_refl _) ?_
    refine c_F_change dp K O _ hd h5 ?_
    refine AW_run 80 rfl ?_
    exact AW_vret rfl rfl hq
  clear hq hL hT hr hv
  rcases hp with rfl | rfl <;>
  · refine AW_run 80 rfl ?_
    refine AW_iald rfl rfl ⟨by omega, by omega⟩ (by decide) ?_
    refine AW_run 80 rfl ?_
    refine AW_cV (M' := mX2_ownerOf) (d' := d + 1) rfl kkX0_161 lcX2_ownerOf rfl rfl rfl rfl rfl rfl (Nat.le_refl _) ?_
    refine c_Pg_owner _ hp' _ m4 v9' (fun _ _ => ?_) (fun z => absurd w2 z)
    refine AW_run 80 rfl ?_
    refine AW_iald rfl rfl ⟨by omega, by omega⟩ (by decide) ?_
    refine AW_run 80 rfl ?_
    refine AW_iald rfl rfl ⟨by omega, by omega⟩ (by decide) ?_
    refine AW_run 80 rfl ?_
    refine AW_icne rfl (fun g => ?_) (fun g => ?_) iw
    · have lend := lend (by rcases hw with z | z; exact z; exact absurd z g)
      refine AW_run 80 rfl ?_
      refine AW_ldc2 rfl kw_lX0_164 ?_
      refine AW_run 80 rfl ?_
      refine AW_iald rfl rfl ⟨by omega, by omega⟩ (by decide) ?_
      refine AW_cS (M' := mX0_levelsAbove) (d' := d + 1) rfl kkX0_170 lcX0_levelsAbove rfl rfl rfl (Nat.le_refl _) ?_
      refine c_F_la _ _ ?_
      refine AW_run 80 rfl ?_
      refine AW_ldc2 rfl kw_lX0_174 ?_
      rw [← hO, ← hK] at lend
      refine AW_run 80 rfl ?_
      exact lend
    · have cut := cut g
      rw [← hO, ← hK] at cut
      refine AW_run 80 rfl ?_
      refine AW_ldc2 rfl kw_lX0_164 ?_
      refine AW_run 80 rfl ?_
      exact cut
end SKF2
