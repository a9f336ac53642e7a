/-! ===== Runner.doStep, beginTurn ===== -/
def sk_bit (I : sk_SI) : Int := if 0 ≤ I 44 5 ∧ I 44 5 < I 3 1 then I 4 (I 44 5) else -1
def sk_dsI (p : Nat) (s num st : Int) (I : sk_SI) : sk_SI :=
  if I (p + 3) s = 0 then (if sk_rf p (sk_bmp 7 I) (I (p + 5) s) (I (p + 6) s) 3021 st = -1 then sk_bmp 7 I else sk_flI p s (sk_rf p (sk_bmp 7 I) (I (p + 5) s) (I (p + 6) s) 3021 st) (sk_bmp 7 I))
  else if I (p + 3) s = 1 then sk_omI p num st I
  else if I (p + 3) s = 2 ∨ I (p + 3) s = 3 then sk_fpu 3 s (I (p + 8) s) (I 45 4) (sk_ent s st I)
  else if I (p + 3) s = 4 then sk_uI I 41 num st
  else if I (p + 3) s = 5 then (if I 41 num = -1 then sk_flI p s (-1) I else sk_fpu 3 s (I (p + 8) s) (I 45 4) (sk_ent s (I 41 num) I))
  else if I (p + 3) s = 6 then sk_poI num st I
  else if I (p + 3) s = 7 then sk_fpu 1 s (I (p + 8) s) st I
  else if I (p + 3) s = 8 then (if 0 < num ∧ I (p + 8) s ≠ -1 then sk_uI (sk_fpu 2 s (I (p + 8) s) st I) 40 (I 35 5 + 1 - 1) (num - 1) else I)
  else if I (p + 3) s = 9 then sk_nte num I
  else if I (p + 3) s = 10 then sk_fpu 3 s (if sk_rf p (sk_bmp 7 I) (I (p + 5) s) (I (p + 6) s) 3021 st = -1 then I (p + 8) s else I (p + 9) s) st (sk_bmp 7 I)
  else if I (p + 3) s = 11 then sk_fpu 3 s (if sk_bit I = 1 then I (p + 8) s else I (p + 9) s) st (if sk_bit I = -1 then I else sk_bmp 5 I)
  else sk_gbI I
def sk_btI (p : Nat) (s : Int) (I : sk_SI) : sk_SI := if I 34 11 ≤ I 44 0 then sk_uI I 34 13 1 else sk_dsI p s (I (p + 5) s) (I 39 (I 35 5 - 1)) (sk_uI (sk_bmp 0 I) 38 (I 35 5 - 1) (I (p + 7) s))
theorem sk_rf_b {p : Nat} {I : sk_SI} {D : Int → Int} (hv : sk_pv p D I) (he : sk_ev p I) (k v : Int) : ∀ (n : Nat) (a : Int), a < I 45 4 → -1 ≤ sk_rf p I k v n a ∧ sk_rf p I k v n a ≤ 7
  | 0, a, _ => by unfold sk_rf; omega
  | n + 1, a, ha => by
    unfold sk_rf
    by_cases h0 : a < 0
    · rw [if_pos h0]; omega
    · rw [if_neg h0]
      obtain ⟨e1, e2⟩ := he a (by omega) ha
      have ih := sk_rf_b hv he k v n (I 47 a) (by omega)
      obtain ⟨v9, v10, vl, vm, vc⟩ := hv
      by_cases hneg : I 46 a < 0
      · rw [if_pos hneg]
        have := (vm (-1 - I 46 a) (by omega) (by omega)).1
        split <;> omega
      · rw [if_neg hneg]
        have e1 : 0 ≤ I 46 a ∧ I 46 a < I p 10 := by omega
        obtain ⟨l1, l2, -⟩ := vl (I 46 a) e1.1 e1.2
        have := (vm (I (p + 4) (I 46 a)) l2.1 l2.2).1
        split
        · split <;> omega
        · split
          · split
            · split <;> omega
            · exact ih
          · split <;> omega
section SKX3
variable {l : Launch} {E : sk_En} {d : Nat} {L : sk_SL} {cu sp io tp fp p : Nat} {Q : Option sk_V → List sk_Sh → sk_St → Prop} {D : Int → Int}
theorem sk_sv_bmp (hp : sk_pg p) {I : sk_SI} (j : Int) : (∀ k, k ≤ 9 → sk_bmp j I (p + k) = I (p + k)) := fun k hk => by unfold sk_bmp; exact sk_uI_o (by rcases hp with rfl | rfl <;> omega)
theorem sk_pv_cg {I I' : sk_SI} (h : sk_pv p D I) (hc : ∀ k, k ≤ 9 → I' (p + k) = I (p + k)) : sk_pv p D I' := by
  have h0 : I' p = I p := hc 0 (by omega)
  obtain ⟨a, b, c, e, f⟩ := h
  refine ⟨by rw [h0]; exact a, by rw [h0]; exact b, sk_wl_cg c (by rw [h0]) (by rw [h0]) (fun k k1 k2 => ?_), fun m m0 m1 => ?_, fun s s0 s1 hs => ?_⟩
  · have := hc (k - p) (by omega)
    rw [show p + (k - p) = k by omega] at this
    exact this
  · rw [h0] at m1
    rw [hc 1 (by omega), hc 2 (by omega), h0]
    exact e m m0 m1
  · rw [h0] at s1
    rw [hc 3 (by omega)] at hs
    rw [hc 5 (by omega), h0]
    exact f s s0 s1 hs
theorem sk_ev_cg {I I' : sk_SI} (h : sk_ev p I) (hc : ∀ k, k ≤ 9 → I' (p + k) = I (p + k)) (h46 : I' 46 = I 46) (h47 : I' 47 = I 47) (h45 : I' 45 4 = I 45 4) : sk_ev p I' := by
  have h0 : I' p = I p := hc 0 (by omega)
  unfold sk_ev sk_ev1
  rw [h46, h47, h45, h0, hc 3 (by omega)]
  exact h
theorem c_X_judge (hp : sk_pg p) (I : sk_SI) (s st : Int) (hv : sk_pv p D I) (he : sk_ev p I) (hr : sk_ru I) (hz : 0 ≤ I 45 4 ∧ I 45 4 ≤ 3021) (hs : 0 ≤ s ∧ s < I p 10) (hw : I (p + 3) s = 0 ∨ I (p + 3) s = 10) (hst : -1 ≤ st ∧ st < I 45 4) (hq : Q (some (vi (sk_rf p (sk_bmp 7 I) (I (p + 5) s) (I (p + 6) s) 3021 st))) sk_G (sk_bmp 7 I, L, sk_J cu sp io p p fp)) : AW l E (d + 3) 0 0 mX6_judge 0 [some (vr 34), some (vi s), some (vi st)] [] sk_G (I, L, sk_J cu sp io p p fp) Q := by
  have hp' := hp
  have bo := sk_sv_bmp hp (I := I) 7
  have v10 := hv.2.1
  obtain ⟨l1, l2, l3, l4, -⟩ := hv.2.2.1 s hs.1 hs.2
  have f5 : 0 ≤ I (p + 5) s ∧ I (p + 5) s ≤ 7 ∧ 0 ≤ I (p + 6) s ∧ I (p + 6) s ≤ 9 := by
    unfold sk_no at l3 l4
    rcases hw with z | z <;> rw [z] at l3 l4
    · have : sk_mf 0 = 7 := rfl
      have : sk_ms 0 = 9 := rfl
      omega
    · have : sk_mf 10 = 7 := rfl
      have : sk_ms 10 = 9 := rfl
      omega
  have b45 : sk_bmp 7 I 45 = I 45 := by unfold sk_bmp; exact sk_uI_o (by decide)
  have ref := fun Q' hq' => c_St_refuser (l := l) (E := E) (d := d) (L := L) (cu := cu) (sp := sp) (io := io) (rp := p) (fp := fp) (Q := Q') (I := sk_bmp 7 I) hp (sk_pv_cg hv bo) (sk_ev_cg he bo (by unfold sk_bmp; exact sk_uI_o (by decide)) (by unfold sk_bmp; exact sk_uI_o (by decide)) (by rw [b45])) (by intro i i0 i1; unfold sk_bmp; rw [sk_uI_o (by decide)]; exact hr i i0 i1) (by rw [b45]; exact hz) st (I (p + 5) s) (I (p + 6) s) (by omega) (by omega) (by rw [b45]; exact hst) hq'
  have e5 : sk_bmp 7 I (p + 5) = I (p + 5) := bo 5 (by omega)
  have e6 : sk_bmp 7 I (p + 6) = I (p + 6) := bo 6 (by omega)
  rw [← e5, ← e6] at ref hq
  rcases hp with rfl | rfl <;>
  · refine AW_run 80 rfl ?_
    refine AW_iald rfl rfl ⟨by omega, by omega⟩ (by decide) ?_
    refine AW_run 80 rfl ?_
    refine AW_iast rfl rfl ⟨by omega, by omega⟩ (by decide) ?_
    refine AW_run 80 rfl ?_
    refine AW_iald rfl rfl ⟨by omega, by omega⟩ (by decide) ?_
    refine AW_run 80 rfl ?_
    refine AW_iald rfl rfl ⟨by omega, by omega⟩ (by decide) ?_
    refine AW_run 80 rfl ?_
    refine AW_cV (M' := mX7_refuser) rfl kkX6_221 lcX7_refuser rfl rfl rfl rfl rfl rfl (Nat.le_refl _) ?_
    refine ref _ ?_
    refine AW_run 80 rfl ?_
    exact AW_iret rfl rfl hq
theorem c_X_bit (I : sk_SI) (h3 : 0 ≤ I 3 1 ∧ I 3 1 ≤ 400) (h5 : 0 ≤ I 44 5 ∧ I 44 5 ≤ I 3 1) (hb : ∀ i, 0 ≤ i → i < I 3 1 → 0 ≤ I 4 i ∧ I 4 i ≤ 1) (hq : Q (some (vi (sk_bit I))) sk_G (if sk_bit I = -1 then I else sk_bmp 5 I, L, sk_J cu sp io p tp fp)) : AW l E (d + 1) 0 0 mX6_takeBit 0 [some (vr 34), none] [] sk_G (I, L, sk_J cu sp io p tp fp) Q := by
  unfold sk_bit at hq
  refine AW_run 80 rfl ?_
  refine AW_iald rfl rfl ⟨by omega, by omega⟩ (by decide) ?_
  refine AW_run 80 rfl ?_
  refine AW_cV (M' := mX4_at) rfl kkX6_228 lcX4_at rfl rfl rfl rfl rfl rfl (Nat.le_refl _) ?_
  refine c_Row_at 3 400 (by unfold sk_row; omega) _ (by unfold sk_in; omega) h3.2 h3.1 (fun g1 g2 => ?_) (fun g => ?_)
  · rw [if_pos ⟨g1, g2⟩] at hq
    have hb := hb (I 44 5) g1 g2
    rw [if_neg (by omega)] at hq
    unfold sk_bmp at hq
    refine AW_run 80 rfl ?_
    refine AW_iceq rfl (fun z => ?_) (fun z => ?_) (show sk_in (I 4 (I 44 5)) by unfold sk_in; omega)
    · have z : I 4 (I 44 5) = -1 := z
      omega
    · refine AW_run 80 rfl ?_
      refine AW_iald rfl rfl ⟨by omega, by omega⟩ (by decide) ?_
      refine AW_run 80 rfl ?_
      refine AW_iast rfl rfl ⟨by omega, by omega⟩ (by decide) ?_
      refine AW_run 80 rfl ?_
      exact AW_iret rfl rfl hq
  · rw [if_neg g, if_pos rfl] at hq
    refine AW_run 80 rfl ?_
    refine AW_iceq rfl (fun z => ?_) (fun z => absurd rfl z) (by unfold sk_in; omega)
    refine AW_run 80 rfl ?_
    exact AW_iret rfl rfl hq
theorem c_X_under (hp : sk_pg p) (I : sk_SI) (s num : Int) (hn : 0 ≤ num ∧ num ≤ 3) (hs : 0 ≤ s ∧ s < I p 10) (h10 : 0 ≤ I p 10 ∧ I p 10 ≤ 200) (hk : sk_in (I 41 num)) (h5 : 0 ≤ I 5 1 ∧ I 5 1 < 3000) (hd : 0 ≤ I 35 5 ∧ I 35 5 < 480) (hz : 0 ≤ I 45 4 ∧ I 45 4 < 3021) (hF : ∀ i, 0 ≤ i → i < I 35 5 → (0 ≤ I 36 i ∧ I 36 i ≤ 3) ∧ (I 36 i = 1 → 0 ≤ I 37 i ∧ I 37 i < I p 10)) (hq : Q none sk_G (if I 41 num = -1 then sk_flI p s (-1) I else sk_fpu 3 s (I (p + 8) s) (I 45 4) (sk_ent s (I 41 num) I), L, sk_J cu sp io p tp fp)) : AW l E (d + 3) 0 0 mX6_under 0 [some (vr 34), some (vi s), some (vi num), none] [] sk_G (I, L, sk_J cu sp io p tp fp) Q := by
  have hp' := hp
  refine AW_run 80 rfl ?_
  refine AW_within rfl kkX6_118 rfl (by omega) (fun w1 w2 => ?_) (fun w3 => by omega)
  refine AW_run 80 rfl ?_
  first | refine AW_e1 rfl ?_ | refine AW_e0 rfl ?_ | refine AW_n1 rfl ?_ | refine AW_n0 rfl ?_
  refine AW_run 80 rfl ?_
  refine AW_iald rfl rfl ⟨by omega, by omega⟩ (by decide) ?_
  refine AW_run 80 rfl ?_
  refine AW_icne rfl (fun g => ?_) (fun g => ?_) hk
  · rw [if_neg g] at hq
    rcases hp with rfl | rfl <;>
    · refine AW_run 80 rfl ?_
      refine AW_iald rfl rfl ⟨by omega, by omega⟩ (by decide) ?_
      refine AW_run 80 rfl ?_
      refine AW_cV (M' := mX7_withBlock) rfl kkX6_191 lcX7_withBlock rfl rfl rfl rfl rfl rfl (Nat.le_refl _) ?_
      refine c_St_block s _ hz ?_
      refine AW_run 80 rfl ?_
      refine AW_cV (M' := mX6_open) (d' := d + 1) rfl kkX6_194 lcX6_open rfl rfl rfl rfl rfl rfl (by omega) ?_
      refine c_X_open _ _ _ _ (by (try simp only [sk_uI_s, sk_uI_o, sk_up_s, sk_up_o, sk_uL_s, sk_uL_o, ne_eq, Nat.reduceEqDiff, Nat.reduceAdd, Int.reduceEq, not_false_eq_true]); exact hd) ?_
      refine AW_run 80 rfl ?_
      exact AW_vret rfl rfl hq
  · rw [if_pos g] at hq
    refine AW_run 80 rfl ?_
    refine AW_cV (M' := mX6_fail) rfl kkX6_225 lcX6_fail rfl rfl rfl rfl rfl rfl (Nat.le_refl _) ?_
    refine c_X_fail hp I s (-1) h5 (by omega) h10 hF ?_
    refine AW_run 80 rfl ?_
    exact AW_vret rfl rfl hq
theorem c_X_repeat (hp : sk_pg p) (I : sk_SI) (s num st : Int) (hn : 0 ≤ num ∧ num ≤ 99) (hs : 0 ≤ s ∧ s < 200) (hin : sk_in (I (p + 8) s)) (hd : 0 ≤ I 35 5 ∧ I 35 5 < 480) (hq : Q none sk_G (if 0 < num ∧ I (p + 8) s ≠ -1 then sk_uI (sk_fpu 2 s (I (p + 8) s) st I) 40 (I 35 5 + 1 - 1) (num - 1) else I, L, sk_J cu sp io p tp fp)) : AW l E (d + 1) 0 0 mX6_repeat 0 [some (vr 34), some (vi s), some (vi num), some (vi st)] [] sk_G (I, L, sk_J cu sp io p tp fp) Q := by
  refine AW_run 80 rfl ?_
  refine AW_ifle rfl (fun g => ?_) (fun g => ?_) (by unfold sk_in; omega)
  · rw [if_neg (by omega)] at hq
    refine AW_run 80 rfl ?_
    exact AW_vret rfl rfl hq
  · rcases hp with rfl | rfl <;>
    · refine AW_run 80 rfl ?_
      refine AW_iald rfl rfl ⟨by omega, by omega⟩ (by decide) ?_
      refine AW_run 80 rfl ?_
      refine AW_iceq rfl (fun g2 => ?_) (fun g2 => ?_) hin
      · rw [if_neg (fun z => z.2 g2)] at hq
        refine AW_run 80 rfl ?_
        exact AW_vret rfl rfl hq
      · rw [if_pos ⟨by omega, g2⟩] at hq
        unfold sk_fpu at hq
        refine AW_run 80 rfl ?_
        refine AW_iald rfl rfl ⟨by omega, by omega⟩ (by decide) ?_
        refine AW_run 80 rfl ?_
        refine AW_cV (M' := mX1_push) rfl kkX6_141 lcX1_push rfl rfl rfl rfl rfl rfl (Nat.le_refl _) ?_
        refine c_Fr_push _ _ _ _ hd ?_
        refine AW_run 80 rfl ?_
        refine AW_cV (M' := mX1_setTimesLeft) rfl kkX6_154 lcX1_setTimesLeft rfl rfl rfl rfl rfl rfl (Nat.le_refl _) ?_
        refine c_Fr_setTimes _ (by (try simp only [sk_uI_s, sk_uI_o, sk_up_s, sk_up_o, sk_uL_s, sk_uL_o, ne_eq, Nat.reduceEqDiff, Nat.reduceAdd, Int.reduceEq, not_false_eq_true]); omega) ?_
        (try simp only [sk_uI_s, sk_uI_o, sk_up_s, sk_up_o, sk_uL_s, sk_uL_o, ne_eq, Nat.reduceEqDiff, Nat.reduceAdd, Int.reduceEq, not_false_eq_true])
        refine AW_run 80 rfl ?_
        exact AW_vret rfl rfl hq
end SKX3
