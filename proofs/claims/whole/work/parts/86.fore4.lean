/-! ===== Foresight.come: the rights within the method that is called ===== -/
def sk_pT (p : Nat) (I : sk_SI) (m : Int) (T : sk_Tb) (k : Int) : sk_Tb := fun r => if r / 10 < k then sk_cT p I m T r else T r
theorem sk_cT_8 {p : Nat} {I : sk_SI} {m : Int} {T : sk_Tb} (hT : sk_t8 T) (ho : 0 ≤ I (p + 1) m ∧ I (p + 1) m ≤ 7) : sk_t8 (sk_cT p I m T) := by
  intro r r0 r1
  have := hT r r0 r1
  unfold sk_cT
  rw [if_pos ⟨r0, r1⟩]
  split <;> omega
theorem sk_pT_8 {p : Nat} {I : sk_SI} {m : Int} {T : sk_Tb} (hT : sk_t8 T) (ho : 0 ≤ I (p + 1) m ∧ I (p + 1) m ≤ 7) (k : Int) : sk_t8 (sk_pT p I m T k) := by
  intro r r0 r1
  unfold sk_pT
  split
  · exact sk_cT_8 hT ho r r0 r1
  · exact hT r r0 r1
theorem sk_cT_in {p : Nat} {I : sk_SI} {m r : Int} {T : sk_Tb} (r0 : 0 ≤ r) (r1 : r < 80) : sk_cT p I m T r = if r % 10 ≤ I 8 (I (p + 1) m * 8 + r / 10) then T r else I (p + 1) m := by
  unfold sk_cT
  rw [if_pos ⟨r0, r1⟩]
theorem sk_pT_s {p : Nat} {I : sk_SI} {m k r : Int} {T : sk_Tb} (r0 : 0 ≤ r) (r1 : r < 80) : sk_tc (sk_pT p I m T k) k (fun l => decide (I 8 (I (p + 1) m * 8 + k) < l)) (I (p + 1) m) r = sk_pT p I m T (k + 1) r := by
  rw [sk_tc_in r0 r1]
  unfold sk_pT
  by_cases e1 : r / 10 = k
  · have a : r / 10 < k + 1 := by omega
    have b : ¬ r / 10 < k := by omega
    rw [if_pos a, if_neg b, sk_cT_in r0 r1, e1]
    by_cases e2 : r % 10 ≤ I 8 (I (p + 1) m * 8 + k)
    · rw [if_pos e2, if_neg (fun z => by have := of_decide_eq_true z.2; omega)]
    · rw [if_neg e2, if_pos ⟨rfl, decide_eq_true (by omega)⟩]
  · rw [if_neg (fun z => e1 z.1)]
    by_cases e2 : r / 10 < k
    · have a : r / 10 < k + 1 := by omega
      rw [if_pos e2, if_pos a]
    · have a : ¬ r / 10 < k + 1 := by omega
      rw [if_neg e2, if_neg a]
section SKF3
variable {l : Launch} {E : sk_En} {d : Nat} {I : sk_SI} {cu sp io rp tp p : Nat} {Q : Option sk_V → List sk_Sh → sk_St → Prop} {D : Int → Int}
theorem c_F_come_lp (hr : sk_ru I) (m dp : Int) (hd : 0 ≤ dp ∧ dp ≤ 11) (T : sk_Tb) (hT : sk_t8 T) (ho : 0 ≤ I (p + 1) m ∧ I (p + 1) m ≤ 7) (L0 : sk_SL) (hq : ∀ L', sk_ht (L' 56) ((dp + 1) * 8) (sk_cT p I m T) → sk_lfr ((dp + 1) * 8) L0 L' → AW l E (d + 2) 0 0 mX0_come 58 [some (vr 48), some (vi m), some (vi dp), some (vi (I (p + 1) m)), some (vi 8)] [vi (dp + 1), vi m, vr 48] sk_G (I, L', sk_J cu sp io rp tp p) Q) : ∀ (n : Nat) (k : Int) (L : sk_SL), 0 ≤ k → k + n = 8 → sk_ht (L 56) ((dp + 1) * 8) (sk_pT p I m T k) → sk_lfr ((dp + 1) * 8) L0 L → AW l E (d + 2) 0 0 mX0_come 21 [some (vr 48), some (vi m), some (vi dp), some (vi (I (p + 1) m)), some (vi k)] [vi 8, vi k] sk_G (I, L, sk_J cu sp io rp tp p) Q := by
  intro n
  induction n with
  | zero =>
    intro k L k0 hk hL hf
    have : k = 8 := by omega
    subst this
    have hq := hq L (sk_ht_eq hL (fun r r0 r1 => by unfold sk_pT; rw [if_pos (by omega)])) hf
    refine AW_icge rfl (fun g => ?_) (fun g => by omega)
    refine AW_run 80 rfl ?_
    exact hq
  | succ n ih =>
    intro k L k0 hk hL hf
    have h8 : 0 ≤ k ∧ k < 8 := by omega
    have hru := hr (I (p + 1) m * 8 + k) (by omega) (by omega)
    obtain ⟨g1, g2⟩ := sk_ht_chg hL (sk_pT_8 hT ho k) h8 (sk_mk_la (v := I 8 (I (p + 1) m * 8 + k)) hru) (o := I (p + 1) m) (by omega)
    have ih2 := ih (k + 1) _ (by omega) (by omega) (sk_ht_eq g1 (fun r r0 r1 => sk_pT_s r0 r1)) (sk_lfr_tr hf (sk_lfr_chg h8 _))
    refine AW_icge rfl (fun g => by omega) (fun g => ?_)
    refine AW_run 80 rfl ?_
    refine AW_cV (M' := mX5_of) rfl kkX0_176 lcX5_of rfl rfl rfl rfl rfl rfl (Nat.le_refl _) ?_
    refine c_Rules_of _ _ (by unfold sk_in; omega) (by unfold sk_in; omega) (fun _ _ _ _ => ?_) (fun z => by omega)
    refine AW_run 80 rfl ?_
    refine AW_cS (M' := mX0_levelsAbove) (d' := d + 1) rfl kkX0_170 lcX0_levelsAbove rfl rfl rfl (Nat.le_refl _) ?_
    refine c_F_la _ _ ?_
    refine AW_run 80 rfl ?_
    refine AW_cV (M' := mX0_change) rfl kkX0_166 lcX0_change rfl rfl rfl rfl rfl rfl (Nat.le_refl _) ?_
    refine c_F_change (dp + 1) k _ _ (by omega) h8 ?_
    refine AW_run 80 rfl ?_
    exact ih2
theorem c_F_come_r (hp : sk_pg p) (hr : sk_ru I) (L : sk_SL) (m dp : Int) (hd : 0 ≤ dp ∧ dp ≤ 11) (h9 : 0 ≤ I p 9 ∧ I p 9 ≤ 20) (hm : 0 ≤ m ∧ m < I p 9) (T : sk_Tb) (hT : sk_t8 T) (hL : sk_ht (L 56) (dp * 8) T) (ho : 0 ≤ I (p + 1) m ∧ I (p + 1) m ≤ 7) (hq : ∀ L', sk_ht (L' 56) ((dp + 1) * 8) (sk_cT p I m T) → sk_lfr ((dp + 1) * 8) L L' → AW l E (d + 2) 0 0 mX0_come 58 [some (vr 48), some (vi m), some (vi dp), some (vi (I (p + 1) m)), some (vi 8)] [vi (dp + 1), vi m, vr 48] sk_G (I, L', sk_J cu sp io rp tp p) Q) : AW l E (d + 2) 0 0 mX0_come 0 [some (vr 48), some (vi m), some (vi dp), none, none] [] sk_G (I, L, sk_J cu sp io rp tp p) Q := by
  obtain ⟨g1, g2⟩ := sk_ht_cp hL
  have eb : dp * 8 + 8 = (dp + 1) * 8 := by omega
  have lp := c_F_come_lp (l := l) (E := E) (d := d) (cu := cu) (sp := sp) (io := io) (rp := rp) (tp := tp) (p := p) (Q := Q) hr m dp hd T hT ho L hq 8 0 _ (by omega) (by omega) (sk_ht_eq (by rw [← eb]; exact g1) (fun r r0 r1 => by unfold sk_pT; rw [if_neg (by omega)])) ⟨fun c hc => by unfold sk_cL; rw [if_neg hc], fun i hi => g2 i (by omega)⟩
  have hp' := hp
  rcases hp with rfl | rfl <;>
  · refine AW_run 80 rfl ?_
    refine AW_cV (M' := mX0_copyDown) rfl kkX0_129 lcX0_copyDown rfl rfl rfl rfl rfl rfl (Nat.le_refl _) ?_
    refine c_F_copy dp hd ?_
    refine AW_run 80 rfl ?_
    refine AW_cV (M' := mX2_ownerOf) (d' := d + 1) rfl kkX0_161 lcX2_ownerOf rfl rfl rfl rfl rfl rfl (Nat.le_refl _) ?_
    refine c_Pg_owner _ hp' m (by unfold sk_in; omega) h9 (fun _ _ => ?_) (fun z => absurd hm z)
    refine AW_run 80 rfl ?_
    exact lp
end SKF3
