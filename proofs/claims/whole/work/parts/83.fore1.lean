/-! ===== Foresight's small methods ===== -/
def sk_row1 (T : sk_Tb) (k : Int) : Int → Int := fun l => T (10 * k + l)
/-- a table of refusers -/
def sk_t8 (T : sk_Tb) : Prop := ∀ r, 0 ≤ r → r < 80 → -1 ≤ T r ∧ T r ≤ 7
theorem sk_t8_1 {T : sk_Tb} (h : sk_t8 T) {k : Int} (hk : 0 ≤ k ∧ k < 8) : sk_t1 (sk_row1 T k) := by
  intro l l0 l1
  have := h (10 * k + l) (by omega) (by omega)
  unfold sk_row1
  omega
/-- eight longs from a place on hold a table -/
def sk_ht (f : Int → Int64) (b : Int) (T : sk_Tb) : Prop := ∀ k, 0 ≤ k → k < 8 → f (b + k) = sk_lg (sk_row1 T k)
section SKF1
variable {l : Launch} {E : sk_En} {d : Nat} {I : sk_SI} {L : sk_SL} {cu sp io rp tp p : Nat} {Q : Option sk_V → List sk_Sh → sk_St → Prop}
theorem c_F_la (v : Int) (J : sk_SR) (hq : Q (some (vl (sk_la v))) sk_G (I, L, J)) : AW l E d 0 0 mX0_levelsAbove 0 [some (vi v)] [] sk_G (I, L, J) Q := by
  refine AW_run 80 rfl ?_
  exact AW_lret rfl rfl hq
theorem c_F_ra (x : Int64) (v : Int) (J : sk_SR) (hq : Q (some (vi (sk_ra x v))) sk_G (I, L, J)) : AW l E d 0 0 mX0_refuserAt 0 [some (vl x), none, some (vi v)] [] sk_G (I, L, J) Q := by
  refine AW_run 80 rfl ?_
  refine AW_ldc2 rfl kw_lX0_158 ?_
  refine AW_run 80 rfl ?_
  exact AW_iret rfl rfl hq
theorem c_F_change (dp k o : Int) (x : Int64) (hd : 0 ≤ dp ∧ dp ≤ 12) (hk : 0 ≤ k ∧ k < 8) (hq : Q none sk_G (I, sk_uL L 56 (dp * 8 + k) ((L 56 (dp * 8 + k) &&& (x ^^^ (-1))) ||| (sk_i2l (o + 1) * sk_one &&& x)), sk_J cu sp io rp tp p)) : AW l E (d + 1) 0 0 mX0_change 0 [some (vr 48), some (vi dp), some (vi k), some (vl x), none, some (vi o), none] [] sk_G (I, L, sk_J cu sp io rp tp p) Q := by
  refine AW_run 80 rfl ?_
  refine AW_within rfl kkX0_103 rfl (by omega) (fun w1 w2 => ?_) (fun w3 => by omega)
  refine AW_run 80 rfl ?_
  first | refine AW_e1 rfl ?_ | refine AW_e0 rfl ?_ | refine AW_n1 rfl ?_ | refine AW_n0 rfl ?_
  refine AW_run 80 rfl ?_
  refine AW_lald rfl rfl ⟨by omega, by omega⟩ (by decide) ?_
  refine AW_run 80 rfl ?_
  refine AW_ldc2 rfl kw_lX0_174 ?_
  refine AW_run 80 rfl ?_
  refine AW_ldc2 rfl kw_lX0_181 ?_
  refine AW_run 80 rfl ?_
  refine AW_last rfl rfl ⟨by omega, by omega⟩ (by decide) ?_
  refine AW_run 80 rfl ?_
  exact AW_vret rfl rfl hq
theorem c_F_copy (dp : Int) (hd : 0 ≤ dp ∧ dp ≤ 11) (hq : Q none sk_G (I, sk_cL L 56 (sk_cp (L 56) (L 56) (dp * 8) (dp * 8 + 8) 8), sk_J cu sp io rp tp p)) : AW l E (d + 1) 0 0 mX0_copyDown 0 [some (vr 48), some (vi dp), none] [] sk_G (I, L, sk_J cu sp io rp tp p) Q := by
  refine AW_run 80 rfl ?_
  refine AW_iflt rfl (fun g => by omega) (fun g => ?_) (by unfold sk_in; omega)
  refine AW_run 80 rfl ?_
  refine AW_icgt rfl (fun g => by omega) (fun g => ?_) (by unfold sk_in; omega) (by unfold sk_in; omega)
  refine AW_run 80 rfl ?_
  refine AW_acL rfl kw_pX0_84 (by omega) rfl rfl rfl (by omega) (by omega) (by omega) (by omega) (by omega) (by decide) (by decide) ?_
  refine AW_run 80 rfl ?_
  exact AW_vret rfl rfl hq
theorem c_F_rOf (hp : sk_pg p) (s dp : Int) (hd : 0 ≤ dp ∧ dp ≤ 12) (hs : 0 ≤ s ∧ s < 200) (T : sk_Tb) (hT : sk_t8 T) (hL : sk_ht (L 56) (dp * 8) T) (h5 : 0 ≤ I (p + 5) s ∧ I (p + 5) s ≤ 7) (h6 : 0 ≤ I (p + 6) s ∧ I (p + 6) s ≤ 9) (hq : Q (some (vi (sk_rT p I s T))) sk_G (I, L, sk_J cu sp io rp tp p)) : AW l E (d + 1) 0 0 mX0_refuserOf 0 [some (vr 48), some (vi s), some (vi dp), none] [] sk_G (I, L, sk_J cu sp io rp tp p) Q := by
  have e := hL (I (p + 5) s) h5.1 (by omega)
  have e2 := sk_ra_lg (sk_t8_1 hT (k := I (p + 5) s) ⟨h5.1, by omega⟩) (v := I (p + 6) s) ⟨h6.1, by omega⟩
  have e3 : sk_row1 T (I (p + 5) s) (I (p + 6) s) = sk_rT p I s T := rfl
  rw [e3, ← e] at e2
  rw [← e2] at hq
  have b1 : 0 ≤ dp * 8 + I (p + 5) s ∧ dp * 8 + I (p + 5) s < 104 := by omega
  have b2 : sk_in (dp * 8 + I (p + 5) s) := by unfold sk_in; omega
  clear e e2 e3 hL hT
  rcases hp with rfl | rfl <;>
  · refine AW_run 80 rfl ?_
    refine AW_iald rfl rfl ⟨by omega, by omega⟩ (by decide) ?_
    refine AW_run 80 rfl ?_
    refine AW_within rfl kkX0_103 rfl (by omega) (fun w1 w2 => ?_) (fun w3 => absurd b1 w3) b2 (by unfold sk_in; omega)
    refine AW_run 80 rfl ?_
    first | refine AW_e1 rfl ?_ | refine AW_e0 rfl ?_ | refine AW_n1 rfl ?_ | refine AW_n0 rfl ?_
    refine AW_run 80 rfl ?_
    refine AW_lald rfl rfl b1 (by decide) ?_
    refine AW_run 80 rfl ?_
    refine AW_iald rfl rfl ⟨by omega, by omega⟩ (by decide) ?_
    refine AW_cS (M' := mX0_refuserAt) (d' := d) rfl kkX0_154 lcX0_refuserAt rfl rfl rfl (Nat.le_refl _) ?_
    refine c_F_ra _ _ _ ?_
    refine AW_run 80 rfl ?_
    exact AW_iret rfl rfl hq
end SKF1
