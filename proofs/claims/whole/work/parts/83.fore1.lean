/-! ===== Foresight's small methods ===== -/
def sk_row1 (T : sk_Tb) (k : Int) : Int → Int := fun l => T (10 * k + l)
/-- a table of refusers -/
def sk_t8 (T : sk_Tb) : Prop := ∀ r, 0 ≤ r → r < 80 → -1 ≤ T r ∧ T r ≤ 7
theorem sk_t8_1 {T : sk_Tb} (h : sk_t8 T) {k : Int} (hk : 0 ≤ k ∧ k < 8) : sk_t1 (sk_row1 T k) := by
  intro l l0 l1
  have := h (10 * k + l) (by omega) (by omega)
  unfold sk_row1
  omega
/-- eight longs from a place on hold a table -/
def sk_ht (f : Int → Int64) (b : Int) (T : sk_Tb) : Prop := ∀ k, 0 ≤ k → k < 8 → f (b + k) = sk_lg (sk_row1 T k)
section SKF1
variable {l : Launch} {E : sk_En} {d : Nat} {I : sk_SI} {L : sk_SL} {cu sp io rp tp p : Nat} {Q : Option sk_V → List sk_Sh → sk_St → Prop}
theorem c_F_la (v : Int) (J : sk_SR) (hq : Q (some (vl (sk_la v))) sk_G (I, L, J)) : AW l E d 0 0 mX0_levelsAbove 0 [some (vi v)] [] sk_G (I, L, J) Q := by
  refine AW_run 80 rfl ?_
  exact AW_lret rfl rfl hq
theorem c_F_ra (x : Int64) (v : Int) (J : sk_SR) (hq : Q (some (vi (sk_ra x v))) sk_G (I, L, J)) : AW l E d 0 0 mX0_refuserAt 0 [some (vl x), none, some (vi v)] [] sk_G (I, L, J) Q := by
  refine AW_run 80 rfl ?_
  refine AW_ldc2 rfl kw_lX0_158 ?_
  refine AW_run 80 rfl ?_
  exact AW_iret rfl rfl hq
end SKF1
