/-! ===== SealKeeper.within, Row ===== -/
section SKC1
variable {l : Launch} {E : sk_En} {d : Nat} {I : sk_SI} {L : sk_SL} {J : sk_SR} {Q : Option sk_V → List sk_Sh → sk_St → Prop}
theorem c_within {G : List sk_Sh} {σ : sk_St} (a b : Int) (ha : sk_in a) (hb : sk_in b) (hq : Q (some (vi (if 0 ≤ a ∧ a < b then 1 else 0))) G σ) : AW l E d 0 0 mX9_within 0 [some (vi a), some (vi b)] [] G σ Q := by
  refine AW_run 40 rfl ?_
  refine AW_iflt rfl (fun h => ?_) (fun h => ?_)
  · refine AW_run 40 rfl ?_
    rw [if_neg (by omega)] at hq
    exact AW_zret rfl rfl (Or.inl rfl) hq
  · refine AW_run 40 rfl ?_
    refine AW_icge rfl (fun h2 => ?_) (fun h2 => ?_)
    · refine AW_run 40 rfl ?_
      rw [if_neg (by omega)] at hq
      exact AW_zret rfl rfl (Or.inl rfl) hq
    · refine AW_run 40 rfl ?_
      rw [if_pos (by omega)] at hq
      exact AW_zret rfl rfl (Or.inr rfl) hq
end SKC1
