theorem AW_lk {l : Launch} {E : sk_En} {d mc ms : Nat} {M : sk_M} {pc : Nat} {ls ls' : List (Option sk_V)} {st : List sk_V} {G : List sk_Sh} {σ : sk_St} {Q : Option sk_V → List sk_Sh → sk_St → Prop} (k : AW l E d mc ms M pc ls' st G σ Q) (hs : sk_sb ls' ls) : AW l E d mc ms M pc ls st G σ Q := AW_ls hs k
/-! ===== Rules ===== -/
section SKC2
variable {l : Launch} {E : sk_En} {d : Nat} {I : sk_SI} {L : sk_SL} {cu sp io rp tp fp : Nat} {Q : Option sk_V → List sk_Sh → sk_St → Prop}
theorem c_Rules_of (o k : Int) (ho : sk_in o) (hk : sk_in k) (hT : 0 ≤ o → o < 8 → 0 ≤ k → k < 8 → Q (some (vi (I 8 (o * 8 + k)))) sk_G (I, L, sk_J cu sp io rp tp fp)) (hF : ¬ (0 ≤ o ∧ o < 8 ∧ 0 ≤ k ∧ k < 8) → Q (some (vi (-1))) sk_G (I, L, sk_J cu sp io rp tp fp)) : AW l E (d + 1) 0 0 mX5_of 0 [some (vr 7), some (vi o), some (vi k)] [] sk_G (I, L, sk_J cu sp io rp tp fp) Q := by
  refine AW_run 80 rfl ?_
  refine AW_within rfl kkX5_21 rfl (by omega) (fun w1 w2 => ?_) (fun w3 => ?_)
  · refine AW_run 80 rfl ?_
    first | refine AW_e1 rfl ?_ | refine AW_e0 rfl ?_ | refine AW_n1 rfl ?_ | refine AW_n0 rfl ?_
    refine AW_run 80 rfl ?_
    refine AW_within rfl kkX5_21 rfl (by omega) (fun w4 w5 => ?_) (fun w6 => ?_)
    · refine AW_run 80 rfl ?_
      first | refine AW_e1 rfl ?_ | refine AW_e0 rfl ?_ | refine AW_n1 rfl ?_ | refine AW_n0 rfl ?_
      refine AW_run 80 rfl ?_
      refine AW_iald rfl rfl ⟨by omega, by omega⟩ (by decide) ?_
      refine AW_run 80 rfl ?_
      exact AW_iret rfl rfl (hT w1 w2 w4 w5)
    · refine AW_run 80 rfl ?_
      first | refine AW_e1 rfl ?_ | refine AW_e0 rfl ?_ | refine AW_n1 rfl ?_ | refine AW_n0 rfl ?_
      refine AW_run 80 rfl ?_
      exact AW_iret rfl rfl (hF (by omega))
  · refine AW_run 80 rfl ?_
    first | refine AW_e1 rfl ?_ | refine AW_e0 rfl ?_ | refine AW_n1 rfl ?_ | refine AW_n0 rfl ?_
    refine AW_run 80 rfl ?_
    exact AW_iret rfl rfl (hF (by omega))
theorem c_Rules_replace (o k v : Int) (ho : 0 ≤ o ∧ o < 8) (hk : 0 ≤ k ∧ k < 8) (hq : Q (some (vi (I 8 (o * 8 + k)))) sk_G (sk_uI I 8 (o * 8 + k) v, L, sk_J cu sp io rp tp fp)) : AW l E (d + 2) 0 0 mX5_replace 0 [some (vr 7), some (vi o), some (vi k), some (vi v), none] [] sk_G (I, L, sk_J cu sp io rp tp fp) Q := by
  refine AW_run 80 rfl ?_
  refine AW_cV (M' := mX5_of) rfl kkX5_25 lcX5_of rfl rfl rfl rfl rfl rfl (Nat.le_refl _) ?_
  refine c_Rules_of (d := d) o k (by unfold sk_in; omega) (by unfold sk_in; omega) (fun _ _ _ _ => ?_) (fun h => by omega)
  refine AW_run 80 rfl ?_
  refine AW_within rfl kkX5_21 rfl (by omega) (fun w1 w2 => ?_) (fun w3 => ?_)
  · refine AW_run 80 rfl ?_
    first | refine AW_e1 rfl ?_ | refine AW_e0 rfl ?_ | refine AW_n1 rfl ?_ | refine AW_n0 rfl ?_
    refine AW_run 80 rfl ?_
    refine AW_within rfl kkX5_21 rfl (by omega) (fun w4 w5 => ?_) (fun w6 => ?_)
    · refine AW_run 80 rfl ?_
      first | refine AW_e1 rfl ?_ | refine AW_e0 rfl ?_ | refine AW_n1 rfl ?_ | refine AW_n0 rfl ?_
      refine AW_run 80 rfl ?_
      refine AW_iast rfl rfl ⟨by omega, by omega⟩ (by decide) ?_
      refine AW_run 80 rfl ?_
      exact AW_iret rfl rfl hq
    · omega
  · omega
def sk_ng (f : Int → Int) : Int → Int := fun i => if f i = -1 then 0 else 1
theorem c_Rules_given (hI : ∀ i, 0 ≤ i → i < 64 → sk_in (I 8 i)) (hq : Q (some (vi (sk_sum (sk_ng (I 8)) 64))) sk_G (I, L, sk_J cu sp io rp tp fp)) : AW l E d 0 0 mX5_given 0 [some (vr 7), none, none, none, none, none] [] sk_G (I, L, sk_J cu sp io rp tp fp) Q := by
  have key : ∀ (m : Nat) (i : Int), 0 ≤ i → i + m = 64 → AW l E d 0 0 mX5_given 16 [some (vr 7), some (vi (sk_sum (sk_ng (I 8)) i.toNat)), some (vr 8), some (vi 64), some (vi i), none] [vi 64, vi i] sk_G (I, L, sk_J cu sp io rp tp fp) Q := by
    intro m
    induction m with
    | zero =>
      intro i h0 hi
      refine AW_icge rfl (fun h => ?_) (fun h => ?_)
      · refine AW_run 80 rfl ?_
        rw [show i.toNat = 64 by omega]
        exact AW_iret rfl rfl hq
      · omega
    | succ m ih =>
      intro i h0 hi
      refine AW_icge rfl (fun h => ?_) (fun h => ?_)
      · omega
      · refine AW_run 80 rfl ?_
        refine AW_iald rfl rfl ⟨by omega, by omega⟩ (by decide) ?_
        refine AW_run 80 rfl ?_
        refine AW_icne rfl (fun h2 => ?_) (fun h2 => ?_) (hI i h0 (by omega))
        · refine AW_run 80 rfl ?_
          exact AW_lk (ih (i + 1) (by omega) (by omega)) ⟨rfl, by rw [sk_sum_s _ h0, sk_ng, if_neg h2], rfl, rfl, rfl, trivial⟩
        · refine AW_run 80 rfl ?_
          exact AW_lk (ih (i + 1) (by omega) (by omega)) ⟨rfl, by rw [sk_sum_s _ h0, sk_ng, if_pos h2], rfl, rfl, rfl, trivial⟩
  refine AW_run 80 rfl ?_
  exact key 64 0 (by omega) (by omega)
end SKC2
