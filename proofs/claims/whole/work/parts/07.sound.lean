/-! ===== the computed steps are steps ===== -/
section SKS
variable {l : Launch} {E : sk_En} {d mc ms : Nat} {M : sk_M} {pc pc0 len nxt pc' : Nat} {aux : List Nat} {ls ls' : List (Option sk_V)} {st st' : List sk_V} {G : List sk_Sh} {σ σ' : sk_St} {Q : Option sk_V → List sk_Sh → sk_St → Prop}
set_option maxHeartbeats 4000000 in
theorem sk_s1_ok {ins : Instr} (h : sk_find pc M.2.2.2.2 = some (pc0, ins, len, nxt, aux)) (hs : sk_s1 G M.2.2.1 nxt aux ls st σ ins = some (pc', ls', st', σ')) (k : AW l E d mc ms M pc' ls' st' G σ' Q) : AW l E d mc ms M pc ls st G σ Q := by
  cases ins
  case iconst n =>
    cases hs
    exact AW_iconst h k
  case bipush n =>
    cases hs
    exact AW_bipush h k
  case sipush n =>
    cases hs
    exact AW_sipush h k
  case lconst n =>
    cases hs
    exact AW_lconst h k
  case iload_n n =>
    simp only [sk_s1] at hs
    split at hs
    · rename_i hg; cases hs; exact AW_iload_n h (sk_gt_eq _ _ _ hg) k
    · cases hs
  case iload n =>
    simp only [sk_s1] at hs
    split at hs
    · rename_i hg; cases hs; exact AW_iload h (sk_gt_eq _ _ _ hg) k
    · cases hs
  case lload_n n =>
    simp only [sk_s1] at hs
    split at hs
    · rename_i hg; cases hs; exact AW_lload_n h (sk_gt_eq _ _ _ hg) k
    · cases hs
  case lload n =>
    simp only [sk_s1] at hs
    split at hs
    · rename_i hg; cases hs; exact AW_lload h (sk_gt_eq _ _ _ hg) k
    · cases hs
  case aload_n n =>
    simp only [sk_s1] at hs
    split at hs
    · rename_i hg; cases hs; exact AW_aload_n h (sk_gt_eq _ _ _ hg) k
    · cases hs
  case aload n =>
    simp only [sk_s1] at hs
    split at hs
    · rename_i hg; cases hs; exact AW_aload h (sk_gt_eq _ _ _ hg) k
    · cases hs
  case istore_n n =>
    simp only [sk_s1] at hs
    split at hs
    · rw [sk_fo_eq] at hs
      cases hb : Nat.blt (n : Nat) M.2.2.1 with
      | true => rw [hb] at hs; cases hs; exact AW_istore_n h (by simpa [Nat.blt_eq] using hb) k
      | false => rw [hb] at hs; cases hs
    · cases hs
  case istore n =>
    simp only [sk_s1] at hs
    split at hs
    · rw [sk_fo_eq] at hs
      cases hb : Nat.blt (n : Nat) M.2.2.1 with
      | true => rw [hb] at hs; cases hs; exact AW_istore h (by simpa [Nat.blt_eq] using hb) k
      | false => rw [hb] at hs; cases hs
    · cases hs
  case astore_n n =>
    simp only [sk_s1] at hs
    split at hs
    · rw [sk_fo_eq] at hs
      cases hb : Nat.blt (n : Nat) M.2.2.1 with
      | true => rw [hb] at hs; cases hs; exact AW_astore_n h (by simpa [Nat.blt_eq] using hb) k
      | false => rw [hb] at hs; cases hs
    · cases hs
  case astore n =>
    simp only [sk_s1] at hs
    split at hs
    · rw [sk_fo_eq] at hs
      cases hb : Nat.blt (n : Nat) M.2.2.1 with
      | true => rw [hb] at hs; cases hs; exact AW_astore h (by simpa [Nat.blt_eq] using hb) k
      | false => rw [hb] at hs; cases hs
    · cases hs
  case lstore_n n =>
    simp only [sk_s1] at hs
    split at hs
    · rw [sk_fo_eq] at hs
      cases hb : Nat.blt (n + 1 : Nat) M.2.2.1 with
      | true => rw [hb] at hs; cases hs; exact AW_lstore_n h (by simpa [Nat.blt_eq] using hb) k
      | false => rw [hb] at hs; cases hs
    · cases hs
  case lstore n =>
    simp only [sk_s1] at hs
    split at hs
    · rw [sk_fo_eq] at hs
      cases hb : Nat.blt (n + 1 : Nat) M.2.2.1 with
      | true => rw [hb] at hs; cases hs; exact AW_lstore h (by simpa [Nat.blt_eq] using hb) k
      | false => rw [hb] at hs; cases hs
    · cases hs
  case iinc n x =>
    simp only [sk_s1] at hs
    split at hs
    · rename_i hg; rw [sk_fo_eq] at hs
      cases hb : Nat.blt n M.2.2.1 with
      | true => rw [hb] at hs; cases hs; exact AW_iinc h (sk_gt_eq _ _ _ hg) (by simpa [Nat.blt_eq] using hb) k
      | false => rw [hb] at hs; cases hs
    · cases hs
  case iadd =>
    simp only [sk_s1] at hs
    split at hs
    · cases hs; exact AW_iadd h k
    · cases hs
  case isub =>
    simp only [sk_s1] at hs
    split at hs
    · cases hs; exact AW_isub h k
    · cases hs
  case imul =>
    simp only [sk_s1] at hs
    split at hs
    · cases hs; exact AW_imul h k
    · cases hs
  case iand =>
    simp only [sk_s1] at hs
    split at hs
    · cases hs; exact AW_iand h k
    · cases hs
  case ior =>
    simp only [sk_s1] at hs
    split at hs
    · cases hs; exact AW_ior h k
    · cases hs
  case ishr =>
    simp only [sk_s1] at hs
    split at hs
    · cases hs; exact AW_ishr h k
    · cases hs
  case iushr =>
    simp only [sk_s1] at hs
    split at hs
    · cases hs; exact AW_iushr h k
    · cases hs
  case lsub =>
    simp only [sk_s1] at hs
    split at hs
    · cases hs; exact AW_lsub h k
    · cases hs
  case lmul =>
    simp only [sk_s1] at hs
    split at hs
    · cases hs; exact AW_lmul h k
    · cases hs
  case land =>
    simp only [sk_s1] at hs
    split at hs
    · cases hs; exact AW_land h k
    · cases hs
  case lor =>
    simp only [sk_s1] at hs
    split at hs
    · cases hs; exact AW_lor h k
    · cases hs
  case lxor =>
    simp only [sk_s1] at hs
    split at hs
    · cases hs; exact AW_lxor h k
    · cases hs
  case lshl =>
    simp only [sk_s1] at hs
    split at hs
    · cases hs; exact AW_lshl h k
    · cases hs
  case lushr =>
    simp only [sk_s1] at hs
    split at hs
    · cases hs; exact AW_lushr h k
    · cases hs
  case i2l =>
    simp only [sk_s1] at hs
    split at hs
    · cases hs; exact AW_i2l h k
    · cases hs
  case l2i =>
    simp only [sk_s1] at hs
    split at hs
    · cases hs; exact AW_l2i h k
    · cases hs
  case lcmp =>
    simp only [sk_s1] at hs
    split at hs
    · cases hs; exact AW_lcmp h k
    · cases hs
  case dup =>
    simp only [sk_s1] at hs
    split at hs
    · cases hs; exact AW_dup h rfl k
    · cases hs; exact AW_dup h rfl k
    · cases hs
  case dup2 =>
    simp only [sk_s1] at hs
    split at hs
    · cases hs; exact AW_dup2 h rfl rfl k
    · cases hs
  case pop =>
    simp only [sk_s1] at hs
    split at hs
    · cases hs; exact AW_pop h rfl k
    · cases hs; exact AW_pop h rfl k
    · cases hs
  case goto off =>
    simp only [sk_s1] at hs
    split at hs
    · cases hs; exact AW_goto h k
    · cases hs
  case getfield idx =>
    simp only [sk_s1] at hs
    split at hs
    · split at hs
      · split at hs
        · rename_i ci j q tc _ ci2 hg
          cases hb : Nat.beq ci2 ci with
          | false => rw [hb] at hs; cases hs
          | true =>
            rw [hb] at hs
            have := Nat.eq_of_beq_eq_true hb
            subst this
            obtain ⟨I, L, J⟩ := σ
            cases ht : Nat.beq tc 3 with
            | false =>
              simp only [ht, cond_true, cond_false, sk_fj_eq] at hs
              cases hs
              exact AW_getI h (sk_gs_eq _ _ _ hg) ht k
            | true =>
              simp only [ht, cond_true] at hs
              split at hs
              · rename_i hj; cases hs; exact AW_getR h (sk_gs_eq _ _ _ hg) ht (by rw [hj]; exact k)
              · cases hs
        · cases hs
      · cases hs
    · cases hs
  case putfield idx =>
    simp only [sk_s1] at hs
    split at hs
    · split at hs
      · split at hs
        · rename_i ci j q tc _ ci2 hg
          cases hb : Nat.beq ci2 ci with
          | false => rw [hb] at hs; cases hs
          | true =>
            rw [hb] at hs
            have := Nat.eq_of_beq_eq_true hb
            subst this
            obtain ⟨I, L, J⟩ := σ
            simp only [cond_true] at hs
            split at hs
            · cases ht : Nat.beq tc 0 with
              | false => rw [ht] at hs; cases hs
              | true =>
                rw [ht, cond_true, sk_fj_eq] at hs; cases hs
                have := Nat.eq_of_beq_eq_true ht
                subst this
                exact AW_putI h (sk_gs_eq _ _ _ hg) k
            · cases ht : Nat.beq tc 3 with
              | false => rw [ht] at hs; cases hs
              | true =>
                rw [ht, cond_true, sk_fj_eq] at hs; cases hs
                have := Nat.eq_of_beq_eq_true ht
                subst this
                exact AW_putR h (sk_gs_eq _ _ _ hg) k
            · cases hs
        · cases hs
      · cases hs
    · cases hs
  case arraylength =>
    simp only [sk_s1] at hs
    split at hs
    · split at hs
      · rename_i tc n hg
        cases hb : Nat.blt tc 4 with
        | false => rw [hb] at hs; cases hs
        | true => rw [hb] at hs; cases hs; exact AW_alen h (sk_gs_eq _ _ _ hg) hb k
      · cases hs
    · cases hs
  all_goals exact absurd hs (by simp [sk_s1])
theorem AW_run (n : Nat) : ∀ {pc : Nat} {ls : List (Option sk_V)} {st : List sk_V} {σ : sk_St}, sk_run G M n pc ls st σ = some (pc', ls', st', σ') → AW l E d mc ms M pc' ls' st' G σ' Q → AW l E d mc ms M pc ls st G σ Q := by
  induction n with
  | zero => intro pc ls st σ h k; cases h; exact k
  | succ n ih =>
    intro pc ls st σ h k
    unfold sk_run at h
    split at h
    · cases h; exact k
    · rename_i hf
      split at h
      · cases h; exact k
      · rename_i hs
        exact sk_s1_ok hf hs (ih h k)
end SKS
