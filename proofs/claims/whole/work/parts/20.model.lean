/-! ===== SealKeeperModel: the short methods (the object is cell 59; tape 60, rules 61, bits 62, methods 63, owners 64, firsts 65, steps 66, word 67, methodOf 68, one 69, two 70, nextOf 71, blockOne 72, blockTwo 73, deepest 74, notes 90) ===== -/
section SKD0
variable {l : Launch} {E : sk_En} {d mc ms : Nat} {M : sk_M} {pc pc0 len nxt idx : Nat} {aux : List Nat} {ls : List (Option sk_V)} {st : List sk_V} {G : List sk_Sh} {σ : sk_St} {Q : Option sk_V → List sk_Sh → sk_St → Prop}
theorem c_in (v a b : Int) (hv : sk_in v) (ha : sk_in a) (hb : sk_in b) (hT : a ≤ v → v ≤ b → Q (some (vi 1)) G σ) (hF : ¬ (a ≤ v ∧ v ≤ b) → Q (some (vi 0)) G σ) : AW l E d 0 0 mX10_in 0 [some (vi v), some (vi a), some (vi b)] [] G σ Q := by
  refine AW_run 80 rfl ?_
  refine AW_iclt rfl (fun h => ?_) (fun h => ?_)
  · refine AW_run 80 rfl ?_
    exact AW_zret rfl rfl (Or.inl rfl) (hF (by omega))
  · refine AW_run 80 rfl ?_
    refine AW_icgt rfl (fun h2 => ?_) (fun h2 => ?_)
    · refine AW_run 80 rfl ?_
      exact AW_zret rfl rfl (Or.inl rfl) (hF (by omega))
    · refine AW_run 80 rfl ?_
      exact AW_zret rfl rfl (Or.inr rfl) (hT (by omega) (by omega))
theorem AW_in {v a b : Int} (h : sk_find pc M.2.2.2.2 = some (pc0, (.invokestatic idx), len, nxt, aux)) (hL : sk_lS M.1.cls idx mX10_in) (hW : Nat.ble (sk_cs st) 8 = true) (hd : 1 ≤ d) (kT : a ≤ v → v ≤ b → AW l E d mc ms M nxt ls (vi 1 :: st) G σ Q) (kF : ¬ (a ≤ v ∧ v ≤ b) → AW l E d mc ms M nxt ls (vi 0 :: st) G σ Q) (hv : sk_in v := by (first | assumption | (unfold sk_in; omega))) (ha : sk_in a := by (first | assumption | (unfold sk_in; omega))) (hb : sk_in b := by (first | assumption | (unfold sk_in; omega))) : AW l E d mc ms M pc ls (vi b :: vi a :: vi v :: st) G σ Q :=
  AW_callS (d' := 0) h hL lcX10_in rfl hW rfl hd (Nat.zero_add mc).symm (Nat.zero_add ms).symm (c_in v a b hv ha hb kT kF)
end SKD0
/-- a number behind the model's tape -/
def sk_am (I : sk_SI) (c : Int) : sk_SI := sk_uI (sk_uI I 60 (I 59 2) c) 59 2 (I 59 2 + 1)
theorem sk_am_n (I : sk_SI) (c : Int) : sk_am I c 59 2 = I 59 2 + 1 := by
  unfold sk_am
  rw [sk_uI_s, sk_up_s]
def sk_bz (a s : Int) : Int := sk_and (sk_shr a s) 255
def sk_a4 (I : sk_SI) (a : Int) : sk_SI := sk_am (sk_am (sk_am (sk_am I (sk_bz a 24)) (sk_bz a 16)) (sk_bz a 8)) (sk_bz a 0)
theorem sk_a4_n (I : sk_SI) (a : Int) : sk_a4 I a 59 2 = I 59 2 + 4 := by
  unfold sk_a4
  rw [sk_am_n, sk_am_n, sk_am_n, sk_am_n]
  omega
section SKD1
variable {l : Launch} {E : sk_En} {d : Nat} {I : sk_SI} {L : sk_SL} {cu sp io rp tp fp : Nat} {Q : Option sk_V → List sk_Sh → sk_St → Prop}
theorem c_M_four (a : Int) (h0 : 0 ≤ I 59 2) (h1 : I 59 2 + 4 ≤ 1200) (hq : Q none sk_G (sk_a4 I a, L, sk_J cu sp io rp tp fp)) : AW l E d 0 0 mX10_four 0 [some (vr 59), some (vi a), none] [] sk_G (I, L, sk_J cu sp io rp tp fp) Q := by
  have e1 := sk_am_n I (sk_bz a 24)
  have e2 := sk_am_n (sk_am I (sk_bz a 24)) (sk_bz a 16)
  have e3 := sk_am_n (sk_am (sk_am I (sk_bz a 24)) (sk_bz a 16)) (sk_bz a 8)
  refine AW_run 80 rfl ?_
  refine AW_iflt rfl (fun h => by omega) (fun _ => ?_)
  refine AW_run 80 rfl ?_
  refine AW_iast rfl rfl ⟨by omega, by omega⟩ (by decide) ?_
  (refine AW_run 80 rfl ?_; (try simp only [sk_uI_s, sk_uI_o, sk_up_s, sk_up_o, sk_uL_s, sk_uL_o, ne_eq, Nat.reduceEqDiff, Nat.reduceAdd, Int.reduceEq, not_false_eq_true]))
  refine AW_iflt rfl (fun h => by omega) (fun _ => ?_)
  change AW l E d 0 0 mX10_four _ _ _ sk_G (sk_am I (sk_bz a 24), L, sk_J cu sp io rp tp fp) Q
  refine AW_run 80 rfl ?_
  refine AW_iast rfl rfl ⟨by omega, by omega⟩ (by decide) ?_
  (refine AW_run 80 rfl ?_; (try simp only [sk_uI_s, sk_uI_o, sk_up_s, sk_up_o, sk_uL_s, sk_uL_o, ne_eq, Nat.reduceEqDiff, Nat.reduceAdd, Int.reduceEq, not_false_eq_true]))
  refine AW_iflt rfl (fun h => by omega) (fun _ => ?_)
  change AW l E d 0 0 mX10_four _ _ _ sk_G (sk_am (sk_am I (sk_bz a 24)) (sk_bz a 16), L, sk_J cu sp io rp tp fp) Q
  refine AW_run 80 rfl ?_
  refine AW_iast rfl rfl ⟨by omega, by omega⟩ (by decide) ?_
  (refine AW_run 80 rfl ?_; (try simp only [sk_uI_s, sk_uI_o, sk_up_s, sk_up_o, sk_uL_s, sk_uL_o, ne_eq, Nat.reduceEqDiff, Nat.reduceAdd, Int.reduceEq, not_false_eq_true]))
  refine AW_iflt rfl (fun h => by omega) (fun _ => ?_)
  change AW l E d 0 0 mX10_four _ _ _ sk_G (sk_am (sk_am (sk_am I (sk_bz a 24)) (sk_bz a 16)) (sk_bz a 8), L, sk_J cu sp io rp tp fp) Q
  refine AW_run 80 rfl ?_
  refine AW_iast rfl rfl ⟨by omega, by omega⟩ (by decide) ?_
  (refine AW_run 80 rfl ?_; (try simp only [sk_uI_s, sk_uI_o, sk_up_s, sk_up_o, sk_uL_s, sk_uL_o, ne_eq, Nat.reduceEqDiff, Nat.reduceAdd, Int.reduceEq, not_false_eq_true]))
  refine AW_iflt rfl (fun _ => ?_) (fun h => by omega)
  exact AW_vret rfl rfl hq
theorem c_M_feed (a b c e f : Int) (ht : I 59 0 = 0) (h0 : 0 ≤ I 59 2) (h1 : I 59 2 ≤ 1200) (hF : 1180 < I 59 2 → Q (some (vi (-5))) sk_G (I, L, sk_J cu sp io rp tp fp)) (hT : I 59 2 ≤ 1180 → Q (some (vi (I 59 2 + 20))) sk_G (sk_a4 (sk_a4 (sk_a4 (sk_a4 (sk_a4 I a) b) c) e) f, L, sk_J cu sp io rp tp fp)) : AW l E (d + 1) 0 0 mX10_feed 0 [some (vr 59), some (vi a), some (vi b), some (vi c), some (vi e), some (vi f)] [] sk_G (I, L, sk_J cu sp io rp tp fp) Q := by
  refine AW_run 80 rfl ?_
  rw [sk_uI_id ht]
  refine AW_icle rfl (fun g => ?_) (fun g => ?_)
  · have e1 := sk_a4_n I a
    have e2 := sk_a4_n (sk_a4 I a) b
    have e3 := sk_a4_n (sk_a4 (sk_a4 I a) b) c
    have e4 := sk_a4_n (sk_a4 (sk_a4 (sk_a4 I a) b) c) e
    have e5 := sk_a4_n (sk_a4 (sk_a4 (sk_a4 (sk_a4 I a) b) c) e) f
    refine AW_run 80 rfl ?_
    refine AW_cV (M' := mX10_four) rfl kkX10_173 lcX10_four rfl rfl rfl rfl rfl rfl (Nat.le_refl _) ?_
    refine c_M_four _ (by omega) (by omega) ?_
    refine AW_run 80 rfl ?_
    refine AW_cV (M' := mX10_four) rfl kkX10_173 lcX10_four rfl rfl rfl rfl rfl rfl (Nat.le_refl _) ?_
    refine c_M_four _ (by omega) (by omega) ?_
    refine AW_run 80 rfl ?_
    refine AW_cV (M' := mX10_four) rfl kkX10_173 lcX10_four rfl rfl rfl rfl rfl rfl (Nat.le_refl _) ?_
    refine c_M_four _ (by omega) (by omega) ?_
    refine AW_run 80 rfl ?_
    refine AW_cV (M' := mX10_four) rfl kkX10_173 lcX10_four rfl rfl rfl rfl rfl rfl (Nat.le_refl _) ?_
    refine c_M_four _ (by omega) (by omega) ?_
    refine AW_run 80 rfl ?_
    refine AW_cV (M' := mX10_four) rfl kkX10_173 lcX10_four rfl rfl rfl rfl rfl rfl (Nat.le_refl _) ?_
    refine c_M_four _ (by omega) (by omega) ?_
    refine AW_run 80 rfl ?_
    refine AW_top (show _ = I 59 2 + 20 by omega) ?_
    exact AW_iret rfl rfl (hT (by omega))
  · refine AW_run 80 rfl ?_
    exact AW_iret rfl rfl (hF (by omega))
theorem c_M_trim (n : Int) (hn : sk_in n) (ht : I 59 0 = 0) (h0 : 0 ≤ I 59 2) (h1 : I 59 2 ≤ 1200) (hF : ¬ (0 ≤ n ∧ n ≤ I 59 2) → Q (some (vi (-3))) sk_G (I, L, sk_J cu sp io rp tp fp)) (hT : 0 ≤ n → n ≤ I 59 2 → Q (some (vi n)) sk_G (sk_uI I 59 2 n, L, sk_J cu sp io rp tp fp)) : AW l E (d + 1) 0 0 mX10_trim 0 [some (vr 59), some (vi n)] [] sk_G (I, L, sk_J cu sp io rp tp fp) Q := by
  refine AW_run 80 rfl ?_
  rw [sk_uI_id ht]
  refine AW_in rfl kkX10_177 rfl (by omega) (fun w1 w2 => ?_) (fun w3 => ?_)
  · refine AW_run 80 rfl ?_
    first | refine AW_e1 rfl ?_ | refine AW_e0 rfl ?_ | refine AW_n1 rfl ?_ | refine AW_n0 rfl ?_
    refine AW_run 80 rfl ?_
    exact AW_iret rfl rfl (hT w1 w2)
  · refine AW_run 80 rfl ?_
    first | refine AW_e1 rfl ?_ | refine AW_e0 rfl ?_ | refine AW_n1 rfl ?_ | refine AW_n0 rfl ?_
    refine AW_run 80 rfl ?_
    exact AW_iret rfl rfl (hF w3)
theorem c_M_rule (o k v : Int) (ho : sk_in o) (hk : sk_in k) (hv : sk_in v) (ht : I 59 0 = 0) (hF : ¬ (0 ≤ o ∧ o < 8 ∧ 0 ≤ k ∧ k < 8 ∧ -1 ≤ v ∧ v ≤ 9) → Q (some (vi (-3))) sk_G (I, L, sk_J cu sp io rp tp fp)) (hT : 0 ≤ o → o < 8 → 0 ≤ k → k < 8 → -1 ≤ v → v ≤ 9 → Q (some (vi (I 61 (8 * o + k)))) sk_G (sk_uI I 61 (8 * o + k) v, L, sk_J cu sp io rp tp fp)) : AW l E (d + 1) 0 0 mX10_rule 0 [some (vr 59), some (vi o), some (vi k), some (vi v), none] [] sk_G (I, L, sk_J cu sp io rp tp fp) Q := by
  refine AW_run 80 rfl ?_
  rw [sk_uI_id ht]
  refine AW_in rfl kkX10_177 rfl (by omega) (fun w1 w2 => ?_) (fun w3 => ?_)
  · refine AW_run 80 rfl ?_
    first | refine AW_e1 rfl ?_ | refine AW_e0 rfl ?_ | refine AW_n1 rfl ?_ | refine AW_n0 rfl ?_
    refine AW_run 80 rfl ?_
    refine AW_in rfl kkX10_177 rfl (by omega) (fun w4 w5 => ?_) (fun w6 => ?_)
    · refine AW_run 80 rfl ?_
      first | refine AW_e1 rfl ?_ | refine AW_e0 rfl ?_ | refine AW_n1 rfl ?_ | refine AW_n0 rfl ?_
      refine AW_run 80 rfl ?_
      refine AW_in rfl kkX10_177 rfl (by omega) (fun w7 w8 => ?_) (fun w9 => ?_)
      · refine AW_run 80 rfl ?_
        first | refine AW_e1 rfl ?_ | refine AW_e0 rfl ?_ | refine AW_n1 rfl ?_ | refine AW_n0 rfl ?_
        refine AW_run 80 rfl ?_
        refine AW_iald rfl rfl ⟨by omega, by omega⟩ (by decide) ?_
        refine AW_run 80 rfl ?_
        refine AW_iast rfl rfl ⟨by omega, by omega⟩ (by decide) ?_
        refine AW_run 80 rfl ?_
        exact AW_iret rfl rfl (hT (by omega) (by omega) (by omega) (by omega) (by omega) (by omega))
      · refine AW_run 80 rfl ?_
        first | refine AW_e1 rfl ?_ | refine AW_e0 rfl ?_ | refine AW_n1 rfl ?_ | refine AW_n0 rfl ?_
        refine AW_run 80 rfl ?_
        exact AW_iret rfl rfl (hF (by omega))
    · refine AW_run 80 rfl ?_
      first | refine AW_e1 rfl ?_ | refine AW_e0 rfl ?_ | refine AW_n1 rfl ?_ | refine AW_n0 rfl ?_
      refine AW_run 80 rfl ?_
      exact AW_iret rfl rfl (hF (by omega))
  · refine AW_run 80 rfl ?_
    first | refine AW_e1 rfl ?_ | refine AW_e0 rfl ?_ | refine AW_n1 rfl ?_ | refine AW_n0 rfl ?_
    refine AW_run 80 rfl ?_
    exact AW_iret rfl rfl (hF (by omega))
theorem c_M_has (o k v : Int) (ho : 0 ≤ o ∧ o < 8) (hk : 0 ≤ k ∧ k < 8) (hv : sk_in v) (hI : sk_in (I 61 (8 * o + k))) (hT : v ≤ I 61 (8 * o + k) → Q (some (vi 1)) sk_G (I, L, sk_J cu sp io rp tp fp)) (hF : I 61 (8 * o + k) < v → Q (some (vi 0)) sk_G (I, L, sk_J cu sp io rp tp fp)) : AW l E d 0 0 mX10_hasRight 0 [some (vr 59), some (vi o), some (vi k), some (vi v)] [] sk_G (I, L, sk_J cu sp io rp tp fp) Q := by
  refine AW_run 80 rfl ?_
  refine AW_iald rfl rfl ⟨by omega, by omega⟩ (by decide) ?_
  refine AW_run 80 rfl ?_
  refine AW_iclt rfl (fun h => ?_) (fun h => ?_)
  · refine AW_run 80 rfl ?_
    exact AW_zret rfl rfl (Or.inl rfl) (hF h)
  · refine AW_run 80 rfl ?_
    exact AW_zret rfl rfl (Or.inr rfl) (hT (by omega))
theorem c_M_forget (ht : I 59 0 = 0) (hq : Q (some (vi (I 59 5))) sk_G (sk_uI I 59 5 0, L, sk_J cu sp io rp tp fp)) : AW l E d 0 0 mX10_forget 0 [some (vr 59), none] [] sk_G (I, L, sk_J cu sp io rp tp fp) Q := by
  refine AW_run 80 rfl ?_
  rw [sk_uI_id ht]
  exact AW_iret rfl rfl hq
theorem c_M_fault (ht : I 59 0 = 0) (hq : Q (some (vi (I 59 6))) sk_G (I, L, sk_J cu sp io rp tp fp)) : AW l E d 0 0 mX10_fault 0 [some (vr 59)] [] sk_G (I, L, sk_J cu sp io rp tp fp) Q := by
  refine AW_run 80 rfl ?_
  rw [sk_uI_id ht]
  exact AW_iret rfl rfl hq
theorem c_M_note (i : Int) (hi : sk_in i) (ht : I 59 0 = 0) (h0 : 0 ≤ I 59 58) (h1 : I 59 58 ≤ 3000) (hT : 0 ≤ i → i < I 59 58 → Q (some (vi (I 90 i))) sk_G (I, L, sk_J cu sp io rp tp fp)) (hF : ¬ (0 ≤ i ∧ i < I 59 58) → Q (some (vi (-1))) sk_G (I, L, sk_J cu sp io rp tp fp)) : AW l E (d + 1) 0 0 mX10_note 0 [some (vr 59), some (vi i)] [] sk_G (I, L, sk_J cu sp io rp tp fp) Q := by
  refine AW_run 80 rfl ?_
  rw [sk_uI_id ht]
  refine AW_in rfl kkX10_177 rfl (by omega) (fun w1 w2 => ?_) (fun w3 => ?_)
  · refine AW_run 80 rfl ?_
    first | refine AW_e1 rfl ?_ | refine AW_e0 rfl ?_ | refine AW_n1 rfl ?_ | refine AW_n0 rfl ?_
    refine AW_run 80 rfl ?_
    refine AW_iald rfl rfl ⟨by omega, by omega⟩ (by decide) ?_
    refine AW_run 80 rfl ?_
    exact AW_iret rfl rfl (hT w1 (by omega))
  · refine AW_run 80 rfl ?_
    first | refine AW_e1 rfl ?_ | refine AW_e0 rfl ?_ | refine AW_n1 rfl ?_ | refine AW_n0 rfl ?_
    refine AW_run 80 rfl ?_
    exact AW_iret rfl rfl (hF (by omega))
theorem c_M_ran (w : Int) (hw : sk_in w) (ht : I 59 0 = 0) (h : I 59 50 = 0 ∨ I 59 50 = 1) (h1 : ¬ (0 ≤ w ∧ w < 8) → Q (some (vi (-3))) sk_G (I, L, sk_J cu sp io rp tp fp)) (h2 : 0 ≤ w → w < 8 → I 59 50 = 0 → Q (some (vi (-1))) sk_G (I, L, sk_J cu sp io rp tp fp)) (h3 : I 59 50 = 1 → ∀ v : Int, (w = 0 ∧ v = I 59 51 ∨ w = 1 ∧ v = I 59 48 ∨ w = 2 ∧ v = I 59 52 ∨ w = 3 ∧ v = I 59 53 ∨ w = 4 ∧ v = I 59 54 ∨ w = 5 ∧ v = I 59 55 ∨ w = 6 ∧ v = I 59 58 ∨ w = 7 ∧ v = I 59 56) → Q (some (vi v)) sk_G (I, L, sk_J cu sp io rp tp fp)) : AW l E (d + 1) 0 0 mX10_ran 0 [some (vr 59), some (vi w)] [] sk_G (I, L, sk_J cu sp io rp tp fp) Q := by
  refine AW_run 80 rfl ?_
  rw [sk_uI_id ht]
  refine AW_in rfl kkX10_177 rfl (by omega) (fun w1 w2 => ?_) (fun w3 => ?_)
  · refine AW_run 80 rfl ?_
    first | refine AW_e1 rfl ?_ | refine AW_e0 rfl ?_ | refine AW_n1 rfl ?_ | refine AW_n0 rfl ?_
    refine AW_run 80 rfl ?_
    refine AW_ifne rfl (fun g => ?_) (fun g => ?_)
    · refine AW_run 80 rfl ?_
      have g1 : I 59 50 = 1 := by omega
      rcases (show w = 0 ∨ w = 1 ∨ w = 2 ∨ w = 3 ∨ w = 4 ∨ w = 5 ∨ w = 6 ∨ w = 7 by omega) with e | e | e | e | e | e | e | e
      · refine AW_tin 0 rfl (by omega) rfl hw ?_
        refine AW_run 80 rfl ?_
        exact AW_iret rfl rfl (h3 g1 _ (by omega))
      · refine AW_tin 1 rfl (by omega) rfl hw ?_
        refine AW_run 80 rfl ?_
        exact AW_iret rfl rfl (h3 g1 _ (by omega))
      · refine AW_tin 2 rfl (by omega) rfl hw ?_
        refine AW_run 80 rfl ?_
        exact AW_iret rfl rfl (h3 g1 _ (by omega))
      · refine AW_tin 3 rfl (by omega) rfl hw ?_
        refine AW_run 80 rfl ?_
        exact AW_iret rfl rfl (h3 g1 _ (by omega))
      · refine AW_tin 4 rfl (by omega) rfl hw ?_
        refine AW_run 80 rfl ?_
        exact AW_iret rfl rfl (h3 g1 _ (by omega))
      · refine AW_tin 5 rfl (by omega) rfl hw ?_
        refine AW_run 80 rfl ?_
        exact AW_iret rfl rfl (h3 g1 _ (by omega))
      · refine AW_tin 6 rfl (by omega) rfl hw ?_
        refine AW_run 80 rfl ?_
        exact AW_iret rfl rfl (h3 g1 _ (by omega))
      · refine AW_tout rfl (by omega) hw ?_
        refine AW_run 80 rfl ?_
        exact AW_iret rfl rfl (h3 g1 _ (by omega))
    · refine AW_run 80 rfl ?_
      exact AW_iret rfl rfl (h2 w1 (by omega) g)
  · refine AW_run 80 rfl ?_
    first | refine AW_e1 rfl ?_ | refine AW_e0 rfl ?_ | refine AW_n1 rfl ?_ | refine AW_n0 rfl ?_
    refine AW_run 80 rfl ?_
    exact AW_iret rfl rfl (h1 (by omega))
theorem c_M_count (w : Int) (hw : sk_in w) (ht : I 59 0 = 0) (hI : ∀ i, 0 ≤ i → i < 64 → sk_in (I 61 i)) (h0 : w = 0 → Q (some (vi (I 59 2))) sk_G (I, L, sk_J cu sp io rp tp fp)) (h1 : w = 1 → Q (some (vi (I 59 5))) sk_G (I, L, sk_J cu sp io rp tp fp)) (h2 : w = 2 → Q (some (vi (I 59 58))) sk_G (I, L, sk_J cu sp io rp tp fp)) (h3 : w = 3 → Q (some (vi (sk_sum (sk_ng (I 61)) 64))) sk_G (I, L, sk_J cu sp io rp tp fp)) (h4 : ¬ (0 ≤ w ∧ w ≤ 3) → Q (some (vi (-3))) sk_G (I, L, sk_J cu sp io rp tp fp)) : AW l E (d + 1) 0 0 mX10_count 0 [some (vr 59), some (vi w), none, none] [] sk_G (I, L, sk_J cu sp io rp tp fp) Q := by
  have key : w = 3 → ∀ (m : Nat) (i : Int), 0 ≤ i → i + m = 64 → AW l E (d + 1) 0 0 mX10_count 60 [some (vr 59), some (vi w), some (vi (sk_sum (sk_ng (I 61)) i.toNat)), some (vi i)] [vi 64, vi i] sk_G (I, L, sk_J cu sp io rp tp fp) Q := by
    intro hw3 m
    induction m with
    | zero =>
      intro i g0 gi
      refine AW_icge rfl (fun h => ?_) (fun h => ?_)
      · refine AW_run 80 rfl ?_
        rw [show i.toNat = 64 by omega]
        exact AW_iret rfl rfl (h3 hw3)
      · omega
    | succ m ih =>
      intro i g0 gi
      refine AW_icge rfl (fun h => ?_) (fun h => ?_)
      · omega
      · refine AW_run 80 rfl ?_
        refine AW_iald rfl rfl ⟨by omega, by omega⟩ (by decide) ?_
        refine AW_run 80 rfl ?_
        refine AW_iceq rfl (fun g2 => ?_) (fun g2 => ?_) (hI i g0 (by omega))
        · refine AW_run 80 rfl ?_
          exact AW_lk (ih (i + 1) (by omega) (by omega)) ⟨rfl, rfl, by rw [sk_sum_s _ g0, sk_ng, if_pos g2], rfl, trivial⟩
        · refine AW_run 80 rfl ?_
          exact AW_lk (ih (i + 1) (by omega) (by omega)) ⟨rfl, rfl, by rw [sk_sum_s _ g0, sk_ng, if_neg g2], rfl, trivial⟩
  refine AW_run 80 rfl ?_
  rw [sk_uI_id ht]
  by_cases g : 0 ≤ w ∧ w ≤ 3
  · rcases (show w = 0 ∨ w = 1 ∨ w = 2 ∨ w = 3 by omega) with e | e | e | e
    · refine AW_tin 0 rfl (by omega) rfl hw ?_
      refine AW_run 80 rfl ?_
      exact AW_iret rfl rfl (h0 e)
    · refine AW_tin 1 rfl (by omega) rfl hw ?_
      refine AW_run 80 rfl ?_
      exact AW_iret rfl rfl (h1 e)
    · refine AW_tin 2 rfl (by omega) rfl hw ?_
      refine AW_run 80 rfl ?_
      exact AW_iret rfl rfl (h2 e)
    · refine AW_tin 3 rfl (by omega) rfl hw ?_
      refine AW_run 80 rfl ?_
      exact key e 64 0 (by omega) (by omega)
  · refine AW_tout rfl (by omega) hw ?_
    refine AW_run 80 rfl ?_
    exact AW_iret rfl rfl (h4 g)
end SKD1
