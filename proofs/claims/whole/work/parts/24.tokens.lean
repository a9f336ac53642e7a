/-! ===== Tokens ===== -/
def sk_ext (p : Int → Bool) (n : Int) : Nat → Int → Int
  | 0, i => i
  | m + 1, i => if i < n ∧ p i = true then sk_ext p n m (i + 1) else i
/-- how far a word or number goes -/
def sk_end (p : Int → Bool) (n i : Int) : Int := sk_ext p n (n - i).toNat i
theorem sk_end_s {p : Int → Bool} {n i : Int} (h : i < n) (hp : p i = true) : sk_end p n i = sk_end p n (i + 1) := by
  unfold sk_end
  rw [show (n - i).toNat = (n - (i + 1)).toNat + 1 by omega, sk_ext, if_pos ⟨h, hp⟩]
theorem sk_end_x {p : Int → Bool} {n i : Int} (h : ¬ (i < n ∧ p i = true)) : sk_end p n i = i := by
  unfold sk_end
  cases hm : (n - i).toNat with
  | zero => rfl
  | succ m => rw [sk_ext, if_neg h]
theorem sk_ext_b (p : Int → Bool) (n : Int) : ∀ (m : Nat) (i : Int), i ≤ sk_ext p n m i ∧ (i ≤ n → sk_ext p n m i ≤ n)
  | 0, i => ⟨Int.le_refl _, fun h => h⟩
  | m + 1, i => by
    unfold sk_ext
    split
    · have := sk_ext_b p n m (i + 1)
      exact ⟨by omega, fun _ => this.2 (by omega)⟩
    · exact ⟨Int.le_refl _, fun h => h⟩
theorem sk_end_b (p : Int → Bool) {n i : Int} (h : i ≤ n) : i ≤ sk_end p n i ∧ sk_end p n i ≤ n := ⟨(sk_ext_b p n _ i).1, (sk_ext_b p n _ i).2 h⟩
theorem sk_ext_in (p : Int → Bool) (n : Int) : ∀ (m : Nat) (i j : Int), i ≤ j → j < sk_ext p n m i → p j = true
  | 0, i, j, h1, h2 => by simp only [sk_ext] at h2; omega
  | m + 1, i, j, h1, h2 => by
    unfold sk_ext at h2
    split at h2
    · rename_i hc
      by_cases hj : j = i
      · rw [hj]; exact hc.2
      · exact sk_ext_in p n m (i + 1) j (by omega) h2
    · omega
theorem sk_end_in {p : Int → Bool} {n i j : Int} (h1 : i ≤ j) (h2 : j < sk_end p n i) : p j = true := sk_ext_in p n _ i j h1 h2
def sk_ltr (t : Int → Int) : Int → Bool := fun i => decide (97 ≤ t i ∧ t i ≤ 122)
def sk_dgt (t : Int → Int) : Int → Bool := fun i => decide (48 ≤ t i ∧ t i ≤ 57)
def sk_nm (t : Int → Int) (f : Int) : Nat → Int
  | 0 => 0
  | k + 1 => sk_nm t f k * 10 + t (f + k) - 48
def sk_sgn (b : Int) : Int := if b = 123 then 16 else if b = 125 then 17 else if b = 59 then 18 else 19
def sk_pad (t : Int → Int) (f e i : Int) : Int := if f + i < e then t (f + i) else 32
def sk_isw (t : Int → Int) (f e w : Int) : Prop := ∀ i : Int, 0 ≤ i → i < 6 → sk_chr 0 (w * 6 + i) = sk_pad t f e i
/-- a token behind the others -/
def sk_ta (I : sk_SI) (tok pl : Int) : sk_SI := sk_uI (sk_uI (sk_uI I 31 (I 30 2) tok) 32 (I 30 2) pl) 30 2 (I 30 2 + 1)
/-- the tape is as it should be -/
def sk_tp (I : sk_SI) : Prop := 0 ≤ I 1 1 ∧ I 1 1 ≤ 1200 ∧ ∀ i, 0 ≤ i → i < I 1 1 → 0 ≤ I 2 i ∧ I 2 i ≤ 255
section SKT1
variable {l : Launch} {E : sk_En} {d : Nat} {I : sk_SI} {L : sk_SL} {cu sp io rp tp fp : Nat} {Q : Option sk_V → List sk_Sh → sk_St → Prop} {G : List sk_Sh} {σ : sk_St}
theorem c_tape_at (i : Int) (ht : sk_tp I) (hi : 0 ≤ i ∧ i < I 1 1) (hq : Q (some (vi (I 2 i))) sk_G (I, L, sk_J cu sp io rp tp fp)) : AW l E d 0 0 mX4_at 0 [some (vr 1), some (vi i)] [] sk_G (I, L, sk_J cu sp io rp tp fp) Q := by
  obtain ⟨t0, t1, t2⟩ := ht
  exact c_Row_at 1 1200 (Or.inl ⟨rfl, rfl⟩) i (by unfold sk_in; omega) t1 t0 (fun _ _ => hq) (fun g => by omega)
theorem c_T_letter (b : Int) (hb : sk_in b) (hT : 97 ≤ b → b ≤ 122 → Q (some (vi 1)) G σ) (hF : ¬ (97 ≤ b ∧ b ≤ 122) → Q (some (vi 0)) G σ) : AW l E d 0 0 mX8_isLetter 0 [some (vi b)] [] G σ Q := by
  refine AW_run 80 rfl ?_
  refine AW_iclt rfl (fun h => ?_) (fun h => ?_)
  · refine AW_run 80 rfl ?_
    exact AW_zret rfl rfl (Or.inl rfl) (hF (by omega))
  · refine AW_run 80 rfl ?_
    refine AW_icgt rfl (fun h2 => ?_) (fun h2 => ?_)
    · refine AW_run 80 rfl ?_
      exact AW_zret rfl rfl (Or.inl rfl) (hF (by omega))
    · refine AW_run 80 rfl ?_
      exact AW_zret rfl rfl (Or.inr rfl) (hT (by omega) (by omega))
theorem c_T_digit (b : Int) (hb : sk_in b) (hT : 48 ≤ b → b ≤ 57 → Q (some (vi 1)) G σ) (hF : ¬ (48 ≤ b ∧ b ≤ 57) → Q (some (vi 0)) G σ) : AW l E d 0 0 mX8_isDigit 0 [some (vi b)] [] G σ Q := by
  refine AW_run 80 rfl ?_
  refine AW_iclt rfl (fun h => ?_) (fun h => ?_)
  · refine AW_run 80 rfl ?_
    exact AW_zret rfl rfl (Or.inl rfl) (hF (by omega))
  · refine AW_run 80 rfl ?_
    refine AW_icgt rfl (fun h2 => ?_) (fun h2 => ?_)
    · refine AW_run 80 rfl ?_
      exact AW_zret rfl rfl (Or.inl rfl) (hF (by omega))
    · refine AW_run 80 rfl ?_
      exact AW_zret rfl rfl (Or.inr rfl) (hT (by omega) (by omega))
theorem c_T_sign (b : Int) (hb : sk_in b) (hq : Q (some (vi (sk_sgn b))) G σ) : AW l E d 0 0 mX8_signOf 0 [some (vi b)] [] G σ Q := by
  unfold sk_sgn at hq
  refine AW_run 80 rfl ?_
  by_cases h1 : b = 123
  · subst h1
    refine AW_lsw (t := 36) rfl (by decide) rfl rfl hb ?_
    refine AW_run 80 rfl ?_
    exact AW_iret rfl rfl hq
  · rw [if_neg h1] at hq
    by_cases h2 : b = 125
    · subst h2
      refine AW_lsw (t := 39) rfl (by decide) rfl rfl hb ?_
      refine AW_run 80 rfl ?_
      exact AW_iret rfl rfl hq
    · rw [if_neg h2] at hq
      by_cases h3 : b = 59
      · subst h3
        refine AW_lsw (t := 42) rfl (by decide) rfl rfl hb ?_
        refine AW_run 80 rfl ?_
        exact AW_iret rfl rfl hq
      · rw [if_neg h3] at hq
        refine AW_lsw (t := 45) (off := 44) rfl (by decide) ?_ rfl hb ?_
        · show Op.lookupswitch.offset [(59, 41), (123, 35), (125, 38)] 44 b = 44
          rw [Op.lookupswitch.offset_cons, if_neg (fun e => h3 e.symm), Op.lookupswitch.offset_cons, if_neg (fun e => h1 e.symm), Op.lookupswitch.offset_cons, if_neg (fun e => h2 e.symm)]
          rfl
        · refine AW_run 80 rfl ?_
          exact AW_iret rfl rfl hq
theorem c_T_tokenAt (i : Int) (hi : sk_in i) (hn : 0 ≤ I 30 2 ∧ I 30 2 ≤ 1201) (hT : 0 ≤ i → i < I 30 2 → Q (some (vi (I 31 i))) sk_G (I, L, sk_J cu sp io rp tp fp)) (hF : ¬ (0 ≤ i ∧ i < I 30 2) → Q (some (vi 20)) sk_G (I, L, sk_J cu sp io rp tp fp)) : AW l E d 0 0 mX8_tokenAt 0 [some (vr 30), some (vi i)] [] sk_G (I, L, sk_J cu sp io rp tp fp) Q := by
  refine AW_run 80 rfl ?_
  refine AW_iflt rfl (fun h => ?_) (fun h => ?_)
  · refine AW_run 80 rfl ?_
    exact AW_iret rfl rfl (hF (by omega))
  · refine AW_run 80 rfl ?_
    refine AW_icge rfl (fun h2 => ?_) (fun h2 => ?_)
    · refine AW_run 80 rfl ?_
      exact AW_iret rfl rfl (hF (by omega))
    · refine AW_run 80 rfl ?_
      refine AW_iald rfl rfl ⟨by omega, by omega⟩ (by decide) ?_
      refine AW_run 80 rfl ?_
      exact AW_iret rfl rfl (hT (by omega) (by omega))
theorem c_T_placeOf (i : Int) (hi : sk_in i) (hn : 0 ≤ I 30 2 ∧ I 30 2 ≤ 1201) (hT : 0 ≤ i → i < I 30 2 → Q (some (vi (I 32 i))) sk_G (I, L, sk_J cu sp io rp tp fp)) (hF : ¬ (0 ≤ i ∧ i < I 30 2) → Q (some (vi 0)) sk_G (I, L, sk_J cu sp io rp tp fp)) : AW l E d 0 0 mX8_placeOf 0 [some (vr 30), some (vi i)] [] sk_G (I, L, sk_J cu sp io rp tp fp) Q := by
  refine AW_run 80 rfl ?_
  refine AW_iflt rfl (fun h => ?_) (fun h => ?_)
  · refine AW_run 80 rfl ?_
    exact AW_iret rfl rfl (hF (by omega))
  · refine AW_run 80 rfl ?_
    refine AW_icge rfl (fun h2 => ?_) (fun h2 => ?_)
    · refine AW_run 80 rfl ?_
      exact AW_iret rfl rfl (hF (by omega))
    · refine AW_run 80 rfl ?_
      refine AW_iald rfl rfl ⟨by omega, by omega⟩ (by decide) ?_
      refine AW_run 80 rfl ?_
      exact AW_iret rfl rfl (hT (by omega) (by omega))
theorem c_T_add (k p : Int) (hn : 0 ≤ I 30 2 ∧ I 30 2 < 1201) (hq : Q none sk_G (sk_ta I k p, L, sk_J cu sp io rp tp fp)) : AW l E (d + 1) 0 0 mX8_add 0 [some (vr 30), some (vi k), some (vi p)] [] sk_G (I, L, sk_J cu sp io rp tp fp) Q := by
  refine AW_run 80 rfl ?_
  refine AW_within rfl kkX8_56 rfl (by omega) (fun w1 w2 => ?_) (fun w3 => ?_)
  · refine AW_run 80 rfl ?_
    first | refine AW_e1 rfl ?_ | refine AW_e0 rfl ?_ | refine AW_n1 rfl ?_ | refine AW_n0 rfl ?_
    refine AW_run 80 rfl ?_
    refine AW_iast rfl rfl ⟨by omega, by omega⟩ (by decide) ?_
    (refine AW_run 80 rfl ?_; (try simp only [sk_uI_s, sk_uI_o, sk_up_s, sk_up_o, sk_uL_s, sk_uL_o, ne_eq, Nat.reduceEqDiff, Nat.reduceAdd, Int.reduceEq, not_false_eq_true]))
    refine AW_iast rfl rfl ⟨by omega, by omega⟩ (by decide) ?_
    (refine AW_run 80 rfl ?_; (try simp only [sk_uI_s, sk_uI_o, sk_up_s, sk_up_o, sk_uL_s, sk_uL_o, ne_eq, Nat.reduceEqDiff, Nat.reduceAdd, Int.reduceEq, not_false_eq_true]))
    exact AW_vret rfl rfl hq
  · omega
theorem c_T_eow (f : Int) (ht : sk_tp I) (hf : 0 ≤ f ∧ f ≤ I 1 1) (hq : Q (some (vi (sk_end (sk_ltr (I 2)) (I 1 1) f))) sk_G (I, L, sk_J cu sp io rp tp fp)) : AW l E (d + 1) 0 0 mX8_endOfWord 0 [some (vr 1), some (vi f), none] [] sk_G (I, L, sk_J cu sp io rp tp fp) Q := by
  obtain ⟨t0, t1, t2⟩ := ht
  have key : ∀ (m : Nat) (i : Int), f ≤ i → i + m = I 1 1 → sk_end (sk_ltr (I 2)) (I 1 1) i = sk_end (sk_ltr (I 2)) (I 1 1) f → AW l E (d + 1) 0 0 mX8_endOfWord 7 [some (vr 1), some (vi f), some (vi i)] [vi (I 1 1), vi i] sk_G (I, L, sk_J cu sp io rp tp fp) Q := by
    intro m
    induction m with
    | zero =>
      intro i h0 hi he
      refine AW_icge rfl (fun h => ?_) (fun h => ?_)
      · refine AW_run 80 rfl ?_
        rw [← he, sk_end_x (by omega)] at hq
        exact AW_iret rfl rfl hq
      · omega
    | succ m ih =>
      intro i h0 hi he
      refine AW_icge rfl (fun h => ?_) (fun h => ?_)
      · omega
      · refine AW_run 80 rfl ?_
        refine AW_cV (M' := mX4_at) rfl kkX8_25 lcX4_at rfl rfl rfl rfl rfl rfl (Nat.le_refl _) ?_
        refine c_tape_at i ⟨t0, t1, t2⟩ (by omega) ?_
        have hb := t2 i (by omega) (by omega)
        refine AW_run 80 rfl ?_
        refine AW_cS (M' := mX8_isLetter) rfl kkX8_28 lcX8_isLetter rfl rfl rfl (Nat.le_refl _) ?_
        refine c_T_letter _ (by unfold sk_in; omega) (fun g1 g2 => ?_) (fun g => ?_)
        · refine AW_run 80 rfl ?_
          first | refine AW_e1 rfl ?_ | refine AW_e0 rfl ?_ | refine AW_n1 rfl ?_ | refine AW_n0 rfl ?_
          refine AW_run 80 rfl ?_
          exact ih (i + 1) (by omega) (by omega) (by rw [← he]; exact (sk_end_s (by omega) (by simp [sk_ltr, g1, g2])).symm)
        · refine AW_run 80 rfl ?_
          first | refine AW_e1 rfl ?_ | refine AW_e0 rfl ?_ | refine AW_n1 rfl ?_ | refine AW_n0 rfl ?_
          refine AW_run 80 rfl ?_
          rw [← he, sk_end_x (by simp only [sk_ltr, decide_eq_true_eq]; omega)] at hq
          exact AW_iret rfl rfl hq
  refine AW_run 80 rfl ?_
  exact key (I 1 1 - f).toNat f (Int.le_refl _) (by omega) rfl
theorem c_T_eon (f : Int) (ht : sk_tp I) (hf : 0 ≤ f ∧ f ≤ I 1 1) (hq : Q (some (vi (sk_end (sk_dgt (I 2)) (I 1 1) f))) sk_G (I, L, sk_J cu sp io rp tp fp)) : AW l E (d + 1) 0 0 mX8_endOfNumber 0 [some (vr 1), some (vi f), none] [] sk_G (I, L, sk_J cu sp io rp tp fp) Q := by
  obtain ⟨t0, t1, t2⟩ := ht
  have key : ∀ (m : Nat) (i : Int), f ≤ i → i + m = I 1 1 → sk_end (sk_dgt (I 2)) (I 1 1) i = sk_end (sk_dgt (I 2)) (I 1 1) f → AW l E (d + 1) 0 0 mX8_endOfNumber 7 [some (vr 1), some (vi f), some (vi i)] [vi (I 1 1), vi i] sk_G (I, L, sk_J cu sp io rp tp fp) Q := by
    intro m
    induction m with
    | zero =>
      intro i h0 hi he
      refine AW_icge rfl (fun h => ?_) (fun h => ?_)
      · refine AW_run 80 rfl ?_
        rw [← he, sk_end_x (by omega)] at hq
        exact AW_iret rfl rfl hq
      · omega
    | succ m ih =>
      intro i h0 hi he
      refine AW_icge rfl (fun h => ?_) (fun h => ?_)
      · omega
      · refine AW_run 80 rfl ?_
        refine AW_cV (M' := mX4_at) rfl kkX8_25 lcX4_at rfl rfl rfl rfl rfl rfl (Nat.le_refl _) ?_
        refine c_tape_at i ⟨t0, t1, t2⟩ (by omega) ?_
        have hb := t2 i (by omega) (by omega)
        refine AW_run 80 rfl ?_
        refine AW_cS (M' := mX8_isDigit) rfl kkX8_44 lcX8_isDigit rfl rfl rfl (Nat.le_refl _) ?_
        refine c_T_digit _ (by unfold sk_in; omega) (fun g1 g2 => ?_) (fun g => ?_)
        · refine AW_run 80 rfl ?_
          first | refine AW_e1 rfl ?_ | refine AW_e0 rfl ?_ | refine AW_n1 rfl ?_ | refine AW_n0 rfl ?_
          refine AW_run 80 rfl ?_
          exact ih (i + 1) (by omega) (by omega) (by rw [← he]; exact (sk_end_s (by omega) (by simp [sk_dgt, g1, g2])).symm)
        · refine AW_run 80 rfl ?_
          first | refine AW_e1 rfl ?_ | refine AW_e0 rfl ?_ | refine AW_n1 rfl ?_ | refine AW_n0 rfl ?_
          refine AW_run 80 rfl ?_
          rw [← he, sk_end_x (by simp only [sk_dgt, decide_eq_true_eq]; omega)] at hq
          exact AW_iret rfl rfl hq
  refine AW_run 80 rfl ?_
  exact key (I 1 1 - f).toNat f (Int.le_refl _) (by omega) rfl
theorem c_T_num (f e : Int) (ht : sk_tp I) (hf : 0 ≤ f ∧ f ≤ e ∧ e ≤ I 1 1) (h1 : 3 < e - f → Q (some (vi 19)) sk_G (I, L, sk_J cu sp io rp tp fp)) (h2 : e - f ≤ 3 → Q (some (vi (100 + sk_nm (I 2) f (e - f).toNat))) sk_G (I, L, sk_J cu sp io rp tp fp)) : AW l E (d + 1) 0 0 mX8_numberOf 0 [some (vr 1), some (vi f), some (vi e), none, none] [] sk_G (I, L, sk_J cu sp io rp tp fp) Q := by
  have ht' := ht
  obtain ⟨t0, t1, t2⟩ := ht
  have key : e - f ≤ 3 → ∀ (m : Nat) (i : Int), f ≤ i → i + m = e → AW l E (d + 1) 0 0 mX8_numberOf 18 [some (vr 1), some (vi f), some (vi e), some (vi (sk_nm (I 2) f (i - f).toNat)), some (vi i)] [vi e, vi i] sk_G (I, L, sk_J cu sp io rp tp fp) Q := by
    intro he m
    induction m with
    | zero =>
      intro i h0 hi
      have ei : i = e := by omega
      subst ei
      refine AW_icge rfl (fun h => ?_) (fun h => ?_)
      · refine AW_run 80 rfl ?_
        exact AW_iret rfl rfl (h2 he)
      · omega
    | succ m ih =>
      intro i h0 hi
      refine AW_icge rfl (fun h => ?_) (fun h => ?_)
      · omega
      · refine AW_run 80 rfl ?_
        refine AW_cV (M' := mX4_at) rfl kkX8_25 lcX4_at rfl rfl rfl rfl rfl rfl (Nat.le_refl _) ?_
        refine c_tape_at i ht' (by omega) ?_
        refine AW_run 80 rfl ?_
        refine AW_lk (ih (i + 1) (by omega) (by omega)) ⟨rfl, rfl, rfl, ?_, rfl, trivial⟩
        rw [show (i + 1 - f).toNat = (i - f).toNat + 1 by omega, sk_nm, show f + ((i - f).toNat : Int) = i by omega]
  refine AW_run 80 rfl ?_
  refine AW_icle rfl (fun h => ?_) (fun h => ?_)
  · refine AW_run 80 rfl ?_
    refine AW_lk (key h (e - f).toNat f (Int.le_refl _) (by omega)) ⟨rfl, rfl, rfl, ?_, rfl, trivial⟩
    rw [Int.sub_self]; rfl
  · refine AW_run 80 rfl ?_
    exact AW_iret rfl rfl (h1 (by omega))
theorem c_T_isw (w f e : Int) (ht : sk_tp I) (hw : 0 ≤ w ∧ w < 16) (hf : 0 ≤ f ∧ f ≤ e ∧ e ≤ I 1 1) (hT : sk_isw (I 2) f e w → Q (some (vi 1)) sk_G (I, L, sk_J cu sp io rp tp fp)) (hF : ¬ sk_isw (I 2) f e w → Q (some (vi 0)) sk_G (I, L, sk_J cu sp io rp tp fp)) : AW l E (d + 4) 0 0 mX8_isWord 0 [some (vi w), some (vr 1), some (vi f), some (vi e), none, none, none] [] sk_G (I, L, sk_J cu sp io rp tp fp) Q := by
  have ht' := ht
  obtain ⟨t0, t1, t2⟩ := ht
  have cmp : ∀ (i c : Int), 0 ≤ i → i < 6 → sk_in c → c = sk_pad (I 2) f e i → (sk_chr 0 (w * 6 + i) = sk_pad (I 2) f e i → AW l E (d + 4) 0 0 mX8_isWord 7 [some (vi w), some (vr 1), some (vi f), some (vi e), some (vi (i + 1)), none, none] [vi 6, vi (i + 1)] sk_G (I, L, sk_J cu sp io rp tp fp) Q) → AW l E (d + 4) 0 0 mX8_isWord 40 [some (vi w), some (vr 1), some (vi f), some (vi e), some (vi i), some (vi (w * 6 + i)), none] [vi c] sk_G (I, L, sk_J cu sp io rp tp fp) Q := by
    intro i c h0 h6 hc ec kk
    have hchr : 0 ≤ sk_chr 0 (w * 6 + i) ∧ sk_chr 0 (w * 6 + i) < 128 := sk_chr_b 0 (by decide) _ (by omega)
    refine AW_run 80 rfl ?_
    refine AW_ldcS (x := 0) rfl rfl ⟨rfl, rfl⟩ ?_
    refine AW_callX (x := 0) (M' := mJ0_length_8abf5) rfl kkX8_66 lcJ0_length_8abf5 rfl (by decide) rfl rfl (Nat.le_refl 1) (Nat.le_refl _) ?_
    refine c_S_length (by decide) ?_
    refine AW_run 80 rfl ?_
    have e96 : ((sk_len.getD 0 0 : Nat) : Int) = 96 := rfl
    refine AW_within rfl kkX8_56 rfl (by omega) (fun w1 w2 => ?_) (fun w3 => ?_)
    · refine AW_run 80 rfl ?_
      first | refine AW_e1 rfl ?_ | refine AW_e0 rfl ?_ | refine AW_n1 rfl ?_ | refine AW_n0 rfl ?_
      refine AW_ldcS (x := 0) rfl rfl ⟨rfl, rfl⟩ ?_
      refine AW_run 80 rfl ?_
      refine AW_callX (x := 0) (M' := mJ0_charAt_5068e) rfl kkX8_72 lcJ0_charAt_5068e rfl (by decide) rfl rfl (Nat.le_refl 2) (Nat.le_refl _) ?_
      refine c_S_charAt (d := d) _ (by decide) ⟨w1, by omega⟩ ?_
      refine AW_run 80 rfl ?_
      refine AW_iceq rfl (fun g => ?_) (fun g => ?_) (by unfold sk_in; omega) hc
      · refine AW_run 80 rfl ?_
        exact AW_lk (kk (by rw [← ec]; exact g)) ⟨rfl, rfl, rfl, rfl, rfl, trivial⟩
      · refine AW_run 80 rfl ?_
        exact AW_zret rfl rfl (Or.inl rfl) (hF (fun z => g (by rw [ec]; exact z i h0 h6)))
    · omega
  have key : ∀ (m : Nat) (i : Int), 0 ≤ i → i + m = 6 → (∀ j, 0 ≤ j → j < i → sk_chr 0 (w * 6 + j) = sk_pad (I 2) f e j) → AW l E (d + 4) 0 0 mX8_isWord 7 [some (vi w), some (vr 1), some (vi f), some (vi e), some (vi i), none, none] [vi 6, vi i] sk_G (I, L, sk_J cu sp io rp tp fp) Q := by
    intro m
    induction m with
    | zero =>
      intro i h0 hi hj
      refine AW_icge rfl (fun h => ?_) (fun h => ?_)
      · refine AW_run 80 rfl ?_
        exact AW_zret rfl rfl (Or.inr rfl) (hT (fun j g1 g2 => hj j g1 (by omega)))
      · omega
    | succ m ih =>
      intro i h0 hi hj
      have nxt : sk_chr 0 (w * 6 + i) = sk_pad (I 2) f e i → AW l E (d + 4) 0 0 mX8_isWord 7 [some (vi w), some (vr 1), some (vi f), some (vi e), some (vi (i + 1)), none, none] [vi 6, vi (i + 1)] sk_G (I, L, sk_J cu sp io rp tp fp) Q := fun g => ih (i + 1) (by omega) (by omega) (fun j g1 g2 => by
        by_cases hji : j = i
        · rw [hji]; exact g
        · exact hj j g1 (by omega))
      refine AW_icge rfl (fun h => ?_) (fun h => ?_)
      · omega
      · refine AW_run 80 rfl ?_
        refine AW_icge rfl (fun h2 => ?_) (fun h2 => ?_)
        · refine AW_run 1 rfl ?_
          refine cmp i 32 h0 (by omega) (by unfold sk_in; omega) ?_ nxt
          rw [sk_pad, if_neg (by omega)]
        · refine AW_run 80 rfl ?_
          refine AW_cV (M' := mX4_at) rfl kkX8_25 lcX4_at rfl rfl rfl rfl rfl rfl (Nat.le_refl _) ?_
          refine c_tape_at (f + i) ht' (by omega) ?_
          have hb := t2 (f + i) (by omega) (by omega)
          refine AW_run 1 rfl ?_
          refine cmp i (I 2 (f + i)) h0 (by omega) (by unfold sk_in; omega) ?_ nxt
          rw [sk_pad, if_pos (by omega)]
  refine AW_run 80 rfl ?_
  exact key 6 0 (by omega) (by omega) (fun j g1 g2 => by omega)
theorem c_T_word (f e : Int) (ht : sk_tp I) (hf : 0 ≤ f ∧ f ≤ e ∧ e ≤ I 1 1) (h1 : 6 < e - f → Q (some (vi 19)) sk_G (I, L, sk_J cu sp io rp tp fp)) (h2 : e - f ≤ 6 → ∀ w, 0 ≤ w → w < 16 → sk_isw (I 2) f e w → (∀ v, 0 ≤ v → v < w → ¬ sk_isw (I 2) f e v) → Q (some (vi w)) sk_G (I, L, sk_J cu sp io rp tp fp)) (h3 : e - f ≤ 6 → (∀ v, 0 ≤ v → v < 16 → ¬ sk_isw (I 2) f e v) → Q (some (vi 19)) sk_G (I, L, sk_J cu sp io rp tp fp)) : AW l E (d + 5) 0 0 mX8_wordOf 0 [some (vr 1), some (vi f), some (vi e), none] [] sk_G (I, L, sk_J cu sp io rp tp fp) Q := by
  have ht' := ht
  obtain ⟨t0, t1, t2⟩ := ht
  have key : e - f ≤ 6 → ∀ (m : Nat) (i : Int), 0 ≤ i → i + m = 16 → (∀ v, 0 ≤ v → v < i → ¬ sk_isw (I 2) f e v) → AW l E (d + 5) 0 0 mX8_wordOf 16 [some (vr 1), some (vi f), some (vi e), some (vi i)] [vi 16, vi i] sk_G (I, L, sk_J cu sp io rp tp fp) Q := by
    intro he m
    induction m with
    | zero =>
      intro i h0 hi hj
      refine AW_icge rfl (fun h => ?_) (fun h => ?_)
      · refine AW_run 80 rfl ?_
        exact AW_iret rfl rfl (h3 he (fun v g1 g2 => hj v g1 (by omega)))
      · omega
    | succ m ih =>
      intro i h0 hi hj
      refine AW_icge rfl (fun h => ?_) (fun h => ?_)
      · omega
      · refine AW_run 80 rfl ?_
        refine AW_cS (M' := mX8_isWord) rfl kkX8_60 lcX8_isWord rfl rfl rfl (Nat.le_refl _) ?_
        refine c_T_isw (d := d) i f e ht' (by omega) hf (fun g => ?_) (fun g => ?_)
        · refine AW_run 80 rfl ?_
          first | refine AW_e1 rfl ?_ | refine AW_e0 rfl ?_ | refine AW_n1 rfl ?_ | refine AW_n0 rfl ?_
          refine AW_run 80 rfl ?_
          exact AW_iret rfl rfl (h2 he i h0 (by omega) g hj)
        · refine AW_run 80 rfl ?_
          first | refine AW_e1 rfl ?_ | refine AW_e0 rfl ?_ | refine AW_n1 rfl ?_ | refine AW_n0 rfl ?_
          refine AW_run 80 rfl ?_
          exact ih (i + 1) (by omega) (by omega) (fun v g1 g2 => by
            by_cases hv : v = i
            · rw [hv]; exact g
            · exact hj v g1 (by omega))
  refine AW_run 80 rfl ?_
  refine AW_icle rfl (fun h => ?_) (fun h => ?_)
  · refine AW_run 80 rfl ?_
    exact key h 16 0 (by omega) (by omega) (fun v g1 g2 => by omega)
  · refine AW_run 80 rfl ?_
    exact AW_iret rfl rfl (h1 (by omega))
end SKT1
