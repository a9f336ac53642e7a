/-! ===== bits, about, step, of both ===== -/
def sk_kb (I : sk_SI) (v : Int) : Nat → sk_SI
  | 0 => I
  | n + 1 => sk_ap (sk_kb I v n) 3 (sk_and (sk_ushr v n) 1)
theorem sk_kb_n (I : sk_SI) (v : Int) : ∀ n : Nat, sk_kb I v n 3 1 = I 3 1 + n
  | 0 => by simp [sk_kb]
  | n + 1 => by
    have := sk_kb_n I v n
    rw [sk_kb, sk_ap_n]
    omega
/-- a number behind the model's bits -/
def sk_mp (I : sk_SI) (c : Int) : sk_SI := sk_uI (sk_uI I 62 (I 59 5) c) 59 5 (I 59 5 + 1)
theorem sk_mp_n (I : sk_SI) (c : Int) : sk_mp I c 59 5 = I 59 5 + 1 := by
  unfold sk_mp
  rw [sk_uI_s, sk_up_s]
def sk_mb (I : sk_SI) (v : Int) : Nat → sk_SI
  | 0 => I
  | n + 1 => sk_mp (sk_mb I v n) (sk_and (sk_shr v n) 1)
theorem sk_mb_n (I : sk_SI) (v : Int) : ∀ n : Nat, sk_mb I v n 59 5 = I 59 5 + n
  | 0 => by simp [sk_mb]
  | n + 1 => by
    have := sk_mb_n I v n
    rw [sk_mb, sk_mp_n]
    omega
section SKE1
variable {l : Launch} {E : sk_En} {d : Nat} {I : sk_SI} {L : sk_SL} {cu sp io rp tp fp : Nat} {Q : Option sk_V → List sk_Sh → sk_St → Prop}
theorem c_K_bits (v n : Int) (hn : sk_in n) (h0 : 0 ≤ I 3 1) (h1 : I 3 1 ≤ 400) (hF : ¬ (1 ≤ n ∧ n ≤ 32) → Q (some (vi (-3))) sk_G (I, L, sk_J cu sp io rp tp fp)) (hG : 1 ≤ n → n ≤ 32 → 400 < I 3 1 + n → Q (some (vi (-5))) sk_G (I, L, sk_J cu sp io rp tp fp)) (hT : 1 ≤ n → n ≤ 32 → I 3 1 + n ≤ 400 → Q (some (vi (I 3 1 + n))) sk_G (sk_kb I v n.toNat, L, sk_J cu sp io rp tp fp)) : AW l E (d + 2) 0 0 mX9_bits 0 [some (vr 0), some (vi v), some (vi n), none] [] sk_G (I, L, sk_J cu sp io rp tp fp) Q := by
  have key : 1 ≤ n → n ≤ 32 → I 3 1 + n ≤ 400 → ∀ (m i : Nat), (i : Int) + m = n → AW l E (d + 2) 0 0 mX9_bits 32 [some (vr 0), some (vi v), some (vi n), some (vi i)] [vi n, vi i] sk_G (sk_kb I v i, L, sk_J cu sp io rp tp fp) Q := by
    intro g1 g2 g3 m
    induction m with
    | zero =>
      intro i hi
      have e := sk_kb_n I v i
      refine AW_icge rfl (fun h => ?_) (fun h => ?_)
      · refine AW_run 80 rfl ?_
        refine AW_top (show _ = I 3 1 + n by omega) ?_
        refine AW_iret rfl rfl ?_
        have := hT g1 g2 g3
        rw [show n.toNat = i by omega] at this
        exact this
      · omega
    | succ m ih =>
      intro i hi
      have e := sk_kb_n I v i
      refine AW_icge rfl (fun h => ?_) (fun h => ?_)
      · omega
      · refine AW_run 80 rfl ?_
        refine AW_cV (M' := mX4_add) rfl kkX9_79 lcX4_add rfl rfl rfl rfl rfl rfl (Nat.le_refl _) ?_
        refine c_Row_add (d := d) 3 400 (Or.inr (Or.inl ⟨rfl, rfl⟩)) _ (by omega) (by omega) ?_
        refine AW_run 80 rfl ?_
        exact ih (i + 1) (by omega)
  refine AW_run 80 rfl ?_
  refine AW_iclt rfl (fun g => ?_) (fun g => ?_)
  · refine AW_run 80 rfl ?_
    exact AW_iret rfl rfl (hF (by omega))
  · refine AW_run 80 rfl ?_
    refine AW_icle rfl (fun g2 => ?_) (fun g2 => ?_)
    · refine AW_run 80 rfl ?_
      refine AW_cV (M' := mX4_hasRoomFor) rfl kkX9_68 lcX4_hasRoomFor rfl rfl rfl rfl rfl rfl (Nat.le_refl _) ?_
      refine c_Row_room 3 400 (Or.inr (Or.inl ⟨rfl, rfl⟩)) n hn h0 h1 (fun g3 => ?_) (fun g3 => ?_)
      · refine AW_run 80 rfl ?_
        first | refine AW_e1 rfl ?_ | refine AW_e0 rfl ?_ | refine AW_n1 rfl ?_ | refine AW_n0 rfl ?_
        refine AW_run 80 rfl ?_
        exact key (by omega) g2 (by omega) n.toNat 0 (by omega)
      · refine AW_run 80 rfl ?_
        first | refine AW_e1 rfl ?_ | refine AW_e0 rfl ?_ | refine AW_n1 rfl ?_ | refine AW_n0 rfl ?_
        refine AW_run 80 rfl ?_
        exact AW_iret rfl rfl (hG (by omega) (by omega) (by omega))
    · refine AW_run 80 rfl ?_
      exact AW_iret rfl rfl (hF (by omega))
theorem c_M_bits (v n : Int) (hn : sk_in n) (ht : I 59 0 = 0) (h0 : 0 ≤ I 59 5) (h1 : I 59 5 ≤ 400) (hF : ¬ (1 ≤ n ∧ n ≤ 32) → Q (some (vi (-3))) sk_G (I, L, sk_J cu sp io rp tp fp)) (hG : 1 ≤ n → n ≤ 32 → 400 < I 59 5 + n → Q (some (vi (-5))) sk_G (I, L, sk_J cu sp io rp tp fp)) (hT : 1 ≤ n → n ≤ 32 → I 59 5 + n ≤ 400 → Q (some (vi (I 59 5 + n))) sk_G (sk_mb I v n.toNat, L, sk_J cu sp io rp tp fp)) : AW l E (d + 1) 0 0 mX10_bits 0 [some (vr 59), some (vi v), some (vi n), none] [] sk_G (I, L, sk_J cu sp io rp tp fp) Q := by
  have key : 1 ≤ n → n ≤ 32 → I 59 5 + n ≤ 400 → ∀ (m i : Nat), (i : Int) + m = n → AW l E (d + 1) 0 0 mX10_bits 37 [some (vr 59), some (vi v), some (vi n), some (vi i)] [vi n, vi i] sk_G (sk_mb I v i, L, sk_J cu sp io rp tp fp) Q := by
    intro g1 g2 g3 m
    induction m with
    | zero =>
      intro i hi
      have e := sk_mb_n I v i
      refine AW_icge rfl (fun h => ?_) (fun h => ?_)
      · refine AW_run 80 rfl ?_
        refine AW_top (show _ = I 59 5 + n by omega) ?_
        refine AW_iret rfl rfl ?_
        have := hT g1 g2 g3
        rw [show n.toNat = i by omega] at this
        exact this
      · omega
    | succ m ih =>
      intro i hi
      have e := sk_mb_n I v i
      refine AW_icge rfl (fun h => ?_) (fun h => ?_)
      · omega
      · refine AW_run 80 rfl ?_
        refine AW_iast rfl rfl ⟨by omega, by omega⟩ (by decide) ?_
        (refine AW_run 80 rfl ?_; (try simp only [sk_uI_s, sk_uI_o, sk_up_s, sk_up_o, sk_uL_s, sk_uL_o, ne_eq, Nat.reduceEqDiff, Nat.reduceAdd, Int.reduceEq, not_false_eq_true]))
        exact ih (i + 1) (by omega)
  refine AW_run 80 rfl ?_
  rw [sk_uI_id ht]
  refine AW_in rfl kkX10_177 rfl (by omega) (fun w1 w2 => ?_) (fun w3 => ?_)
  · refine AW_run 80 rfl ?_
    first | refine AW_e1 rfl ?_ | refine AW_e0 rfl ?_ | refine AW_n1 rfl ?_ | refine AW_n0 rfl ?_
    refine AW_run 80 rfl ?_
    refine AW_icle rfl (fun g2 => ?_) (fun g2 => ?_)
    · refine AW_run 80 rfl ?_
      exact key w1 w2 g2 n.toNat 0 (by omega)
    · refine AW_run 80 rfl ?_
      exact AW_iret rfl rfl (hG (by omega) (by omega) (by omega))
  · refine AW_run 80 rfl ?_
    first | refine AW_e1 rfl ?_ | refine AW_e0 rfl ?_ | refine AW_n1 rfl ?_ | refine AW_n0 rfl ?_
    refine AW_run 80 rfl ?_
    exact AW_iret rfl rfl (hF (by omega))
theorem c_K_about (w : Int) (hw : sk_in w) (hc : sk_pg cu) (hm : 0 ≤ I cu 9 ∧ I cu 9 ≤ 20) (hs : 0 ≤ I cu 10 ∧ I cu 10 ≤ 200) (hI : ∀ i, 0 ≤ i → i < I cu 10 → sk_in (I (cu + 3) i)) (h1 : ¬ (0 ≤ w ∧ w < 4) → Q (some (vi (-3))) sk_G (I, L, sk_J cu sp io rp tp fp)) (h2 : 0 ≤ w → w < 4 → I cu 9 = 0 → Q (some (vi (-4))) sk_G (I, L, sk_J cu sp io rp tp fp)) (h3 : 0 < I cu 9 → ∀ v : Int, (w = 0 ∧ v = I cu 9 ∨ w = 1 ∧ v = I cu 10 ∨ w = 2 ∧ v = sk_nw2 I cu 0 ∨ w = 3 ∧ v = I cu 11) → Q (some (vi v)) sk_G (I, L, sk_J cu sp io rp tp fp)) : AW l E (d + 1) 0 0 mX9_about 0 [some (vr 0), some (vi w)] [] sk_G (I, L, sk_J cu sp io rp tp fp) Q := by
  refine AW_run 80 rfl ?_
  refine AW_withinS rfl kkX9_82 rfl (by omega) (fun w1 w2 => ?_) (fun w3 => ?_)
  · refine AW_run 80 rfl ?_
    first | refine AW_e1 rfl ?_ | refine AW_e0 rfl ?_ | refine AW_n1 rfl ?_ | refine AW_n0 rfl ?_
    refine AW_run 80 rfl ?_
    refine AW_cV (M' := mX9_hasProgram) rfl kkX9_113 lcX9_hasProgram rfl rfl rfl rfl rfl rfl (Nat.le_refl _) ?_
    refine c_K_has hc hm (fun g => ?_) (fun g => ?_)
    · refine AW_run 80 rfl ?_
      first | refine AW_e1 rfl ?_ | refine AW_e0 rfl ?_ | refine AW_n1 rfl ?_ | refine AW_n0 rfl ?_
      rcases hc with rfl | rfl <;>
      · refine AW_run 80 rfl ?_
        rcases (show w = 0 ∨ w = 1 ∨ w = 2 ∨ w = 3 by omega) with e | e | e | e
        · refine AW_tin 0 rfl (by omega) rfl hw ?_
          refine AW_run 80 rfl ?_
          exact AW_iret rfl rfl (h3 g _ (Or.inl ⟨e, rfl⟩))
        · refine AW_tin 1 rfl (by omega) rfl hw ?_
          refine AW_run 80 rfl ?_
          exact AW_iret rfl rfl (h3 g _ (Or.inr (Or.inl ⟨e, rfl⟩)))
        · refine AW_tin 2 rfl (by omega) rfl hw ?_
          refine AW_run 80 rfl ?_
          refine AW_cV (M' := mX2_countOf) rfl kkX9_120 lcX2_countOf rfl rfl rfl rfl rfl rfl (Nat.le_refl _) ?_
          refine c_Pg_count _ (by first | exact Or.inl rfl | exact Or.inr rfl) 0 sk_in0 hs hI ?_
          exact AW_iret rfl rfl (h3 g _ (Or.inr (Or.inr (Or.inl ⟨e, rfl⟩))))
        · refine AW_tout rfl (by omega) hw ?_
          refine AW_run 80 rfl ?_
          exact AW_iret rfl rfl (h3 g _ (Or.inr (Or.inr (Or.inr ⟨e, rfl⟩))))
    · refine AW_run 80 rfl ?_
      first | refine AW_e1 rfl ?_ | refine AW_e0 rfl ?_ | refine AW_n1 rfl ?_ | refine AW_n0 rfl ?_
      refine AW_run 80 rfl ?_
      exact AW_iret rfl rfl (h2 w1 w2 g)
  · refine AW_run 80 rfl ?_
    first | refine AW_e1 rfl ?_ | refine AW_e0 rfl ?_ | refine AW_n1 rfl ?_ | refine AW_n0 rfl ?_
    refine AW_run 80 rfl ?_
    exact AW_iret rfl rfl (h1 w3)
theorem c_K_step (s w : Int) (hsi : sk_in s) (hw : sk_in w) (hc : sk_pg cu) (hm : 0 ≤ I cu 9 ∧ I cu 9 ≤ 20) (hs : 0 ≤ I cu 10 ∧ I cu 10 ≤ 200) (h1 : I cu 9 = 0 → Q (some (vi (-4))) sk_G (I, L, sk_J cu sp io rp tp fp)) (h2 : 0 < I cu 9 → ¬ (0 ≤ s ∧ s < I cu 10 ∧ 0 ≤ w ∧ w < 4) → Q (some (vi (-3))) sk_G (I, L, sk_J cu sp io rp tp fp)) (h3 : 0 < I cu 9 → 0 ≤ s → s < I cu 10 → ∀ v : Int, (w = 0 ∧ v = I (cu + 3) s ∨ w = 1 ∧ v = I (cu + 4) s ∨ w = 2 ∧ v = I (cu + 5) s ∨ w = 3 ∧ v = I (cu + 6) s) → Q (some (vi v)) sk_G (I, L, sk_J cu sp io rp tp fp)) : AW l E (d + 1) 0 0 mX9_step 0 [some (vr 0), some (vi s), some (vi w)] [] sk_G (I, L, sk_J cu sp io rp tp fp) Q := by
  refine AW_run 80 rfl ?_
  refine AW_cV (M' := mX9_hasProgram) rfl kkX9_113 lcX9_hasProgram rfl rfl rfl rfl rfl rfl (Nat.le_refl _) ?_
  refine c_K_has hc hm (fun g => ?_) (fun g => ?_)
  · refine AW_run 80 rfl ?_
    first | refine AW_e1 rfl ?_ | refine AW_e0 rfl ?_ | refine AW_n1 rfl ?_ | refine AW_n0 rfl ?_
    rcases hc with rfl | rfl <;>
    · refine AW_run 80 rfl ?_
      refine AW_withinS rfl kkX9_82 rfl (by omega) (fun w1 w2 => ?_) (fun w3 => ?_)
      · refine AW_run 80 rfl ?_
        first | refine AW_e1 rfl ?_ | refine AW_e0 rfl ?_ | refine AW_n1 rfl ?_ | refine AW_n0 rfl ?_
        refine AW_run 80 rfl ?_
        refine AW_withinS rfl kkX9_82 rfl (by omega) (fun w4 w5 => ?_) (fun w6 => ?_)
        · refine AW_run 80 rfl ?_
          first | refine AW_e1 rfl ?_ | refine AW_e0 rfl ?_ | refine AW_n1 rfl ?_ | refine AW_n0 rfl ?_
          refine AW_run 80 rfl ?_
          rcases (show w = 0 ∨ w = 1 ∨ w = 2 ∨ w = 3 by omega) with e | e | e | e
          · refine AW_tin 0 rfl (by omega) rfl hw ?_
            refine AW_run 80 rfl ?_
            refine AW_iald rfl rfl ⟨by omega, by omega⟩ (by decide) ?_
            exact AW_iret rfl rfl (h3 g w1 w2 _ (Or.inl ⟨e, rfl⟩))
          · refine AW_tin 1 rfl (by omega) rfl hw ?_
            refine AW_run 80 rfl ?_
            refine AW_iald rfl rfl ⟨by omega, by omega⟩ (by decide) ?_
            exact AW_iret rfl rfl (h3 g w1 w2 _ (Or.inr (Or.inl ⟨e, rfl⟩)))
          · refine AW_tin 2 rfl (by omega) rfl hw ?_
            refine AW_run 80 rfl ?_
            refine AW_iald rfl rfl ⟨by omega, by omega⟩ (by decide) ?_
            exact AW_iret rfl rfl (h3 g w1 w2 _ (Or.inr (Or.inr (Or.inl ⟨e, rfl⟩))))
          · refine AW_tout rfl (by omega) hw ?_
            refine AW_run 80 rfl ?_
            refine AW_iald rfl rfl ⟨by omega, by omega⟩ (by decide) ?_
            exact AW_iret rfl rfl (h3 g w1 w2 _ (Or.inr (Or.inr (Or.inr ⟨e, rfl⟩))))
        · refine AW_run 80 rfl ?_
          first | refine AW_e1 rfl ?_ | refine AW_e0 rfl ?_ | refine AW_n1 rfl ?_ | refine AW_n0 rfl ?_
          refine AW_run 80 rfl ?_
          exact AW_iret rfl rfl (h2 g (by omega))
      · refine AW_run 80 rfl ?_
        first | refine AW_e1 rfl ?_ | refine AW_e0 rfl ?_ | refine AW_n1 rfl ?_ | refine AW_n0 rfl ?_
        refine AW_run 80 rfl ?_
        exact AW_iret rfl rfl (h2 g (by omega))
  · refine AW_run 80 rfl ?_
    first | refine AW_e1 rfl ?_ | refine AW_e0 rfl ?_ | refine AW_n1 rfl ?_ | refine AW_n0 rfl ?_
    refine AW_run 80 rfl ?_
    exact AW_iret rfl rfl (h1 g)
theorem c_M_about (w : Int) (hw : sk_in w) (ht : I 59 0 = 0) (hh : I 59 7 = 0 ∨ I 59 7 = 1) (hs : I 59 7 = 1 → 0 ≤ I 66 0 ∧ I 66 0 ≤ 200) (hI : ∀ i, 0 ≤ i → i < I 66 0 → sk_in (I 67 i)) (h1 : ¬ (0 ≤ w ∧ w < 4) → Q (some (vi (-3))) sk_G (I, L, sk_J cu sp io rp tp fp)) (h2 : 0 ≤ w → w < 4 → I 59 7 = 0 → Q (some (vi (-4))) sk_G (I, L, sk_J cu sp io rp tp fp)) (h3 : I 59 7 = 1 → ∀ v : Int, (w = 0 ∧ v = I 63 0 ∨ w = 1 ∧ v = I 66 0 ∨ w = 2 ∧ v = sk_sum (sk_eqc (I 67) 0) (I 66 0).toNat ∨ w = 3 ∧ v = I 74 0) → Q (some (vi v)) sk_G (I, L, sk_J cu sp io rp tp fp)) : AW l E (d + 1) 0 0 mX10_about 0 [some (vr 59), some (vi w), none, none] [] sk_G (I, L, sk_J cu sp io rp tp fp) Q := by
  refine AW_run 80 rfl ?_
  rw [sk_uI_id ht]
  refine AW_in rfl kkX10_177 rfl (by omega) (fun w1 w2 => ?_) (fun w3 => ?_)
  · refine AW_run 80 rfl ?_
    first | refine AW_e1 rfl ?_ | refine AW_e0 rfl ?_ | refine AW_n1 rfl ?_ | refine AW_n0 rfl ?_
    refine AW_run 80 rfl ?_
    refine AW_ifne rfl (fun g => ?_) (fun g => ?_)
    · have g1 : I 59 7 = 1 := by omega
      have hs := hs g1
      have key : ∀ (m : Nat) (i : Int), 0 ≤ i → i + m = I 66 0 → AW l E (d + 1) 0 0 mX10_about 38 [some (vr 59), some (vi w), some (vi (sk_sum (sk_eqc (I 67) 0) i.toNat)), some (vi i)] [vi (I 66 0), vi i] sk_G (I, L, sk_J cu sp io rp tp fp) Q := by
        intro m
        induction m with
        | zero =>
          intro i g0 gi
          have ei : i = I 66 0 := by omega
          subst ei
          refine AW_icge rfl (fun h => ?_) (fun h => ?_)
          · refine AW_run 80 rfl ?_
            refine AW_ifne rfl (fun e1 => ?_) (fun e1 => ?_)
            · refine AW_run 80 rfl ?_
              refine AW_icne rfl (fun e2 => ?_) (fun e2 => ?_)
              · refine AW_run 80 rfl ?_
                refine AW_icne rfl (fun e3 => ?_) (fun e3 => ?_)
                · refine AW_run 80 rfl ?_
                  refine AW_iald rfl rfl ⟨by omega, by omega⟩ (by decide) ?_
                  exact AW_iret rfl rfl (h3 g1 _ (Or.inr (Or.inr (Or.inr ⟨by omega, rfl⟩))))
                · refine AW_run 80 rfl ?_
                  exact AW_iret rfl rfl (h3 g1 _ (Or.inr (Or.inr (Or.inl ⟨by omega, rfl⟩))))
              · refine AW_run 80 rfl ?_
                refine AW_iald rfl rfl ⟨by omega, by omega⟩ (by decide) ?_
                refine AW_run 80 rfl ?_
                exact AW_iret rfl rfl (h3 g1 _ (Or.inr (Or.inl ⟨by omega, rfl⟩)))
            · refine AW_run 80 rfl ?_
              refine AW_iald rfl rfl ⟨by omega, by omega⟩ (by decide) ?_
              refine AW_run 80 rfl ?_
              exact AW_iret rfl rfl (h3 g1 _ (Or.inl ⟨by omega, rfl⟩))
          · omega
        | succ m ih =>
          intro i g0 gi
          refine AW_icge rfl (fun h => ?_) (fun h => ?_)
          · omega
          · refine AW_run 80 rfl ?_
            refine AW_iald rfl rfl ⟨by omega, by omega⟩ (by decide) ?_
            refine AW_run 80 rfl ?_
            refine AW_ifne rfl (fun e1 => ?_) (fun e1 => ?_) (hI i g0 (by omega))
            · refine AW_run 80 rfl ?_
              refine AW_iald rfl rfl ⟨by omega, by omega⟩ (by decide) ?_
              exact AW_lk (ih (i + 1) (by omega) (by omega)) ⟨rfl, rfl, by rw [sk_sum_s _ g0, sk_eqc, if_neg e1], rfl, trivial⟩
            · refine AW_run 80 rfl ?_
              refine AW_iald rfl rfl ⟨by omega, by omega⟩ (by decide) ?_
              exact AW_lk (ih (i + 1) (by omega) (by omega)) ⟨rfl, rfl, by rw [sk_sum_s _ g0, sk_eqc, if_pos e1], rfl, trivial⟩
      refine AW_run 80 rfl ?_
      refine AW_iald rfl rfl ⟨by omega, by omega⟩ (by decide) ?_
      exact key (I 66 0).toNat 0 (by omega) (by omega)
    · refine AW_run 80 rfl ?_
      exact AW_iret rfl rfl (h2 w1 (by omega) g)
  · refine AW_run 80 rfl ?_
    first | refine AW_e1 rfl ?_ | refine AW_e0 rfl ?_ | refine AW_n1 rfl ?_ | refine AW_n0 rfl ?_
    refine AW_run 80 rfl ?_
    exact AW_iret rfl rfl (h1 (by omega))
theorem c_M_step (s w : Int) (hsi : sk_in s) (hw : sk_in w) (ht : I 59 0 = 0) (hh : I 59 7 = 0 ∨ I 59 7 = 1) (hs : I 59 7 = 1 → 0 ≤ I 66 0 ∧ I 66 0 ≤ 200) (h1 : I 59 7 = 0 → Q (some (vi (-4))) sk_G (I, L, sk_J cu sp io rp tp fp)) (h2 : I 59 7 = 1 → ¬ (0 ≤ s ∧ s < I 66 0 ∧ 0 ≤ w ∧ w < 4) → Q (some (vi (-3))) sk_G (I, L, sk_J cu sp io rp tp fp)) (h3 : I 59 7 = 1 → 0 ≤ s → s < I 66 0 → ∀ v : Int, (w = 0 ∧ v = I 67 s ∨ w = 1 ∧ v = I 68 s ∨ w = 2 ∧ v = I 69 s ∨ w = 3 ∧ v = I 70 s) → Q (some (vi v)) sk_G (I, L, sk_J cu sp io rp tp fp)) : AW l E (d + 1) 0 0 mX10_step_ 0 [some (vr 59), some (vi s), some (vi w)] [] sk_G (I, L, sk_J cu sp io rp tp fp) Q := by
  refine AW_run 80 rfl ?_
  rw [sk_uI_id ht]
  refine AW_ifne rfl (fun g => ?_) (fun g => ?_)
  · have g1 : I 59 7 = 1 := by omega
    have hs := hs g1
    refine AW_run 80 rfl ?_
    refine AW_iald rfl rfl ⟨by omega, by omega⟩ (by decide) ?_
    refine AW_run 80 rfl ?_
    refine AW_in rfl kkX10_177 rfl (by omega) (fun w1 w2 => ?_) (fun w3 => ?_)
    · refine AW_run 80 rfl ?_
      first | refine AW_e1 rfl ?_ | refine AW_e0 rfl ?_ | refine AW_n1 rfl ?_ | refine AW_n0 rfl ?_
      refine AW_run 80 rfl ?_
      refine AW_in rfl kkX10_177 rfl (by omega) (fun w4 w5 => ?_) (fun w6 => ?_)
      · refine AW_run 80 rfl ?_
        first | refine AW_e1 rfl ?_ | refine AW_e0 rfl ?_ | refine AW_n1 rfl ?_ | refine AW_n0 rfl ?_
        refine AW_run 80 rfl ?_
        refine AW_ifne rfl (fun e1 => ?_) (fun e1 => ?_)
        · refine AW_run 80 rfl ?_
          refine AW_icne rfl (fun e2 => ?_) (fun e2 => ?_)
          · refine AW_run 80 rfl ?_
            refine AW_icne rfl (fun e3 => ?_) (fun e3 => ?_)
            · refine AW_run 80 rfl ?_
              refine AW_iald rfl rfl ⟨by omega, by omega⟩ (by decide) ?_
              exact AW_iret rfl rfl (h3 g1 w1 (by omega) _ (Or.inr (Or.inr (Or.inr ⟨by omega, rfl⟩))))
            · refine AW_run 80 rfl ?_
              refine AW_iald rfl rfl ⟨by omega, by omega⟩ (by decide) ?_
              refine AW_run 80 rfl ?_
              exact AW_iret rfl rfl (h3 g1 w1 (by omega) _ (Or.inr (Or.inr (Or.inl ⟨by omega, rfl⟩))))
          · refine AW_run 80 rfl ?_
            refine AW_iald rfl rfl ⟨by omega, by omega⟩ (by decide) ?_
            refine AW_run 80 rfl ?_
            exact AW_iret rfl rfl (h3 g1 w1 (by omega) _ (Or.inr (Or.inl ⟨by omega, rfl⟩)))
        · refine AW_run 80 rfl ?_
          refine AW_iald rfl rfl ⟨by omega, by omega⟩ (by decide) ?_
          refine AW_run 80 rfl ?_
          exact AW_iret rfl rfl (h3 g1 w1 (by omega) _ (Or.inl ⟨by omega, rfl⟩))
      · refine AW_run 80 rfl ?_
        first | refine AW_e1 rfl ?_ | refine AW_e0 rfl ?_ | refine AW_n1 rfl ?_ | refine AW_n0 rfl ?_
        refine AW_run 80 rfl ?_
        exact AW_iret rfl rfl (h2 g1 (by omega))
    · refine AW_run 80 rfl ?_
      first | refine AW_e1 rfl ?_ | refine AW_e0 rfl ?_ | refine AW_n1 rfl ?_ | refine AW_n0 rfl ?_
      refine AW_run 80 rfl ?_
      exact AW_iret rfl rfl (h2 g1 (by omega))
  · refine AW_run 80 rfl ?_
    exact AW_iret rfl rfl (h1 g)
end SKE1
