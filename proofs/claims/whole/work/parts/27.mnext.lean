/-! ===== the model's next() ===== -/
theorem sk_uI_2 {I : sk_SI} {k : Nat} {j a b : Int} : sk_uI (sk_uI I k j a) k j b = sk_uI I k j b := by
  funext k' j'
  by_cases hk : k' = k
  · subst hk
    rw [sk_uI_s, sk_uI_s, sk_uI_s]
    by_cases hj : j' = j
    · subst hj; rw [sk_up_s, sk_up_s]
    · rw [sk_up_o hj, sk_up_o hj, sk_up_o hj]
  · rw [sk_uI_o hk, sk_uI_o hk, sk_uI_o hk]
def sk_mall (t : Int → Int) (f : Int) (x : Nat) : Nat → Bool
  | 0 => true
  | k + 1 => sk_mall t f x k && decide (sk_chr x k = t (f + k))
theorem sk_mall_iff (t : Int → Int) (f : Int) (x : Nat) : ∀ n : Nat, sk_mall t f x n = true ↔ ∀ k : Int, 0 ≤ k → k < n → sk_chr x k = t (f + k)
  | 0 => by
    simp only [sk_mall, true_iff]
    intro k h1 h2
    omega
  | n + 1 => by
    have := sk_mall_iff t f x n
    simp only [sk_mall, Bool.and_eq_true, decide_eq_true_eq, this]
    constructor
    · rintro ⟨h1, h2⟩ k g1 g2
      by_cases e : k = n
      · rw [e]; exact h2
      · exact h1 k g1 (by omega)
    · intro h
      exact ⟨fun k g1 g2 => h k g1 (by omega), h n (by omega) (by omega)⟩
def sk_mwb (t : Int → Int) (f e w : Int) : Bool := decide (((sk_len.getD (1 + w.toNat) 0 : Nat) : Int) = e - f) && sk_mall t f (1 + w.toNat) (e - f).toNat
theorem sk_mw_iff (t : Int → Int) (f e w : Int) (h : f ≤ e) : sk_mw t f e w ↔ sk_mwb t f e w = true := by
  simp only [sk_mw, sk_mwb, Bool.and_eq_true, decide_eq_true_eq, sk_mall_iff]
  constructor
  · rintro ⟨h1, h2⟩
    exact ⟨h1, fun k g1 g2 => h2 k g1 (by omega)⟩
  · rintro ⟨h1, h2⟩
    exact ⟨h1, fun k g1 g2 => h2 k g1 (by omega)⟩
def sk_mfw (t : Int → Int) (f e : Int) : Nat → Int → Int
  | 0, _ => 25
  | m + 1, w => if sk_mwb t f e w = true then w else sk_mfw t f e m (w + 1)
theorem sk_mfw_1 (t : Int → Int) (f e w : Int) (hfe : f ≤ e) (hw : sk_mw t f e w) : ∀ (m : Nat) (i : Int), i ≤ w → w < i + m → (∀ v, i ≤ v → v < w → ¬ sk_mw t f e v) → sk_mfw t f e m i = w
  | 0, i, h1, h2, _ => by omega
  | m + 1, i, h1, h2, h3 => by
    unfold sk_mfw
    by_cases hi : i = w
    · rw [if_pos (by rw [hi]; exact (sk_mw_iff t f e w hfe).mp hw)]; exact hi
    · rw [if_neg (fun z => h3 i (Int.le_refl _) (by omega) ((sk_mw_iff t f e i hfe).mpr z))]
      exact sk_mfw_1 t f e w hfe hw m (i + 1) (by omega) (by omega) (fun v g1 g2 => h3 v (by omega) g2)
theorem sk_mfw_0 (t : Int → Int) (f e : Int) (hfe : f ≤ e) : ∀ (m : Nat) (i : Int), (∀ v, i ≤ v → v < i + m → ¬ sk_mw t f e v) → sk_mfw t f e m i = 25
  | 0, _, _ => rfl
  | m + 1, i, h => by
    unfold sk_mfw
    rw [if_neg (fun z => h i (Int.le_refl _) (by omega) ((sk_mw_iff t f e i hfe).mpr z))]
    exact sk_mfw_0 t f e hfe m (i + 1) (fun v g1 g2 => h v (by omega) (by omega))
/-- the model's token at a place that isn't a space -/
def sk_mtk (t : Int → Int) (n p : Int) : Int := if sk_ltr t p = true then sk_mfw t p (sk_end (sk_ltr t) n p) 16 0 else if sk_dgt t p = true then (if sk_end (sk_dgt t) n p - p ≤ 3 then 20 else 25) else if t p = 123 then 21 else if t p = 125 then 22 else if t p = 59 then 23 else 25
/-- its number -/
def sk_mnu (t : Int → Int) (n p old : Int) : Int := if sk_ltr t p = true then old else if sk_dgt t p = true then (if sk_end (sk_dgt t) n p - p ≤ 3 then sk_nm t p (sk_end (sk_dgt t) n p - p).toNat else 0) else old
/-- the model's cells but 22 .. 25 of its object are as they were -/
def sk_m22 (I I' : sk_SI) : Prop := (∀ j : Int, j ≠ 22 → j ≠ 23 → j ≠ 24 → j ≠ 25 → I' 59 j = I 59 j) ∧ ∀ k : Nat, k ≠ 59 → I' k = I k
/-- what next() leaves -/
def sk_nxs (I I' : sk_SI) : Prop := sk_m22 I I' ∧ I' 59 22 = sk_end (sk_spb (I 60)) (I 59 21) (I 59 23) ∧
  (I' 59 22 = I 59 21 → I' 59 23 = I 59 21 ∧ I' 59 24 = 24 ∧ I' 59 25 = I 59 25) ∧
  (I' 59 22 < I 59 21 → I' 59 23 = sk_te (I 60) (I 59 21) (I' 59 22) ∧ I' 59 24 = sk_mtk (I 60) (I 59 21) (I' 59 22) ∧ I' 59 25 = sk_mnu (I 60) (I 59 21) (I' 59 22) (I 59 25))
section SKM2
variable {l : Launch} {E : sk_En} {d : Nat} {I : sk_SI} {L : sk_SL} {cu sp io rp tp fp : Nat} {Q : Option sk_V → List sk_Sh → sk_St → Prop}
theorem c_M_wordF (ht : sk_tm I) (hf : 0 ≤ I 59 22 ∧ I 59 22 ≤ I 59 23 ∧ I 59 23 ≤ I 59 21) (hq : Q (some (vi (sk_mfw (I 60) (I 59 22) (I 59 23) 16 0))) sk_G (I, L, sk_J cu sp io rp tp fp)) : AW l E (d + 4) 0 0 mX10_wordOf 0 [some (vr 59), none, none, none] [] sk_G (I, L, sk_J cu sp io rp tp fp) Q := by
  refine c_M_word ht hf (fun w h0 h1 h2 h3 => ?_) (fun h => ?_)
  · rwa [sk_mfw_1 _ _ _ w hf.2.1 h2 16 0 h0 (by omega) h3] at hq
  · rwa [sk_mfw_0 _ _ _ hf.2.1 16 0 (fun v g1 g2 => h v g1 (by omega))] at hq
theorem c_M_next (ht : sk_tm I) (hto : 0 ≤ I 59 23 ∧ I 59 23 ≤ I 59 21) (hq : ∀ I', sk_nxs I I' → Q none sk_G (I', L, sk_J cu sp io rp tp fp)) : AW l E (d + 5) 0 0 mX10_next 0 [some (vr 59), none, none] [] sk_G (I, L, sk_J cu sp io rp tp fp) Q := by
  obtain ⟨t0, t1, t2⟩ := ht
  have hfb := sk_end_b (sk_spb (I 60)) (n := I 59 21) (i := I 59 23) hto.2
  generalize hfd : sk_end (sk_spb (I 60)) (I 59 21) (I 59 23) = f at hfb
  -- behind the first byte of a token
  have rest : f < I 59 21 → ∀ S : sk_SI, sk_m22 I S → S 59 22 = f → S 59 23 = f + 1 → S 59 25 = I 59 25 → AW l E (d + 5) 0 0 mX10_next 99 [some (vr 59), some (vi (I 60 f)), none] [vi (I 60 f)] sk_G (S, L, sk_J cu sp io rp tp fp) Q := by
    intro hlt S hS e22 e23 e25
    have e21 : S 59 21 = I 59 21 := hS.1 21 (by decide) (by decide) (by decide) (by decide)
    have e60 : S 60 = I 60 := hS.2 60 (by decide)
    have hb := t2 f (by omega) hlt
    have hte := sk_te_b (I 60) hlt
    refine AW_cS (M' := mX10_isSmall) rfl kkX10_204 lcX10_isSmall rfl rfl rfl (Nat.le_refl _) ?_
    refine c_M_small _ (by unfold sk_in; omega) (fun g1 g2 => ?_) (fun g => ?_)
    · have hl : sk_ltr (I 60) f = true := by simp [sk_ltr, g1, g2]
      have ete : sk_te (I 60) (I 59 21) f = sk_end (sk_ltr (I 60)) (I 59 21) f := by rw [sk_te, if_pos hl]
      have fin : AW l E (d + 5) 0 0 mX10_next 144 [some (vr 59), some (vi (I 60 f)), none] [] sk_G (sk_uI S 59 23 (sk_end (sk_ltr (I 60)) (I 59 21) f), L, sk_J cu sp io rp tp fp) Q := by
        (refine AW_run 80 rfl ?_; (try simp only [sk_uI_s, sk_uI_o, sk_up_s, sk_up_o, sk_uL_s, sk_uL_o, ne_eq, Nat.reduceEqDiff, Nat.reduceAdd, Int.reduceEq, not_false_eq_true]))
        refine AW_cV (M' := mX10_wordOf) rfl kkX10_208 lcX10_wordOf rfl rfl rfl rfl rfl rfl (Nat.le_refl _) ?_
        refine c_M_wordF (d := d) ⟨?_, ?_, ?_⟩ ?_ ?_
        · (try simp only [sk_uI_s, sk_uI_o, sk_up_s, sk_up_o, sk_uL_s, sk_uL_o, ne_eq, Nat.reduceEqDiff, Nat.reduceAdd, Int.reduceEq, not_false_eq_true]); omega
        · (try simp only [sk_uI_s, sk_uI_o, sk_up_s, sk_up_o, sk_uL_s, sk_uL_o, ne_eq, Nat.reduceEqDiff, Nat.reduceAdd, Int.reduceEq, not_false_eq_true]); omega
        · (try simp only [sk_uI_s, sk_uI_o, sk_up_s, sk_up_o, sk_uL_s, sk_uL_o, ne_eq, Nat.reduceEqDiff, Nat.reduceAdd, Int.reduceEq, not_false_eq_true]); rw [e21, e60]; exact t2
        · (try simp only [sk_uI_s, sk_uI_o, sk_up_s, sk_up_o, sk_uL_s, sk_uL_o, ne_eq, Nat.reduceEqDiff, Nat.reduceAdd, Int.reduceEq, not_false_eq_true]); omega
        · (try simp only [sk_uI_s, sk_uI_o, sk_up_s, sk_up_o, sk_uL_s, sk_uL_o, ne_eq, Nat.reduceEqDiff, Nat.reduceAdd, Int.reduceEq, not_false_eq_true])
          refine AW_run 80 rfl ?_
          refine AW_vret rfl rfl (hq _ ⟨⟨fun j a b c e => ?_, fun k hk => ?_⟩, ?_, fun h => ?_, fun h => ?_⟩)
          · (try simp only [sk_uI_s, sk_uI_o, sk_up_s, sk_up_o, sk_uL_s, sk_uL_o, ne_eq, Nat.reduceEqDiff, Nat.reduceAdd, Int.reduceEq, not_false_eq_true])
            rw [sk_up_o c, sk_up_o b]
            exact hS.1 j a b c e
          · rw [sk_uI_o hk, sk_uI_o hk]; exact hS.2 k hk
          · (try simp only [sk_uI_s, sk_uI_o, sk_up_s, sk_up_o, sk_uL_s, sk_uL_o, ne_eq, Nat.reduceEqDiff, Nat.reduceAdd, Int.reduceEq, not_false_eq_true]); rw [e22, hfd]
          · revert h; (try simp only [sk_uI_s, sk_uI_o, sk_up_s, sk_up_o, sk_uL_s, sk_uL_o, ne_eq, Nat.reduceEqDiff, Nat.reduceAdd, Int.reduceEq, not_false_eq_true]); intro h; omega
          · (try simp only [sk_uI_s, sk_uI_o, sk_up_s, sk_up_o, sk_uL_s, sk_uL_o, ne_eq, Nat.reduceEqDiff, Nat.reduceAdd, Int.reduceEq, not_false_eq_true])
            rw [e22, e25, e60]
            refine ⟨by rw [ete], ?_, ?_⟩
            · rw [sk_mtk, if_pos hl]
            · rw [sk_mnu, if_pos hl]
      have key : ∀ (m : Nat) (i : Int), f + 1 ≤ i → i + m = I 59 21 → sk_end (sk_ltr (I 60)) (I 59 21) i = sk_end (sk_ltr (I 60)) (I 59 21) f → AW l E (d + 5) 0 0 mX10_next 113 [some (vr 59), some (vi (I 60 f)), none] [vi (I 59 21), vi i] sk_G (sk_uI S 59 23 i, L, sk_J cu sp io rp tp fp) Q := by
        intro m
        induction m with
        | zero =>
          intro i h0 hi he
          refine AW_icge rfl (fun h => ?_) (fun h => ?_)
          · rw [← he, sk_end_x (by omega)] at fin
            exact fin
          · omega
        | succ m ih =>
          intro i h0 hi he
          refine AW_icge rfl (fun h => ?_) (fun h => ?_)
          · omega
          · have hbi := t2 i (by omega) (by omega)
            (refine AW_run 80 rfl ?_; (try simp only [sk_uI_s, sk_uI_o, sk_up_s, sk_up_o, sk_uL_s, sk_uL_o, ne_eq, Nat.reduceEqDiff, Nat.reduceAdd, Int.reduceEq, not_false_eq_true]))
            refine AW_iald rfl rfl ⟨by omega, by omega⟩ (by decide) ?_
            (try simp only [sk_uI_s, sk_uI_o, sk_up_s, sk_up_o, sk_uL_s, sk_uL_o, ne_eq, Nat.reduceEqDiff, Nat.reduceAdd, Int.reduceEq, not_false_eq_true])
            rw [e60]
            refine AW_cS (M' := mX10_isSmall) rfl kkX10_204 lcX10_isSmall rfl rfl rfl (Nat.le_refl _) ?_
            refine c_M_small _ (by unfold sk_in; omega) (fun k1 k2 => ?_) (fun k3 => ?_)
            · refine AW_run 80 rfl ?_
              first | refine AW_e1 rfl ?_ | refine AW_e0 rfl ?_ | refine AW_n1 rfl ?_ | refine AW_n0 rfl ?_
              (refine AW_run 80 rfl ?_; (try simp only [sk_uI_s, sk_uI_o, sk_up_s, sk_up_o, sk_uL_s, sk_uL_o, ne_eq, Nat.reduceEqDiff, Nat.reduceAdd, Int.reduceEq, not_false_eq_true]))
              rw [sk_uI_2, e21]
              exact ih (i + 1) (by omega) (by omega) (by rw [← he]; exact (sk_end_s (by omega) (by simp [sk_ltr, k1, k2])).symm)
            · refine AW_run 80 rfl ?_
              first | refine AW_e1 rfl ?_ | refine AW_e0 rfl ?_ | refine AW_n1 rfl ?_ | refine AW_n0 rfl ?_
              rw [← he, sk_end_x (by simp only [sk_ltr, decide_eq_true_eq]; omega)] at fin
              exact fin
      refine AW_run 80 rfl ?_
      first | refine AW_e1 rfl ?_ | refine AW_e0 rfl ?_ | refine AW_n1 rfl ?_ | refine AW_n0 rfl ?_
      refine AW_run 80 rfl ?_
      rw [e21, e23]
      have k0 := key (I 59 21 - (f + 1)).toNat (f + 1) (Int.le_refl _) (by omega) (sk_end_s hlt hl).symm
      rw [sk_uI_id e23] at k0
      exact k0
    · have hl : ¬ sk_ltr (I 60) f = true := by simp only [sk_ltr, decide_eq_true_eq]; exact g
      refine AW_run 80 rfl ?_
      first | refine AW_e1 rfl ?_ | refine AW_e0 rfl ?_ | refine AW_n1 rfl ?_ | refine AW_n0 rfl ?_
      refine AW_run 80 rfl ?_
      refine AW_cS (M' := mX10_isDigit) rfl kkX10_211 lcX10_isDigit rfl rfl rfl (Nat.le_refl _) ?_
      refine c_M_digit _ (by unfold sk_in; omega) (fun g1 g2 => ?_) (fun g5 => ?_)
      · have hg : sk_dgt (I 60) f = true := by simp [sk_dgt, g1, g2]
        have ete : sk_te (I 60) (I 59 21) f = sk_end (sk_dgt (I 60)) (I 59 21) f := by rw [sk_te, if_neg hl, if_pos hg]
        rw [ete] at hte
        generalize hed : sk_end (sk_dgt (I 60)) (I 59 21) f = e at ete hte
        -- the end, with the number in its place
        have fin : ∀ v : Int, v = sk_mnu (I 60) (I 59 21) f (I 59 25) → ∀ ls, ls = [some (vr 59), some (vi (I 60 f)), none] → AW l E (d + 5) 0 0 mX10_next 259 ls [] sk_G (sk_uI (sk_uI S 59 23 e) 59 25 v, L, sk_J cu sp io rp tp fp) Q := by
          intro v hv ls hls
          subst hls
          have fin2 : ∀ c : Int, c = sk_mtk (I 60) (I 59 21) f → Q none sk_G (sk_uI (sk_uI (sk_uI S 59 23 e) 59 25 v) 59 24 c, L, sk_J cu sp io rp tp fp) := by
            intro c hc
            refine hq _ ⟨⟨fun j a b c e => ?_, fun k hk => ?_⟩, ?_, fun h => ?_, fun h => ?_⟩
            · (try simp only [sk_uI_s, sk_uI_o, sk_up_s, sk_up_o, sk_uL_s, sk_uL_o, ne_eq, Nat.reduceEqDiff, Nat.reduceAdd, Int.reduceEq, not_false_eq_true])
              rw [sk_up_o c, sk_up_o e, sk_up_o b]
              exact hS.1 j a b c e
            · rw [sk_uI_o hk, sk_uI_o hk, sk_uI_o hk]; exact hS.2 k hk
            · (try simp only [sk_uI_s, sk_uI_o, sk_up_s, sk_up_o, sk_uL_s, sk_uL_o, ne_eq, Nat.reduceEqDiff, Nat.reduceAdd, Int.reduceEq, not_false_eq_true]); rw [e22, hfd]
            · revert h; (try simp only [sk_uI_s, sk_uI_o, sk_up_s, sk_up_o, sk_uL_s, sk_uL_o, ne_eq, Nat.reduceEqDiff, Nat.reduceAdd, Int.reduceEq, not_false_eq_true]); intro h; omega
            · (try simp only [sk_uI_s, sk_uI_o, sk_up_s, sk_up_o, sk_uL_s, sk_uL_o, ne_eq, Nat.reduceEqDiff, Nat.reduceAdd, Int.reduceEq, not_false_eq_true])
              rw [e22]
              exact ⟨ete.symm, hc, hv⟩
          (refine AW_run 80 rfl ?_; (try simp only [sk_uI_s, sk_uI_o, sk_up_s, sk_up_o, sk_uL_s, sk_uL_o, ne_eq, Nat.reduceEqDiff, Nat.reduceAdd, Int.reduceEq, not_false_eq_true]))
          rw [e22]
          refine AW_icgt rfl (fun h => ?_) (fun h => ?_) (by unfold sk_in; omega)
          · refine AW_run 80 rfl ?_
            refine AW_vret rfl rfl (fin2 25 ?_)
            rw [sk_mtk, if_neg hl, if_pos hg, hed, if_neg (by omega)]
          · refine AW_run 80 rfl ?_
            refine AW_vret rfl rfl (fin2 20 ?_)
            rw [sk_mtk, if_neg hl, if_pos hg, hed, if_pos (by omega)]
        have num : e - f ≤ 3 → ∀ (m : Nat) (k : Int), f ≤ k → k + m = e → AW l E (d + 5) 0 0 mX10_next 216 [some (vr 59), some (vi (I 60 f)), some (vi k)] [vi e, vi k] sk_G (sk_uI (sk_uI S 59 23 e) 59 25 (sk_nm (I 60) f (k - f).toNat), L, sk_J cu sp io rp tp fp) Q := by
          intro h3 m
          induction m with
          | zero =>
            intro k h0 hk
            have ek : k = e := by omega
            subst ek
            refine AW_icge rfl (fun h => ?_) (fun h => ?_)
            · refine AW_ls ?_ (fin _ ?_ _ rfl)
              · exact ⟨rfl, rfl, trivial⟩
              · rw [sk_mnu, if_neg hl, if_pos hg, hed, if_pos (by omega)]
            · omega
          | succ m ih =>
            intro k h0 hk
            refine AW_icge rfl (fun h => ?_) (fun h => ?_)
            · omega
            · (refine AW_run 80 rfl ?_; (try simp only [sk_uI_s, sk_uI_o, sk_up_s, sk_up_o, sk_uL_s, sk_uL_o, ne_eq, Nat.reduceEqDiff, Nat.reduceAdd, Int.reduceEq, not_false_eq_true]))
              rw [e22]
              refine AW_icgt rfl (fun h => by omega) (fun h => ?_) (by unfold sk_in; omega)
              (refine AW_run 80 rfl ?_; (try simp only [sk_uI_s, sk_uI_o, sk_up_s, sk_up_o, sk_uL_s, sk_uL_o, ne_eq, Nat.reduceEqDiff, Nat.reduceAdd, Int.reduceEq, not_false_eq_true]))
              refine AW_iald rfl rfl ⟨by omega, by omega⟩ (by decide) ?_
              (try simp only [sk_uI_s, sk_uI_o, sk_up_s, sk_up_o, sk_uL_s, sk_uL_o, ne_eq, Nat.reduceEqDiff, Nat.reduceAdd, Int.reduceEq, not_false_eq_true])
              (refine AW_run 80 rfl ?_; (try simp only [sk_uI_s, sk_uI_o, sk_up_s, sk_up_o, sk_uL_s, sk_uL_o, ne_eq, Nat.reduceEqDiff, Nat.reduceAdd, Int.reduceEq, not_false_eq_true]))
              rw [sk_uI_2, e60]
              have hi := ih (k + 1) (by omega) (by omega)
              rw [show (k + 1 - f).toNat = (k - f).toNat + 1 by omega, sk_nm, show f + ((k - f).toNat : Int) = k by omega, Int.mul_comm] at hi
              exact hi
        have beg : AW l E (d + 5) 0 0 mX10_next 201 [some (vr 59), some (vi (I 60 f)), none] [] sk_G (sk_uI S 59 23 e, L, sk_J cu sp io rp tp fp) Q := by
          (refine AW_run 80 rfl ?_; (try simp only [sk_uI_s, sk_uI_o, sk_up_s, sk_up_o, sk_uL_s, sk_uL_o, ne_eq, Nat.reduceEqDiff, Nat.reduceAdd, Int.reduceEq, not_false_eq_true]))
          rw [e22]
          by_cases h3 : e - f ≤ 3
          · have k0 := num h3 (e - f).toNat f (Int.le_refl _) (by omega)
            rw [Int.sub_self] at k0
            exact k0
          · refine AW_icge rfl (fun h => by omega) (fun h => ?_) (by unfold sk_in; omega) (by unfold sk_in; omega)
            (refine AW_run 80 rfl ?_; (try simp only [sk_uI_s, sk_uI_o, sk_up_s, sk_up_o, sk_uL_s, sk_uL_o, ne_eq, Nat.reduceEqDiff, Nat.reduceAdd, Int.reduceEq, not_false_eq_true]))
            rw [e22]
            refine AW_icgt rfl (fun h => ?_) (fun h => by omega) (by unfold sk_in; omega)
            refine AW_ls ?_ (fin 0 ?_ _ rfl)
            · exact ⟨rfl, rfl, trivial⟩
            · rw [sk_mnu, if_neg hl, if_pos hg, hed, if_neg (by omega)]
        have key : ∀ (m : Nat) (i : Int), f + 1 ≤ i → i + m = I 59 21 → sk_end (sk_dgt (I 60)) (I 59 21) i = e → AW l E (d + 5) 0 0 mX10_next 170 [some (vr 59), some (vi (I 60 f)), none] [vi (I 59 21), vi i] sk_G (sk_uI S 59 23 i, L, sk_J cu sp io rp tp fp) Q := by
          intro m
          induction m with
          | zero =>
            intro i h0 hi he
            refine AW_icge rfl (fun h => ?_) (fun h => ?_)
            · rw [← he, sk_end_x (by omega)] at beg
              exact beg
            · omega
          | succ m ih =>
            intro i h0 hi he
            refine AW_icge rfl (fun h => ?_) (fun h => ?_)
            · omega
            · have hbi := t2 i (by omega) (by omega)
              (refine AW_run 80 rfl ?_; (try simp only [sk_uI_s, sk_uI_o, sk_up_s, sk_up_o, sk_uL_s, sk_uL_o, ne_eq, Nat.reduceEqDiff, Nat.reduceAdd, Int.reduceEq, not_false_eq_true]))
              refine AW_iald rfl rfl ⟨by omega, by omega⟩ (by decide) ?_
              (try simp only [sk_uI_s, sk_uI_o, sk_up_s, sk_up_o, sk_uL_s, sk_uL_o, ne_eq, Nat.reduceEqDiff, Nat.reduceAdd, Int.reduceEq, not_false_eq_true])
              rw [e60]
              refine AW_cS (M' := mX10_isDigit) rfl kkX10_211 lcX10_isDigit rfl rfl rfl (Nat.le_refl _) ?_
              refine c_M_digit _ (by unfold sk_in; omega) (fun k1 k2 => ?_) (fun k3 => ?_)
              · refine AW_run 80 rfl ?_
                first | refine AW_e1 rfl ?_ | refine AW_e0 rfl ?_ | refine AW_n1 rfl ?_ | refine AW_n0 rfl ?_
                (refine AW_run 80 rfl ?_; (try simp only [sk_uI_s, sk_uI_o, sk_up_s, sk_up_o, sk_uL_s, sk_uL_o, ne_eq, Nat.reduceEqDiff, Nat.reduceAdd, Int.reduceEq, not_false_eq_true]))
                rw [sk_uI_2, e21]
                exact ih (i + 1) (by omega) (by omega) (by rw [← he]; exact (sk_end_s (by omega) (by simp [sk_dgt, k1, k2])).symm)
              · refine AW_run 80 rfl ?_
                first | refine AW_e1 rfl ?_ | refine AW_e0 rfl ?_ | refine AW_n1 rfl ?_ | refine AW_n0 rfl ?_
                rw [← he, sk_end_x (by simp only [sk_dgt, decide_eq_true_eq]; omega)] at beg
                exact beg
        refine AW_run 80 rfl ?_
        first | refine AW_e1 rfl ?_ | refine AW_e0 rfl ?_ | refine AW_n1 rfl ?_ | refine AW_n0 rfl ?_
        refine AW_run 80 rfl ?_
        rw [e21, e23]
        have k0 := key (I 59 21 - (f + 1)).toNat (f + 1) (Int.le_refl _) (by omega) (by rw [← hed]; exact (sk_end_s hlt hg).symm)
        rw [sk_uI_id e23] at k0
        exact k0
      · have hg : ¬ sk_dgt (I 60) f = true := by simp only [sk_dgt, decide_eq_true_eq]; exact g5
        have ete : sk_te (I 60) (I 59 21) f = f + 1 := by rw [sk_te, if_neg hl, if_neg hg]
        have fin2 : ∀ c : Int, c = sk_mtk (I 60) (I 59 21) f → Q none sk_G (sk_uI S 59 24 c, L, sk_J cu sp io rp tp fp) := by
          intro c hc
          refine hq _ ⟨⟨fun j a b c e => ?_, fun k hk => ?_⟩, ?_, fun h => ?_, fun h => ?_⟩
          · (try simp only [sk_uI_s, sk_uI_o, sk_up_s, sk_up_o, sk_uL_s, sk_uL_o, ne_eq, Nat.reduceEqDiff, Nat.reduceAdd, Int.reduceEq, not_false_eq_true])
            rw [sk_up_o c]
            exact hS.1 j a b c e
          · rw [sk_uI_o hk]; exact hS.2 k hk
          · (try simp only [sk_uI_s, sk_uI_o, sk_up_s, sk_up_o, sk_uL_s, sk_uL_o, ne_eq, Nat.reduceEqDiff, Nat.reduceAdd, Int.reduceEq, not_false_eq_true]); rw [e22, hfd]
          · revert h; (try simp only [sk_uI_s, sk_uI_o, sk_up_s, sk_up_o, sk_uL_s, sk_uL_o, ne_eq, Nat.reduceEqDiff, Nat.reduceAdd, Int.reduceEq, not_false_eq_true]); intro h; omega
          · (try simp only [sk_uI_s, sk_uI_o, sk_up_s, sk_up_o, sk_uL_s, sk_uL_o, ne_eq, Nat.reduceEqDiff, Nat.reduceAdd, Int.reduceEq, not_false_eq_true])
            rw [e22, e23, e25]
            exact ⟨ete.symm, hc, by rw [sk_mnu, if_neg hl, if_neg hg]⟩
        have em : sk_mtk (I 60) (I 59 21) f = if I 60 f = 123 then 21 else if I 60 f = 125 then 22 else if I 60 f = 59 then 23 else 25 := by rw [sk_mtk, if_neg hl, if_neg hg]
        refine AW_run 80 rfl ?_
        first | refine AW_e1 rfl ?_ | refine AW_e0 rfl ?_ | refine AW_n1 rfl ?_ | refine AW_n0 rfl ?_
        refine AW_run 80 rfl ?_
        refine AW_icne rfl (fun h => ?_) (fun h => ?_) (by unfold sk_in; omega)
        · refine AW_run 80 rfl ?_
          refine AW_icne rfl (fun h2 => ?_) (fun h2 => ?_) (by unfold sk_in; omega)
          · refine AW_run 80 rfl ?_
            refine AW_icne rfl (fun h3 => ?_) (fun h3 => ?_) (by unfold sk_in; omega)
            · refine AW_run 80 rfl ?_
              exact AW_vret rfl rfl (fin2 25 (by rw [em, if_neg h, if_neg h2, if_neg h3]))
            · refine AW_run 80 rfl ?_
              exact AW_vret rfl rfl (fin2 23 (by rw [em, if_neg h, if_neg h2, if_pos h3]))
          · refine AW_run 80 rfl ?_
            exact AW_vret rfl rfl (fin2 22 (by rw [em, if_neg h, if_pos h2]))
        · refine AW_run 80 rfl ?_
          exact AW_vret rfl rfl (fin2 21 (by rw [em, if_pos h]))
  have beh : AW l E (d + 5) 0 0 mX10_next 52 [some (vr 59), none, none] [] sk_G (sk_uI I 59 23 f, L, sk_J cu sp io rp tp fp) Q := by
    (refine AW_run 80 rfl ?_; (try simp only [sk_uI_s, sk_uI_o, sk_up_s, sk_up_o, sk_uL_s, sk_uL_o, ne_eq, Nat.reduceEqDiff, Nat.reduceAdd, Int.reduceEq, not_false_eq_true]))
    refine AW_icne rfl (fun h => ?_) (fun h => ?_) (by unfold sk_in; omega) (by unfold sk_in; omega)
    · (refine AW_run 80 rfl ?_; (try simp only [sk_uI_s, sk_uI_o, sk_up_s, sk_up_o, sk_uL_s, sk_uL_o, ne_eq, Nat.reduceEqDiff, Nat.reduceAdd, Int.reduceEq, not_false_eq_true]))
      refine AW_iald rfl rfl ⟨by omega, by omega⟩ (by decide) ?_
      (try simp only [sk_uI_s, sk_uI_o, sk_up_s, sk_up_o, sk_uL_s, sk_uL_o, ne_eq, Nat.reduceEqDiff, Nat.reduceAdd, Int.reduceEq, not_false_eq_true])
      (refine AW_run 80 rfl ?_; (try simp only [sk_uI_s, sk_uI_o, sk_up_s, sk_up_o, sk_uL_s, sk_uL_o, ne_eq, Nat.reduceEqDiff, Nat.reduceAdd, Int.reduceEq, not_false_eq_true]))
      refine rest (by omega) _ ⟨fun j a b c e => ?_, fun k hk => ?_⟩ ?_ ?_ ?_
      · (try simp only [sk_uI_s, sk_uI_o, sk_up_s, sk_up_o, sk_uL_s, sk_uL_o, ne_eq, Nat.reduceEqDiff, Nat.reduceAdd, Int.reduceEq, not_false_eq_true])
        rw [sk_up_o b, sk_up_o a, sk_up_o b]
      · rw [sk_uI_o hk, sk_uI_o hk, sk_uI_o hk]
      · (try simp only [sk_uI_s, sk_uI_o, sk_up_s, sk_up_o, sk_uL_s, sk_uL_o, ne_eq, Nat.reduceEqDiff, Nat.reduceAdd, Int.reduceEq, not_false_eq_true])
      · (try simp only [sk_uI_s, sk_uI_o, sk_up_s, sk_up_o, sk_uL_s, sk_uL_o, ne_eq, Nat.reduceEqDiff, Nat.reduceAdd, Int.reduceEq, not_false_eq_true])
      · (try simp only [sk_uI_s, sk_uI_o, sk_up_s, sk_up_o, sk_uL_s, sk_uL_o, ne_eq, Nat.reduceEqDiff, Nat.reduceAdd, Int.reduceEq, not_false_eq_true])
    · (refine AW_run 80 rfl ?_; (try simp only [sk_uI_s, sk_uI_o, sk_up_s, sk_up_o, sk_uL_s, sk_uL_o, ne_eq, Nat.reduceEqDiff, Nat.reduceAdd, Int.reduceEq, not_false_eq_true]))
      refine AW_vret rfl rfl (hq _ ⟨⟨fun j a b c e => ?_, fun k hk => ?_⟩, ?_, fun _ => ?_, fun g => ?_⟩)
      · (try simp only [sk_uI_s, sk_uI_o, sk_up_s, sk_up_o, sk_uL_s, sk_uL_o, ne_eq, Nat.reduceEqDiff, Nat.reduceAdd, Int.reduceEq, not_false_eq_true])
        rw [sk_up_o c, sk_up_o a, sk_up_o b]
      · rw [sk_uI_o hk, sk_uI_o hk, sk_uI_o hk]
      · (try simp only [sk_uI_s, sk_uI_o, sk_up_s, sk_up_o, sk_uL_s, sk_uL_o, ne_eq, Nat.reduceEqDiff, Nat.reduceAdd, Int.reduceEq, not_false_eq_true]); rw [hfd]
      · (try simp only [sk_uI_s, sk_uI_o, sk_up_s, sk_up_o, sk_uL_s, sk_uL_o, ne_eq, Nat.reduceEqDiff, Nat.reduceAdd, Int.reduceEq, not_false_eq_true]); exact ⟨h, trivial, trivial⟩
      · revert g; (try simp only [sk_uI_s, sk_uI_o, sk_up_s, sk_up_o, sk_uL_s, sk_uL_o, ne_eq, Nat.reduceEqDiff, Nat.reduceAdd, Int.reduceEq, not_false_eq_true]); intro g; omega
  have skip : ∀ (m : Nat) (i : Int), I 59 23 ≤ i → i + m = I 59 21 → sk_end (sk_spb (I 60)) (I 59 21) i = f → AW l E (d + 5) 0 0 mX10_next 8 [some (vr 59), none, none] [vi (I 59 21), vi i] sk_G (sk_uI I 59 23 i, L, sk_J cu sp io rp tp fp) Q := by
    intro m
    induction m with
    | zero =>
      intro i h0 hi he
      refine AW_icge rfl (fun h => ?_) (fun h => ?_)
      · rw [← he, sk_end_x (by omega)] at beh
        exact beh
      · omega
    | succ m ih =>
      intro i h0 hi he
      refine AW_icge rfl (fun h => ?_) (fun h => ?_)
      · omega
      · have hbi := t2 i (by omega) (by omega)
        have adv : (I 60 i = 32 ∨ I 60 i = 10) → AW l E (d + 5) 0 0 mX10_next 39 [some (vr 59), none, none] [] sk_G (sk_uI I 59 23 i, L, sk_J cu sp io rp tp fp) Q := by
          intro hsp
          (refine AW_run 80 rfl ?_; (try simp only [sk_uI_s, sk_uI_o, sk_up_s, sk_up_o, sk_uL_s, sk_uL_o, ne_eq, Nat.reduceEqDiff, Nat.reduceAdd, Int.reduceEq, not_false_eq_true]))
          rw [sk_uI_2]
          exact ih (i + 1) (by omega) (by omega) (by rw [← he]; exact (sk_end_s (by omega) (by simp [sk_spb, hsp])).symm)
        (refine AW_run 80 rfl ?_; (try simp only [sk_uI_s, sk_uI_o, sk_up_s, sk_up_o, sk_uL_s, sk_uL_o, ne_eq, Nat.reduceEqDiff, Nat.reduceAdd, Int.reduceEq, not_false_eq_true]))
        refine AW_iald rfl rfl ⟨by omega, by omega⟩ (by decide) ?_
        (try simp only [sk_uI_s, sk_uI_o, sk_up_s, sk_up_o, sk_uL_s, sk_uL_o, ne_eq, Nat.reduceEqDiff, Nat.reduceAdd, Int.reduceEq, not_false_eq_true])
        refine AW_run 80 rfl ?_
        refine AW_iceq rfl (fun h1 => ?_) (fun h1 => ?_) (by unfold sk_in; omega)
        · exact adv (Or.inl h1)
        · (refine AW_run 80 rfl ?_; (try simp only [sk_uI_s, sk_uI_o, sk_up_s, sk_up_o, sk_uL_s, sk_uL_o, ne_eq, Nat.reduceEqDiff, Nat.reduceAdd, Int.reduceEq, not_false_eq_true]))
          refine AW_iald rfl rfl ⟨by omega, by omega⟩ (by decide) ?_
          (try simp only [sk_uI_s, sk_uI_o, sk_up_s, sk_up_o, sk_uL_s, sk_uL_o, ne_eq, Nat.reduceEqDiff, Nat.reduceAdd, Int.reduceEq, not_false_eq_true])
          refine AW_run 80 rfl ?_
          refine AW_icne rfl (fun h2 => ?_) (fun h2 => ?_) (by unfold sk_in; omega)
          · rw [← he, sk_end_x (by simp only [sk_spb, decide_eq_true_eq]; omega)] at beh
            exact beh
          · exact adv (Or.inr h2)
  refine AW_run 80 rfl ?_
  have k0 := skip (I 59 21 - I 59 23).toNat (I 59 23) (Int.le_refl _) (by omega) hfd
  rw [sk_uI_id rfl] at k0
  exact k0
end SKM2
