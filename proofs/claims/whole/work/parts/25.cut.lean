/-! ===== a text cut into tokens ===== -/
def sk_iswb (t : Int → Int) (f e w : Int) : Bool := decide (sk_chr 0 (w * 6) = sk_pad t f e 0) && (decide (sk_chr 0 (w * 6 + 1) = sk_pad t f e 1) && (decide (sk_chr 0 (w * 6 + 2) = sk_pad t f e 2) && (decide (sk_chr 0 (w * 6 + 3) = sk_pad t f e 3) && (decide (sk_chr 0 (w * 6 + 4) = sk_pad t f e 4) && decide (sk_chr 0 (w * 6 + 5) = sk_pad t f e 5)))))
theorem sk_isw_iff (t : Int → Int) (f e w : Int) : sk_isw t f e w ↔ sk_iswb t f e w = true := by
  simp only [sk_iswb, Bool.and_eq_true, decide_eq_true_eq]
  constructor
  · intro h
    refine ⟨?_, h 1 (by omega) (by omega), h 2 (by omega) (by omega), h 3 (by omega) (by omega), h 4 (by omega) (by omega), h 5 (by omega) (by omega)⟩
    have := h 0 (by omega) (by omega)
    rwa [Int.add_zero] at this
  · rintro ⟨h0, h1, h2, h3, h4, h5⟩ i g1 g2
    rcases (show i = 0 ∨ i = 1 ∨ i = 2 ∨ i = 3 ∨ i = 4 ∨ i = 5 by omega) with rfl | rfl | rfl | rfl | rfl | rfl
    · rw [Int.add_zero]; exact h0
    · exact h1
    · exact h2
    · exact h3
    · exact h4
    · exact h5
def sk_fw (t : Int → Int) (f e : Int) : Nat → Int → Int
  | 0, _ => 19
  | m + 1, w => if sk_iswb t f e w = true then w else sk_fw t f e m (w + 1)
theorem sk_fw_1 (t : Int → Int) (f e w : Int) (hw : sk_isw t f e w) : ∀ (m : Nat) (i : Int), i ≤ w → w < i + m → (∀ v, i ≤ v → v < w → ¬ sk_isw t f e v) → sk_fw t f e m i = w
  | 0, i, h1, h2, _ => by omega
  | m + 1, i, h1, h2, h3 => by
    unfold sk_fw
    by_cases hi : i = w
    · rw [if_pos (by rw [hi]; exact (sk_isw_iff t f e w).mp hw)]; exact hi
    · rw [if_neg (fun z => h3 i (Int.le_refl _) (by omega) ((sk_isw_iff t f e i).mpr z))]
      exact sk_fw_1 t f e w hw m (i + 1) (by omega) (by omega) (fun v g1 g2 => h3 v (by omega) g2)
theorem sk_fw_0 (t : Int → Int) (f e : Int) : ∀ (m : Nat) (i : Int), (∀ v, i ≤ v → v < i + m → ¬ sk_isw t f e v) → sk_fw t f e m i = 19
  | 0, _, _ => rfl
  | m + 1, i, h => by
    unfold sk_fw
    rw [if_neg (fun z => h i (Int.le_refl _) (by omega) ((sk_isw_iff t f e i).mpr z))]
    exact sk_fw_0 t f e m (i + 1) (fun v g1 g2 => h v (by omega) (by omega))
/-- the token of a word, of a number -/
def sk_wt (t : Int → Int) (f e : Int) : Int := if 6 < e - f then 19 else sk_fw t f e 16 0
def sk_nt (t : Int → Int) (f e : Int) : Int := if 3 < e - f then 19 else 100 + sk_nm t f (e - f).toNat
/-- where the token at a place ends, and which it is -/
def sk_te (t : Int → Int) (n p : Int) : Int := if sk_ltr t p = true then sk_end (sk_ltr t) n p else if sk_dgt t p = true then sk_end (sk_dgt t) n p else p + 1
def sk_tk (t : Int → Int) (n p : Int) : Int := if sk_ltr t p = true then sk_wt t p (sk_end (sk_ltr t) n p) else if sk_dgt t p = true then sk_nt t p (sk_end (sk_dgt t) n p) else sk_sgn (t p)
def sk_spb (t : Int → Int) : Int → Bool := fun i => decide (t i = 32 ∨ t i = 10)
def sk_clp : Nat → Int → sk_SI → sk_SI
  | 0, _, I => I
  | m + 1, p, I => if p < I 1 1 then (if sk_spb (I 2) p = true then sk_clp m (p + 1) I else sk_clp m (sk_te (I 2) (I 1 1) p) (sk_ta I (sk_tk (I 2) (I 1 1) p) p)) else I
/-- what Tokens.cut leaves -/
def sk_cut (I : sk_SI) : sk_SI := sk_ta (sk_clp 1300 0 (sk_uI I 30 2 0)) 20 (I 1 1)
theorem sk_te_b (t : Int → Int) {n p : Int} (h : p < n) : p < sk_te t n p ∧ sk_te t n p ≤ n := by
  unfold sk_te
  split
  · rename_i hc
    rw [sk_end_s h hc]
    have := sk_end_b (sk_ltr t) (n := n) (i := p + 1) (by omega)
    omega
  · split
    · rename_i hc
      rw [sk_end_s h hc]
      have := sk_end_b (sk_dgt t) (n := n) (i := p + 1) (by omega)
      omega
    · omega
theorem sk_ta_o (I : sk_SI) (a b : Int) (k : Nat) (h1 : k ≠ 30) (h2 : k ≠ 31) (h3 : k ≠ 32) : sk_ta I a b k = I k := by
  unfold sk_ta
  rw [sk_uI_o h1, sk_uI_o h3, sk_uI_o h2]
theorem sk_ta_n (I : sk_SI) (a b : Int) : sk_ta I a b 30 2 = I 30 2 + 1 := by
  unfold sk_ta
  rw [sk_uI_s, sk_up_s]
section SKT2
variable {l : Launch} {E : sk_En} {d : Nat} {I : sk_SI} {L : sk_SL} {cu sp io rp tp fp : Nat} {Q : Option sk_V → List sk_Sh → sk_St → Prop}
theorem c_T_wordF (f e : Int) (ht : sk_tp I) (hf : 0 ≤ f ∧ f ≤ e ∧ e ≤ I 1 1) (hq : Q (some (vi (sk_wt (I 2) f e))) sk_G (I, L, sk_J cu sp io rp tp fp)) : AW l E (d + 5) 0 0 mX8_wordOf 0 [some (vr 1), some (vi f), some (vi e), none] [] sk_G (I, L, sk_J cu sp io rp tp fp) Q := by
  unfold sk_wt at hq
  refine c_T_word f e ht hf (fun h => ?_) (fun h w h0 h1 h2 h3 => ?_) (fun h h2 => ?_)
  · rwa [if_pos h] at hq
  · rwa [if_neg (by omega), sk_fw_1 _ f e w h2 16 0 h0 (by omega) h3] at hq
  · rwa [if_neg (by omega), sk_fw_0 _ f e 16 0 (fun v g1 g2 => h2 v g1 (by omega))] at hq
theorem c_T_numF (f e : Int) (ht : sk_tp I) (hf : 0 ≤ f ∧ f ≤ e ∧ e ≤ I 1 1) (hq : Q (some (vi (sk_nt (I 2) f e))) sk_G (I, L, sk_J cu sp io rp tp fp)) : AW l E (d + 1) 0 0 mX8_numberOf 0 [some (vr 1), some (vi f), some (vi e), none, none] [] sk_G (I, L, sk_J cu sp io rp tp fp) Q := by
  unfold sk_nt at hq
  refine c_T_num f e ht hf (fun h => ?_) (fun h => ?_)
  · rwa [if_pos h] at hq
  · rwa [if_neg (by omega)] at hq
theorem c_T_cut (ht : sk_tp I) (hq : Q none sk_G (sk_cut I, L, sk_J cu sp io rp tp fp)) : AW l E (d + 6) 0 0 mX8_cut 0 [some (vr 30), some (vr 1), none, none, none, none] [] sk_G (I, L, sk_J cu sp io rp tp fp) Q := by
  obtain ⟨t0, t1, t2⟩ := ht
  have key : ∀ (m : Nat) (p i : Int) (I' : sk_SI), I' 1 1 = I 1 1 → I' 2 = I 2 → 0 ≤ i → i ≤ p → p ≤ I 1 1 → I 1 1 - p ≤ m → 0 ≤ I' 30 2 → I' 30 2 ≤ p → sk_cut I = sk_ta (sk_clp m p I') 20 (I 1 1) → AW l E (d + 6) 0 0 mX8_cut 13 [some (vr 30), some (vr 1), some (vi p), some (vi i), none, none] [vi 1200, vi i] sk_G (I', L, sk_J cu sp io rp tp fp) Q := by
    intro m
    have fin : ∀ (p i : Int) (I' : sk_SI) (ls : List (Option sk_V)), I' 1 1 = I 1 1 → 0 ≤ I' 30 2 → I' 30 2 ≤ 1200 → sk_cut I = sk_ta I' 20 (I 1 1) → ls = [some (vr 30), some (vr 1), some (vi p), some (vi i), none, none] → AW l E (d + 6) 0 0 mX8_cut 129 ls [] sk_G (I', L, sk_J cu sp io rp tp fp) Q := by
      intro p i I' ls e1 g1 g2 g3 hls
      subst hls
      refine AW_run 80 rfl ?_
      refine AW_cV (M' := mX8_add) rfl kkX8_40 lcX8_add rfl rfl rfl rfl rfl rfl (Nat.le_refl _) ?_
      refine c_T_add 20 _ (by omega) ?_
      rw [e1]
      rw [g3] at hq
      exact AW_vret rfl rfl hq
    induction m with
    | zero =>
      intro p i I' e1 e2 h0 h1 h2 h3 h4 h5 h6
      refine AW_icge rfl (fun h => ?_) (fun h => ?_)
      · exact fin p i I' _ e1 h4 (by omega) h6 rfl
      · refine AW_run 80 rfl ?_
        rw [e1]
        refine AW_icge rfl (fun h7 => ?_) (fun h7 => ?_)
        · exact fin p i I' _ e1 h4 (by omega) h6 rfl
        · omega
    | succ m ih =>
      intro p i I' e1 e2 h0 h1 h2 h3 h4 h5 h6
      unfold sk_clp at h6
      rw [e1, e2] at h6
      refine AW_icge rfl (fun h => ?_) (fun h => ?_)
      · rw [if_neg (by omega)] at h6
        exact fin p i I' _ e1 h4 (by omega) h6 rfl
      · refine AW_run 80 rfl ?_
        refine AW_icge rfl (fun h7 => ?_) (fun h7 => ?_) (by unfold sk_in; omega) (by unfold sk_in; omega)
        · rw [if_neg (by omega)] at h6
          exact fin p i I' _ e1 h4 (by omega) h6 rfl
        · rw [if_pos (by omega)] at h6
          have tp' : sk_tp I' := ⟨by omega, by omega, fun j g1 g2 => by rw [e2]; exact t2 j g1 (by omega)⟩
          have hb := t2 p (by omega) (by omega)
          have hbk := sk_te_b (I 2) (n := I 1 1) (p := p) (by omega)
          refine AW_run 80 rfl ?_
          refine AW_cV (M' := mX4_at) rfl kkX8_25 lcX4_at rfl rfl rfl rfl rfl rfl (Nat.le_refl _) ?_
          refine c_tape_at p tp' (by omega) ?_
          rw [e2]
          refine AW_run 80 rfl ?_
          refine AW_cS (M' := mX8_isLetter) rfl kkX8_28 lcX8_isLetter rfl rfl rfl (Nat.le_refl _) ?_
          refine c_T_letter _ (by unfold sk_in; omega) (fun g1 g2 => ?_) (fun g => ?_)
          · have hl : sk_ltr (I 2) p = true := by simp [sk_ltr, g1, g2]
            have hs : sk_spb (I 2) p = false := by simp only [sk_spb, decide_eq_false_iff_not]; omega
            rw [if_neg (by rw [hs]; decide)] at h6
            have ete : sk_te (I 2) (I 1 1) p = sk_end (sk_ltr (I 2)) (I 1 1) p := by rw [sk_te, if_pos hl]
            have etk : sk_tk (I 2) (I 1 1) p = sk_wt (I 2) p (sk_end (sk_ltr (I 2)) (I 1 1) p) := by rw [sk_tk, if_pos hl]
            rw [ete] at hbk
            rw [ete, etk] at h6
            refine AW_run 80 rfl ?_
            first | refine AW_e1 rfl ?_ | refine AW_e0 rfl ?_ | refine AW_n1 rfl ?_ | refine AW_n0 rfl ?_
            refine AW_run 80 rfl ?_
            refine AW_cS (M' := mX8_endOfWord) rfl kkX8_32 lcX8_endOfWord rfl rfl rfl (Nat.le_refl _) ?_
            refine c_T_eow (d := d + 4) p tp' (by omega) ?_
            rw [e1, e2]
            refine AW_run 80 rfl ?_
            refine AW_cS (M' := mX8_wordOf) rfl kkX8_36 lcX8_wordOf rfl rfl rfl (Nat.le_refl _) ?_
            refine c_T_wordF (d := d) p _ tp' (by omega) ?_
            rw [e2]
            refine AW_run 80 rfl ?_
            refine AW_cV (M' := mX8_add) rfl kkX8_40 lcX8_add rfl rfl rfl rfl rfl rfl (Nat.le_refl _) ?_
            refine c_T_add _ _ (by omega) ?_
            refine AW_run 80 rfl ?_
            refine AW_lk (ih (sk_end (sk_ltr (I 2)) (I 1 1) p) (i + 1) _ (by rw [sk_ta_o _ _ _ 1 (by decide) (by decide) (by decide)]; exact e1) (by rw [sk_ta_o _ _ _ 2 (by decide) (by decide) (by decide)]; exact e2) (by omega) (by omega) (by omega) (by omega) (by rw [sk_ta_n]; omega) (by rw [sk_ta_n]; omega) h6) ⟨rfl, rfl, rfl, rfl, trivial⟩
          · have hl : ¬ sk_ltr (I 2) p = true := by simp only [sk_ltr, decide_eq_true_eq]; exact g
            refine AW_run 80 rfl ?_
            first | refine AW_e1 rfl ?_ | refine AW_e0 rfl ?_ | refine AW_n1 rfl ?_ | refine AW_n0 rfl ?_
            refine AW_run 80 rfl ?_
            refine AW_cS (M' := mX8_isDigit) rfl kkX8_44 lcX8_isDigit rfl rfl rfl (Nat.le_refl _) ?_
            refine c_T_digit _ (by unfold sk_in; omega) (fun g1 g2 => ?_) (fun g5 => ?_)
            · have hdg : sk_dgt (I 2) p = true := by simp [sk_dgt, g1, g2]
              have hs : sk_spb (I 2) p = false := by simp only [sk_spb, decide_eq_false_iff_not]; omega
              rw [if_neg (by rw [hs]; decide)] at h6
              have ete : sk_te (I 2) (I 1 1) p = sk_end (sk_dgt (I 2)) (I 1 1) p := by rw [sk_te, if_neg hl, if_pos hdg]
              have etk : sk_tk (I 2) (I 1 1) p = sk_nt (I 2) p (sk_end (sk_dgt (I 2)) (I 1 1) p) := by rw [sk_tk, if_neg hl, if_pos hdg]
              rw [ete] at hbk
              rw [ete, etk] at h6
              refine AW_run 80 rfl ?_
              first | refine AW_e1 rfl ?_ | refine AW_e0 rfl ?_ | refine AW_n1 rfl ?_ | refine AW_n0 rfl ?_
              refine AW_run 80 rfl ?_
              refine AW_cS (M' := mX8_endOfNumber) rfl kkX8_47 lcX8_endOfNumber rfl rfl rfl (Nat.le_refl _) ?_
              refine c_T_eon (d := d + 4) p tp' (by omega) ?_
              rw [e1, e2]
              refine AW_run 80 rfl ?_
              refine AW_cS (M' := mX8_numberOf) rfl kkX8_50 lcX8_numberOf rfl rfl rfl (Nat.le_refl _) ?_
              refine c_T_numF (d := d + 4) p _ tp' (by omega) ?_
              rw [e2]
              refine AW_run 80 rfl ?_
              refine AW_cV (M' := mX8_add) rfl kkX8_40 lcX8_add rfl rfl rfl rfl rfl rfl (Nat.le_refl _) ?_
              refine c_T_add _ _ (by omega) ?_
              refine AW_run 80 rfl ?_
              refine AW_lk (ih (sk_end (sk_dgt (I 2)) (I 1 1) p) (i + 1) _ (by rw [sk_ta_o _ _ _ 1 (by decide) (by decide) (by decide)]; exact e1) (by rw [sk_ta_o _ _ _ 2 (by decide) (by decide) (by decide)]; exact e2) (by omega) (by omega) (by omega) (by omega) (by rw [sk_ta_n]; omega) (by rw [sk_ta_n]; omega) h6) ⟨rfl, rfl, rfl, rfl, trivial⟩
            · have hdg : ¬ sk_dgt (I 2) p = true := by simp only [sk_dgt, decide_eq_true_eq]; exact g5
              have ete : sk_te (I 2) (I 1 1) p = p + 1 := by rw [sk_te, if_neg hl, if_neg hdg]
              have etk : sk_tk (I 2) (I 1 1) p = sk_sgn (I 2 p) := by rw [sk_tk, if_neg hl, if_neg hdg]
              refine AW_run 80 rfl ?_
              first | refine AW_e1 rfl ?_ | refine AW_e0 rfl ?_ | refine AW_n1 rfl ?_ | refine AW_n0 rfl ?_
              refine AW_run 80 rfl ?_
              refine AW_iceq rfl (fun g6 => ?_) (fun g6 => ?_) (by unfold sk_in; omega)
              · rw [if_pos (by simp only [sk_spb, decide_eq_true_eq]; omega)] at h6
                refine AW_run 80 rfl ?_
                refine AW_lk (ih (p + 1) (i + 1) I' e1 e2 (by omega) (by omega) (by omega) (by omega) h4 (by omega) h6) ⟨rfl, rfl, rfl, rfl, trivial⟩
              · refine AW_run 80 rfl ?_
                refine AW_iceq rfl (fun g7 => ?_) (fun g7 => ?_) (by unfold sk_in; omega)
                · rw [if_pos (by simp only [sk_spb, decide_eq_true_eq]; omega)] at h6
                  refine AW_run 80 rfl ?_
                  refine AW_lk (ih (p + 1) (i + 1) I' e1 e2 (by omega) (by omega) (by omega) (by omega) h4 (by omega) h6) ⟨rfl, rfl, rfl, rfl, trivial⟩
                · rw [if_neg (by simp only [sk_spb, decide_eq_true_eq]; omega), ete, etk] at h6
                  refine AW_run 80 rfl ?_
                  refine AW_cS (M' := mX8_signOf) rfl kkX8_53 lcX8_signOf rfl rfl rfl (Nat.le_refl _) ?_
                  refine c_T_sign _ (by unfold sk_in; omega) ?_
                  refine AW_run 80 rfl ?_
                  refine AW_cV (M' := mX8_add) rfl kkX8_40 lcX8_add rfl rfl rfl rfl rfl rfl (Nat.le_refl _) ?_
                  refine c_T_add _ _ (by omega) ?_
                  refine AW_run 80 rfl ?_
                  refine AW_lk (ih (p + 1) (i + 1) _ (by rw [sk_ta_o _ _ _ 1 (by decide) (by decide) (by decide)]; exact e1) (by rw [sk_ta_o _ _ _ 2 (by decide) (by decide) (by decide)]; exact e2) (by omega) (by omega) (by omega) (by omega) (by rw [sk_ta_n]; omega) (by rw [sk_ta_n]; omega) h6) ⟨rfl, rfl, rfl, rfl, trivial⟩
  refine AW_run 80 rfl ?_
  exact key 1300 0 0 (sk_uI I 30 2 0) (by rw [sk_uI_o (by decide)]) (sk_uI_o (by decide)) (Int.le_refl _) (Int.le_refl _) t0 (by omega) (by rw [sk_uI_s, sk_up_s]; omega) (by rw [sk_uI_s, sk_up_s]; omega) rfl
end SKT2
