/-! ===== the model's reading of tokens (from is slot 22, to 23, token 24, number 25, textEnd 21; the tape is cell 60) ===== -/
/-- the word from f to e is the model's word w -/
def sk_mw (t : Int → Int) (f e w : Int) : Prop := ((sk_len.getD (1 + w.toNat) 0 : Nat) : Int) = e - f ∧ ∀ k : Int, 0 ≤ k → k < e - f → sk_chr (1 + w.toNat) k = t (f + k)
/-- the model's text is as it should be -/
def sk_tm (I : sk_SI) : Prop := 0 ≤ I 59 21 ∧ I 59 21 ≤ 1200 ∧ ∀ i, 0 ≤ i → i < I 59 21 → 0 ≤ I 60 i ∧ I 60 i ≤ 255
theorem sk_J75 {cu sp io rp tp fp : Nat} {w : Int} (h : 0 ≤ w ∧ w < 16) : sk_J cu sp io rp tp fp 75 w = some (1000 + (1 + w.toNat)) := by
  have : decide (0 ≤ w ∧ w < 16) = true := decide_eq_true h
  show (bif decide (0 ≤ w ∧ w < 16) then some (1001 + w.toNat) else none) = _
  rw [this, cond_true, show 1001 + w.toNat = 1000 + (1 + w.toNat) by omega]
section SKM1
variable {l : Launch} {E : sk_En} {d : Nat} {I : sk_SI} {L : sk_SL} {cu sp io rp tp fp : Nat} {Q : Option sk_V → List sk_Sh → sk_St → Prop} {G : List sk_Sh} {σ : sk_St}
theorem c_M_small (b : Int) (hb : sk_in b) (hT : 97 ≤ b → b ≤ 122 → Q (some (vi 1)) G σ) (hF : ¬ (97 ≤ b ∧ b ≤ 122) → Q (some (vi 0)) G σ) : AW l E d 0 0 mX10_isSmall 0 [some (vi b)] [] G σ Q := by
  refine AW_run 80 rfl ?_
  refine AW_iclt rfl (fun h => ?_) (fun h => ?_)
  · refine AW_run 80 rfl ?_
    exact AW_zret rfl rfl (Or.inl rfl) (hF (by omega))
  · refine AW_run 80 rfl ?_
    refine AW_icgt rfl (fun h2 => ?_) (fun h2 => ?_)
    · refine AW_run 80 rfl ?_
      exact AW_zret rfl rfl (Or.inl rfl) (hF (by omega))
    · refine AW_run 80 rfl ?_
      exact AW_zret rfl rfl (Or.inr rfl) (hT (by omega) (by omega))
theorem c_M_digit (b : Int) (hb : sk_in b) (hT : 48 ≤ b → b ≤ 57 → Q (some (vi 1)) G σ) (hF : ¬ (48 ≤ b ∧ b ≤ 57) → Q (some (vi 0)) G σ) : AW l E d 0 0 mX10_isDigit 0 [some (vi b)] [] G σ Q := by
  refine AW_run 80 rfl ?_
  refine AW_iclt rfl (fun h => ?_) (fun h => ?_)
  · refine AW_run 80 rfl ?_
    exact AW_zret rfl rfl (Or.inl rfl) (hF (by omega))
  · refine AW_run 80 rfl ?_
    refine AW_icgt rfl (fun h2 => ?_) (fun h2 => ?_)
    · refine AW_run 80 rfl ?_
      exact AW_zret rfl rfl (Or.inl rfl) (hF (by omega))
    · refine AW_run 80 rfl ?_
      exact AW_zret rfl rfl (Or.inr rfl) (hT (by omega) (by omega))
theorem c_M_word (ht : sk_tm I) (hf : 0 ≤ I 59 22 ∧ I 59 22 ≤ I 59 23 ∧ I 59 23 ≤ I 59 21) (h1 : ∀ w, 0 ≤ w → w < 16 → sk_mw (I 60) (I 59 22) (I 59 23) w → (∀ v, 0 ≤ v → v < w → ¬ sk_mw (I 60) (I 59 22) (I 59 23) v) → Q (some (vi w)) sk_G (I, L, sk_J cu sp io rp tp fp)) (h2 : (∀ v, 0 ≤ v → v < 16 → ¬ sk_mw (I 60) (I 59 22) (I 59 23) v) → Q (some (vi 25)) sk_G (I, L, sk_J cu sp io rp tp fp)) : AW l E (d + 4) 0 0 mX10_wordOf 0 [some (vr 59), none, none, none] [] sk_G (I, L, sk_J cu sp io rp tp fp) Q := by
  obtain ⟨t0, t1, t2⟩ := ht
  have key : ∀ (m : Nat) (w : Int), 0 ≤ w → w + m = 16 → (∀ v, 0 ≤ v → v < w → ¬ sk_mw (I 60) (I 59 22) (I 59 23) v) → AW l E (d + 4) 0 0 mX10_wordOf 8 [some (vr 59), some (vi w), none, none] [vi 16, vi w] sk_G (I, L, sk_J cu sp io rp tp fp) Q := by
    intro m
    induction m with
    | zero =>
      intro w g0 gw hv
      refine AW_icge rfl (fun h => ?_) (fun h => ?_)
      · refine AW_run 80 rfl ?_
        exact AW_iret rfl rfl (h2 (fun v a b => hv v a (by omega)))
      · omega
    | succ m ih =>
      intro w g0 gw hv
      have hx : 1 + w.toNat < 17 := by omega
      have hj : sk_J cu sp io rp tp fp 75 w = some (1000 + (1 + w.toNat)) := sk_J75 ⟨g0, by omega⟩
      have hln := sk_len_b (1 + w.toNat) hx
      have more : ¬ sk_mw (I 60) (I 59 22) (I 59 23) w → ∀ k : Int, sk_in k → AW l E (d + 4) 0 0 mX10_wordOf 50 [some (vr 59), some (vi w), some (vi 0), some (vi k)] [vi (I 59 23 - I 59 22), vi k] sk_G (I, L, sk_J cu sp io rp tp fp) Q := by
        intro hn k hk
        have nx := ih (w + 1) (by omega) (by omega) (fun v a b => by
          by_cases e : v = w
          · rw [e]; exact hn
          · exact hv v a (by omega))
        refine AW_icge rfl (fun h => ?_) (fun h => ?_)
        · refine AW_run 80 rfl ?_
          first | refine AW_e1 rfl ?_ | refine AW_e0 rfl ?_ | refine AW_n1 rfl ?_ | refine AW_n0 rfl ?_
          refine AW_run 80 rfl ?_
          exact AW_lk nx ⟨rfl, rfl, trivial⟩
        · refine AW_run 80 rfl ?_
          first | refine AW_e1 rfl ?_ | refine AW_e0 rfl ?_ | refine AW_n1 rfl ?_ | refine AW_n0 rfl ?_
          refine AW_run 80 rfl ?_
          first | refine AW_e1 rfl ?_ | refine AW_e0 rfl ?_ | refine AW_n1 rfl ?_ | refine AW_n0 rfl ?_
          refine AW_run 80 rfl ?_
          exact AW_lk nx ⟨rfl, rfl, trivial⟩
      have yes : ((sk_len.getD (1 + w.toNat) 0 : Nat) : Int) = I 59 23 - I 59 22 → ∀ (q : Nat) (k : Int), 0 ≤ k → k + q = I 59 23 - I 59 22 → (∀ j, 0 ≤ j → j < k → sk_chr (1 + w.toNat) j = I 60 (I 59 22 + j)) → AW l E (d + 4) 0 0 mX10_wordOf 50 [some (vr 59), some (vi w), some (vi 1), some (vi k)] [vi (I 59 23 - I 59 22), vi k] sk_G (I, L, sk_J cu sp io rp tp fp) Q := by
        intro hle q
        induction q with
        | zero =>
          intro k k0 kq ka
          refine AW_icge rfl (fun h => ?_) (fun h => ?_)
          · refine AW_run 80 rfl ?_
            first | refine AW_e1 rfl ?_ | refine AW_e0 rfl ?_ | refine AW_n1 rfl ?_ | refine AW_n0 rfl ?_
            refine AW_run 80 rfl ?_
            exact AW_iret rfl rfl (h1 w g0 (by omega) ⟨hle, fun j a b => ka j a (by omega)⟩ hv)
          · omega
        | succ q iq =>
          intro k k0 kq ka
          have hc := sk_chr_b (1 + w.toNat) hx k.toNat (by omega)
          have hc : 0 ≤ sk_chr (1 + w.toNat) k ∧ sk_chr (1 + w.toNat) k < 128 := hc
          have hb := t2 (I 59 22 + k) (by omega) (by omega)
          refine AW_icge rfl (fun h => ?_) (fun h => ?_)
          · omega
          · refine AW_run 80 rfl ?_
            first | refine AW_e1 rfl ?_ | refine AW_e0 rfl ?_ | refine AW_n1 rfl ?_ | refine AW_n0 rfl ?_
            refine AW_run 80 rfl ?_
            refine AW_aald rfl rfl ⟨by omega, by omega⟩ (by decide) hj ?_
            refine AW_run 80 rfl ?_
            refine AW_callX (x := 1 + w.toNat) (M' := mJ0_charAt_5068e) rfl kkX10_194 lcJ0_charAt_5068e rfl hx rfl rfl (Nat.le_refl 2) (Nat.le_refl _) ?_
            refine c_S_charAt (d := d) k hx ⟨k0, by omega⟩ ?_
            refine AW_run 80 rfl ?_
            refine AW_iald rfl rfl ⟨by omega, by omega⟩ (by decide) ?_
            refine AW_icne rfl (fun g => ?_) (fun g => ?_) (by unfold sk_in; omega) (by unfold sk_in; omega)
            · refine AW_run 80 rfl ?_
              exact more (fun z => g (z.2 k k0 (by omega))) (k + 1) (by unfold sk_in; omega)
            · refine AW_run 80 rfl ?_
              exact iq (k + 1) (by omega) (by omega) (fun j a b => by
                by_cases e : j = k
                · rw [e]; exact g
                · exact ka j a (by omega))
      refine AW_icge rfl (fun h => ?_) (fun h => ?_)
      · omega
      · refine AW_run 80 rfl ?_
        refine AW_aald rfl rfl ⟨by omega, by omega⟩ (by decide) hj ?_
        refine AW_callX (x := 1 + w.toNat) (M' := mJ0_length_8abf5) rfl kkX10_184 lcJ0_length_8abf5 rfl hx rfl rfl (Nat.le_refl 1) (Nat.le_refl _) ?_
        refine c_S_length (d := d + 2) hx ?_
        refine AW_run 80 rfl ?_
        refine AW_icne rfl (fun g => ?_) (fun g => ?_) (by unfold sk_in; omega) (by unfold sk_in; omega)
        · refine AW_run 80 rfl ?_
          exact more (fun z => g z.1) 0 sk_in0
        · refine AW_run 80 rfl ?_
          exact yes g (I 59 23 - I 59 22).toNat 0 (Int.le_refl _) (by omega) (fun j a b => by omega)
  refine AW_run 80 rfl ?_
  exact key 16 0 (Int.le_refl _) (by omega) (fun v a b => by omega)
end SKM1
