/-! ===== the tokens of a text, one behind the other ===== -/
/-- where the i-th token is sought, where it begins -/
def sk_pos (t : Int → Int) (n : Int) : Nat → Int
  | 0 => 0
  | i + 1 => if sk_end (sk_spb t) n (sk_pos t n i) < n then sk_te t n (sk_end (sk_spb t) n (sk_pos t n i)) else n
def sk_fr (t : Int → Int) (n : Int) (i : Nat) : Int := sk_end (sk_spb t) n (sk_pos t n i)
theorem sk_pos_b (t : Int → Int) {n : Int} (hn : 0 ≤ n) : ∀ i : Nat, 0 ≤ sk_pos t n i ∧ sk_pos t n i ≤ n
  | 0 => ⟨Int.le_refl _, hn⟩
  | i + 1 => by
    have h := sk_pos_b t hn i
    have hb := sk_end_b (sk_spb t) h.2
    unfold sk_pos
    split
    · rename_i hc
      have := sk_te_b t hc
      omega
    · omega
theorem sk_fr_b (t : Int → Int) {n : Int} (hn : 0 ≤ n) (i : Nat) : sk_pos t n i ≤ sk_fr t n i ∧ sk_fr t n i ≤ n := sk_end_b (sk_spb t) (sk_pos_b t hn i).2
/-- the first c tokens lie in their rows -/
def sk_rows (t : Int → Int) (n : Int) (I : sk_SI) (c : Nat) : Prop := ∀ i : Nat, i < c → sk_fr t n i < n ∧ I 31 i = sk_tk t n (sk_fr t n i) ∧ I 32 i = sk_fr t n i
theorem sk_clp_spec (t : Int → Int) (n : Int) : ∀ (m : Nat) (p : Int) (I : sk_SI) (c : Nat), I 1 1 = n → I 2 = t → 0 ≤ p → p ≤ n → n - p ≤ m → I 30 2 = c → (c : Int) ≤ p → sk_end (sk_spb t) n p = sk_fr t n c → sk_rows t n I c →
    ∃ N : Nat, sk_clp m p I 30 2 = N ∧ (N : Int) ≤ n ∧ sk_fr t n N = n ∧ sk_rows t n (sk_clp m p I) N ∧ (∀ k, k ≠ 30 → k ≠ 31 → k ≠ 32 → sk_clp m p I k = I k) ∧ ∀ j, j ≠ 2 → sk_clp m p I 30 j = I 30 j
  | 0, p, I, c, e1, e2, h0, h1, h2, hc, hcp, hf, hr => by
    have ep : p = n := by omega
    subst ep
    refine ⟨c, hc, hcp, ?_, hr, fun k _ _ _ => rfl, fun j _ => rfl⟩
    rw [← hf, sk_end_x (by omega)]
  | m + 1, p, I, c, e1, e2, h0, h1, h2, hc, hcp, hf, hr => by
    unfold sk_clp
    rw [e1, e2]
    by_cases hlt : p < n
    · rw [if_pos hlt]
      by_cases hs : sk_spb t p = true
      · rw [if_pos hs]
        exact sk_clp_spec t n m (p + 1) I c e1 e2 (by omega) (by omega) (by omega) hc (by omega) (by rw [← hf]; exact (sk_end_s hlt hs).symm) hr
      · rw [if_neg hs]
        have hfc : sk_fr t n c = p := by rw [← hf, sk_end_x (by intro z; exact hs z.2)]
        have hb := sk_te_b t hlt
        have hpos : sk_pos t n (c + 1) = sk_te t n p := by
          show (if sk_fr t n c < n then sk_te t n (sk_fr t n c) else n) = _
          rw [hfc, if_pos hlt]
        have o31 : sk_ta I (sk_tk t n p) p 31 = sk_up (I 31) c (sk_tk t n p) := by
          unfold sk_ta
          rw [sk_uI_o (by decide), sk_uI_o (by decide), sk_uI_s, hc]
        have o32 : sk_ta I (sk_tk t n p) p 32 = sk_up (I 32) c p := by
          unfold sk_ta
          rw [sk_uI_o (by decide), sk_uI_s, sk_uI_o (by decide), hc]
        have hrow : sk_rows t n (sk_ta I (sk_tk t n p) p) (c + 1) := by
          intro i hi
          rw [o31, o32]
          by_cases hic : i = c
          · subst hic
            rw [sk_up_s, sk_up_s, hfc]
            exact ⟨hlt, rfl, rfl⟩
          · have hne : (i : Int) ≠ (c : Int) := by omega
            rw [sk_up_o hne, sk_up_o hne]
            exact hr i (by omega)
        obtain ⟨N, a1, a2, a3, a4, a5, a6⟩ := sk_clp_spec t n m (sk_te t n p) (sk_ta I (sk_tk t n p) p) (c + 1) (by rw [sk_ta_o _ _ _ 1 (by decide) (by decide) (by decide)]; exact e1) (by rw [sk_ta_o _ _ _ 2 (by decide) (by decide) (by decide)]; exact e2) (by omega) (by omega) (by omega) (by rw [sk_ta_n, hc]; omega) (by omega) (by unfold sk_fr; rw [hpos]) hrow
        refine ⟨N, a1, a2, a3, a4, fun k g1 g2 g3 => by rw [a5 k g1 g2 g3, sk_ta_o _ _ _ k g1 g2 g3], fun j hj => ?_⟩
        rw [a6 j hj]
        unfold sk_ta
        rw [sk_uI_s, sk_up_o hj, sk_uI_o (by decide), sk_uI_o (by decide)]
    · rw [if_neg hlt]
      have ep : p = n := by omega
      subst ep
      refine ⟨c, hc, hcp, ?_, hr, fun k _ _ _ => rfl, fun j _ => rfl⟩
      rw [← hf, sk_end_x (by omega)]
/-- what Tokens.cut leaves: N tokens, and the end behind them -/
theorem sk_cut_spec (I : sk_SI) (h : sk_tp I) : ∃ N : Nat, sk_cut I 30 2 = N + 1 ∧ (N : Int) ≤ I 1 1 ∧ sk_fr (I 2) (I 1 1) N = I 1 1 ∧ sk_rows (I 2) (I 1 1) (sk_cut I) N ∧ sk_cut I 31 N = 20 ∧ sk_cut I 32 N = I 1 1 ∧ (∀ k, k ≠ 30 → k ≠ 31 → k ≠ 32 → sk_cut I k = I k) ∧ ∀ j, j ≠ 2 → sk_cut I 30 j = I 30 j := by
  obtain ⟨t0, t1, t2⟩ := h
  obtain ⟨N, a1, a2, a3, a4, a5, a6⟩ := sk_clp_spec (I 2) (I 1 1) 1300 0 (sk_uI I 30 2 0) 0 (by rw [sk_uI_o (by decide)]) (sk_uI_o (by decide)) (Int.le_refl _) t0 (by omega) (by rw [sk_uI_s, sk_up_s]; rfl) (Int.le_refl _) rfl (fun i hi => by omega)
  have hc : sk_cut I = sk_ta (sk_clp 1300 0 (sk_uI I 30 2 0)) 20 (I 1 1) := rfl
  generalize sk_clp 1300 0 (sk_uI I 30 2 0) = S at *
  rw [hc]
  have o31 : sk_ta S 20 (I 1 1) 31 = sk_up (S 31) N 20 := by
    unfold sk_ta
    rw [sk_uI_o (by decide), sk_uI_o (by decide), sk_uI_s, a1]
  have o32 : sk_ta S 20 (I 1 1) 32 = sk_up (S 32) N (I 1 1) := by
    unfold sk_ta
    rw [sk_uI_o (by decide), sk_uI_s, sk_uI_o (by decide), a1]
  refine ⟨N, by rw [sk_ta_n, a1], a2, a3, fun i hi => ?_, by rw [o31, sk_up_s], by rw [o32, sk_up_s], fun k g1 g2 g3 => by rw [sk_ta_o _ _ _ k g1 g2 g3, a5 k g1 g2 g3, sk_uI_o g1], fun j hj => ?_⟩
  · have hne : (i : Int) ≠ (N : Int) := by omega
    rw [o31, o32, sk_up_o hne, sk_up_o hne]
    exact a4 i hi
  · unfold sk_ta
    rw [sk_uI_s, sk_up_o hj, sk_uI_o (by decide), sk_uI_o (by decide), a6 j hj, sk_uI_s, sk_up_o hj]
/-- the model stands at its i-th token -/
def sk_mat (t : Int → Int) (n : Int) (I : sk_SI) (i : Nat) : Prop := I 59 22 = sk_fr t n i ∧ I 59 23 = sk_pos t n (i + 1) ∧ I 59 24 = (if sk_fr t n i < n then sk_mtk t n (sk_fr t n i) else 24) ∧ (sk_fr t n i < n → 100 ≤ sk_tk t n (sk_fr t n i) → I 59 25 = sk_tk t n (sk_fr t n i) - 100)
theorem sk_mat_next {t : Int → Int} {n : Int} {I I' : sk_SI} {i : Nat} (hn : 0 ≤ n) (e1 : I 60 = t) (e2 : I 59 21 = n) (hto : I 59 23 = sk_pos t n i) (h : sk_nxs I I') : sk_mat t n I' i := by
  obtain ⟨-, h1, h2, h3⟩ := h
  rw [e1, e2, hto] at h1
  rw [e1, e2] at h3
  rw [e2] at h2
  have hfr : I' 59 22 = sk_fr t n i := h1
  have hb := sk_fr_b t hn i
  have hp := sk_pos_b t hn i
  rw [hfr] at h2 h3
  have hpos : sk_pos t n (i + 1) = if sk_fr t n i < n then sk_te t n (sk_fr t n i) else n := rfl
  by_cases hlt : sk_fr t n i < n
  · obtain ⟨g1, g2, g3⟩ := h3 hlt
    refine ⟨hfr, by rw [hpos, if_pos hlt]; exact g1, by rw [if_pos hlt]; exact g2, fun _ hk => ?_⟩
    rw [g3]
    exact (sk_tk_rel t n (sk_fr t n i) (I 59 25) ⟨by omega, hlt⟩).2.2.2.2 hk
  · obtain ⟨g1, g2, g3⟩ := h2 (by omega)
    exact ⟨hfr, by rw [hpos, if_neg hlt]; exact g1, by rw [if_neg hlt]; exact g2, fun z => absurd z hlt⟩
