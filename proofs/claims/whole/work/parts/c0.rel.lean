/-! ===== the relation between both halves ===== -/
def sr_tape (I : sk_SI) : Prop := I 2 = I 60 ∧ I 1 1 = I 59 2 ∧ sk_tp I
def sr_rule (I : sk_SI) : Prop := I 61 = I 8 ∧ sk_ru I
def sr_bits (I : sk_SI) : Prop := I 62 = I 4 ∧ I 59 5 = I 3 1 ∧ (0 ≤ I 3 1 ∧ I 3 1 ≤ 400) ∧ ∀ i, 0 ≤ i → i < I 3 1 → 0 ≤ I 4 i ∧ I 4 i ≤ 1
def sr_rows (cu : Nat) (I : sk_SI) : Prop := (∀ m, 0 ≤ m → m < I cu 9 → I 64 m = I (cu + 1) m ∧ I 65 m = I (cu + 2) m) ∧ ∀ s, 0 ≤ s → s < I cu 10 → I 67 s = I (cu + 3) s ∧ I 68 s = I (cu + 4) s ∧ I 69 s = I (cu + 5) s ∧ I 70 s = I (cu + 6) s ∧ I 71 s = I (cu + 7) s ∧ I 72 s = I (cu + 8) s ∧ I 73 s = I (cu + 9) s
def sr_prog (cu : Nat) (I : sk_SI) : Prop := (I 59 7 = 0 ∧ I cu 9 = 0 ∧ I cu 10 = 0 ∧ I 63 0 = 0 ∧ I 66 0 = 0) ∨ (I 59 7 = 1 ∧ (∃ D, sk_pv cu D I) ∧ sr_rows cu I ∧ I 63 0 = I cu 9 ∧ I 66 0 = I cu 10 ∧ I 74 0 = I cu 11)
def sr_run (I : sk_SI) : Prop := I 34 8 = I 59 50 ∧ (I 34 8 = 0 ∨ I 34 8 = 1) ∧ (I 34 8 = 1 → I 59 51 = I 44 0 ∧ I 59 48 = I 44 1 ∧ I 59 52 = I 44 2 ∧ I 59 53 = I 44 3 ∧ I 59 54 = I 44 4 ∧ I 59 55 = I 44 5 ∧ I 59 58 = I 44 6 ∧ I 59 56 = I 44 7)
def sr_note (I : sk_SI) : Prop := I 59 58 = I 5 1 ∧ (0 ≤ I 5 1 ∧ I 5 1 ≤ 3000) ∧ ∀ i, 0 ≤ i → i < I 5 1 → I 90 i = I 6 i
def sr_kept (cu : Nat) (I : sk_SI) (L : sk_SL) : Prop := I 48 15 = I 59 59 ∧ (I 48 15 = 0 ∨ I 48 15 = 1) ∧ (I 48 15 = 1 → I 59 7 = 1 ∧ sh_K cu I L)
def sr_misc (I : sk_SI) : Prop := I 59 0 = 0 ∧ sk_in (I 59 25) ∧ I 29 5 = I 59 6
def sr_two (cu sp : Nat) : Prop := (cu = 9 ∧ sp = 19) ∨ (cu = 19 ∧ sp = 9)
def sr_R (cu sp : Nat) (I : sk_SI) (L : sk_SL) : Prop := sr_two cu sp ∧ sr_misc I ∧ sr_tape I ∧ sr_rule I ∧ sr_bits I ∧ sr_prog cu I ∧ sr_run I ∧ sr_note I ∧ sr_kept cu I L
section SKK1
variable {cu sp : Nat} {I K : sk_SI} {L L' : sk_SL}
theorem sr_pg (h : sr_two cu sp) : sk_pg cu ∧ sk_pg sp := by
  rcases h with ⟨rfl, rfl⟩ | ⟨rfl, rfl⟩
  · exact ⟨Or.inl rfl, Or.inr rfl⟩
  · exact ⟨Or.inr rfl, Or.inl rfl⟩
theorem sr_tape_cg (h : sr_tape I) (h1 : K 1 1 = I 1 1) (h2 : K 2 = I 2) (h6 : K 60 = I 60) (h5 : K 59 2 = I 59 2) : sr_tape K := by
  unfold sr_tape sk_tp
  rw [h1, h2, h6, h5]
  exact h
theorem sr_rule_cg (h : sr_rule I) (h1 : K 8 = I 8) (h2 : K 61 = I 61) : sr_rule K := by
  unfold sr_rule sk_ru
  rw [h1, h2]
  exact h
theorem sr_bits_cg (h : sr_bits I) (h1 : K 3 1 = I 3 1) (h2 : K 4 = I 4) (h6 : K 62 = I 62) (h5 : K 59 5 = I 59 5) : sr_bits K := by
  unfold sr_bits
  rw [h1, h2, h6, h5]
  exact h
theorem sr_prog_cg (hc : sk_pg cu) (h : sr_prog cu I) (h1 : ∀ c, cu ≤ c ∧ c ≤ cu + 9 → K c = I c) (h2 : ∀ c, 63 ≤ c ∧ c ≤ 74 → K c = I c) (h7 : K 59 7 = I 59 7) : sr_prog cu K := by
  have a0 := h1 cu (by omega)
  rcases h with h | ⟨e1, ⟨D, e2⟩, e3, e4⟩
  · refine Or.inl ?_
    rw [h7, a0, h2 63 (by omega), h2 66 (by omega)]
    exact h
  · refine Or.inr ⟨by rw [h7]; exact e1, ⟨D, sk_pv_cg e2 (fun k hk => h1 (cu + k) (by omega))⟩, ?_, ?_⟩
    · unfold sr_rows
      rw [a0, h1 (cu + 1) (by omega), h1 (cu + 2) (by omega), h1 (cu + 3) (by omega), h1 (cu + 4) (by omega), h1 (cu + 5) (by omega), h1 (cu + 6) (by omega), h1 (cu + 7) (by omega), h1 (cu + 8) (by omega), h1 (cu + 9) (by omega), h2 64 (by omega), h2 65 (by omega), h2 67 (by omega), h2 68 (by omega), h2 69 (by omega), h2 70 (by omega), h2 71 (by omega), h2 72 (by omega), h2 73 (by omega)]
      exact e3
    · rw [a0, h2 63 (by omega), h2 66 (by omega), h2 74 (by omega)]
      exact e4
theorem sr_run_cg (h : sr_run I) (h1 : K 34 8 = I 34 8) (h2 : K 44 = I 44) (h3 : ∀ j, 48 ≤ j ∧ j ≤ 58 → K 59 j = I 59 j) : sr_run K := by
  unfold sr_run
  rw [h1, h2, h3 48 (by omega), h3 50 (by omega), h3 51 (by omega), h3 52 (by omega), h3 53 (by omega), h3 54 (by omega), h3 55 (by omega), h3 56 (by omega), h3 58 (by omega)]
  exact h
theorem sr_note_cg (h : sr_note I) (h1 : K 5 1 = I 5 1) (h2 : K 6 = I 6) (h3 : K 90 = I 90) (h4 : K 59 58 = I 59 58) : sr_note K := by
  unfold sr_note
  rw [h1, h2, h3, h4]
  exact h
theorem sr_kept_cg (h : sr_kept cu I L) (h1 : K cu = I cu) (h2 : ∀ c, 48 ≤ c ∧ c ≤ 58 → K c = I c) (h3 : ∀ c, 91 ≤ c ∧ c ≤ 99 → K c = I c) (h7 : K 59 7 = I 59 7) (h4 : K 59 59 = I 59 59) (h5 : K 59 60 = I 59 60) (hL : L' 50 = L 50) : sr_kept cu K L' := by
  obtain ⟨a, b, c⟩ := h
  refine ⟨by rw [h2 48 (by omega), h4]; exact a, by rw [h2 48 (by omega)]; exact b, fun z => ?_⟩
  rw [h2 48 (by omega)] at z
  exact ⟨by rw [h7]; exact (c z).1, sh_K_cg (c z).2 h1 (by rw [h2 48 (by omega)]) (h2 49 (by omega)) (h2 51 (by omega)) (h2 52 (by omega)) (h2 54 (by omega)) (h2 55 (by omega)) (h2 57 (by omega)) (h2 58 (by omega)) h5 (h3 91 (by omega)) (h3 92 (by omega)) (h3 93 (by omega)) (h3 94 (by omega)) (h3 95 (by omega)) (h3 98 (by omega)) (h3 99 (by omega)) hL⟩
theorem sr_misc_cg (h : sr_misc I) (h0 : K 59 0 = I 59 0) (h1 : K 59 25 = I 59 25) (h2 : K 29 5 = I 29 5) (h3 : K 59 6 = I 59 6) : sr_misc K := by
  unfold sr_misc
  rw [h0, h1, h2, h3]
  exact h
end SKK1
/-! bytes and bits that come -/
theorem sr_and_b (x : Int) : (0 ≤ sk_and x 255 ∧ sk_and x 255 ≤ 255) ∧ (0 ≤ sk_and x 1 ∧ sk_and x 1 ≤ 1) := by
  have key : ∀ (m : Nat), m < 2147483648 → (Int32.ofInt (m : Int)).toBitVec.toNat = m → 0 ≤ sk_and x (m : Int) ∧ sk_and x (m : Int) ≤ m := by
    intro m hm he
    unfold sk_and
    have h1 : (Int32.ofInt x &&& Int32.ofInt (m : Int)).toBitVec.toNat ≤ m := by
      rw [Int32.toBitVec_and, BitVec.toNat_and, he]
      exact Nat.and_le_right
    have h2 : (Int32.ofInt x &&& Int32.ofInt (m : Int)).toInt = ((Int32.ofInt x &&& Int32.ofInt (m : Int)).toBitVec.toNat : Int) := by
      show (Int32.ofInt x &&& Int32.ofInt (m : Int)).toBitVec.toInt = _
      exact BitVec.toInt_eq_toNat_of_lt (by omega)
    omega
  exact ⟨key 255 (by omega) (by decide), key 1 (by omega) (by decide)⟩
def sr_u4 (f : Int → Int) (n a : Int) : Int → Int := sk_up (sk_up (sk_up (sk_up f n (sk_bz a 24)) (n + 1) (sk_bz a 16)) (n + 2) (sk_bz a 8)) (n + 3) (sk_bz a 0)
theorem sr_by (a : Int) : sk_by a 24 = sk_bz a 24 ∧ sk_by a 16 = sk_bz a 16 ∧ sk_by a 8 = sk_bz a 8 ∧ sk_by a 0 = sk_bz a 0 := ⟨sr_byte a 24 (by omega), sr_byte a 16 (by omega), sr_byte a 8 (by omega), sr_byte a 0 (by omega)⟩
theorem sr_u4_b {f : Int → Int} {n : Int} (a : Int) (hn : 0 ≤ n) (h : ∀ i, 0 ≤ i → i < n → 0 ≤ f i ∧ f i ≤ 255) : ∀ i, 0 ≤ i → i < n + 4 → 0 ≤ sr_u4 f n a i ∧ sr_u4 f n a i ≤ 255 := by
  intro i i0 i1
  unfold sr_u4 sk_bz
  by_cases e3 : i = n + 3
  · subst e3; rw [sk_up_s]; exact (sr_and_b _).1
  · rw [sk_up_o e3]
    by_cases e2 : i = n + 2
    · subst e2; rw [sk_up_s]; exact (sr_and_b _).1
    · rw [sk_up_o e2]
      by_cases e1 : i = n + 1
      · subst e1; rw [sk_up_s]; exact (sr_and_b _).1
      · rw [sk_up_o e1]
        by_cases e0 : i = n
        · subst e0; rw [sk_up_s]; exact (sr_and_b _).1
        · rw [sk_up_o e0]
          exact h i i0 (by omega)
theorem sr_ab (I : sk_SI) (a : Int) : sk_ab I a 2 = sr_u4 (I 2) (I 1 1) a ∧ sk_ab I a 1 1 = I 1 1 + 4 ∧ ∀ c, c ≠ 1 → c ≠ 2 → sk_ab I a c = I c := by
  obtain ⟨b1, b2, b3, b4⟩ := sr_by a
  refine ⟨?_, sk_ab_n I a, fun c h1 h2 => ?_⟩
  · unfold sk_ab sr_u4
    rw [b1, b2, b3, b4, show (2 : Nat) = 1 + 1 from rfl, sk_ap_c, sk_ap_c, sk_ap_c, sk_ap_c]
    simp only [sk_ap_n]
    rw [show I 1 1 + 1 + 1 = I 1 1 + 2 by omega, show I 1 1 + 2 + 1 = I 1 1 + 3 by omega]
  · unfold sk_ab
    rw [sk_ap_o _ _ _ _ h1 h2, sk_ap_o _ _ _ _ h1 h2, sk_ap_o _ _ _ _ h1 h2, sk_ap_o _ _ _ _ h1 h2]
theorem sr_am4 (I : sk_SI) (c : Int) : sk_am I c 60 = sk_up (I 60) (I 59 2) c ∧ (∀ j, j ≠ 2 → sk_am I c 59 j = I 59 j) ∧ ∀ k, k ≠ 59 → k ≠ 60 → sk_am I c k = I k := by
  unfold sk_am
  refine ⟨?_, fun j hj => ?_, fun k h1 h2 => ?_⟩
  · rw [sk_uI_o (by decide), sk_uI_s]
  · rw [sk_uI_s, sk_up_o hj, sk_uI_o (by decide)]
  · rw [sk_uI_o h1, sk_uI_o h2]
theorem sr_a4 (I : sk_SI) (a : Int) : sk_a4 I a 60 = sr_u4 (I 60) (I 59 2) a ∧ sk_a4 I a 59 2 = I 59 2 + 4 ∧ (∀ j, j ≠ 2 → sk_a4 I a 59 j = I 59 j) ∧ ∀ c, c ≠ 59 → c ≠ 60 → sk_a4 I a c = I c := by
  refine ⟨?_, sk_a4_n I a, fun j hj => ?_, fun c h1 h2 => ?_⟩
  · unfold sk_a4 sr_u4
    rw [(sr_am4 _ _).1, (sr_am4 _ _).1, (sr_am4 _ _).1, (sr_am4 _ _).1]
    simp only [sk_am_n]
    rw [show I 59 2 + 1 + 1 = I 59 2 + 2 by omega, show I 59 2 + 2 + 1 = I 59 2 + 3 by omega]
  · unfold sk_a4
    rw [(sr_am4 _ _).2.1 j hj, (sr_am4 _ _).2.1 j hj, (sr_am4 _ _).2.1 j hj, (sr_am4 _ _).2.1 j hj]
  · unfold sk_a4
    rw [(sr_am4 _ _).2.2 c h1 h2, (sr_am4 _ _).2.2 c h1 h2, (sr_am4 _ _).2.2 c h1 h2, (sr_am4 _ _).2.2 c h1 h2]
def sr_ub (f : Int → Int) (n v : Int) : Nat → Int → Int
  | 0 => f
  | k + 1 => sk_up (sr_ub f n v k) (n + k) (sk_and (sk_shr v k) 1)
theorem sr_ub_b {f : Int → Int} {n : Int} (v : Int) (hn : 0 ≤ n) (h : ∀ i, 0 ≤ i → i < n → 0 ≤ f i ∧ f i ≤ 1) : ∀ (k : Nat) (i : Int), 0 ≤ i → i < n + k → 0 ≤ sr_ub f n v k i ∧ sr_ub f n v k i ≤ 1
  | 0, i, a, b => h i a (by omega)
  | k + 1, i, a, b => by
    unfold sr_ub
    by_cases e : i = n + k
    · subst e; rw [sk_up_s]; exact (sr_and_b _).2
    · rw [sk_up_o e]
      exact sr_ub_b v hn h k i a (by omega)
theorem sr_kb (I : sk_SI) (v : Int) : ∀ n : Nat, n ≤ 32 → sk_kb I v n 4 = sr_ub (I 4) (I 3 1) v n ∧ ∀ c, c ≠ 3 → c ≠ 4 → sk_kb I v n c = I c
  | 0, _ => ⟨rfl, fun _ _ _ => rfl⟩
  | n + 1, h => by
    obtain ⟨a, b⟩ := sr_kb I v n (by omega)
    refine ⟨?_, fun c h1 h2 => ?_⟩
    · unfold sk_kb sr_ub
      rw [show (4 : Nat) = 3 + 1 from rfl, sk_ap_c, sk_kb_n, a, sr_bit v n (by omega)]
    · unfold sk_kb
      rw [sk_ap_o _ _ _ _ h1 h2]
      exact b c h1 h2
theorem sr_mb (I : sk_SI) (v : Int) : ∀ n : Nat, sk_mb I v n 62 = sr_ub (I 62) (I 59 5) v n ∧ (∀ j, j ≠ 5 → sk_mb I v n 59 j = I 59 j) ∧ ∀ c, c ≠ 59 → c ≠ 62 → sk_mb I v n c = I c
  | 0 => ⟨rfl, fun _ _ => rfl, fun _ _ _ => rfl⟩
  | n + 1 => by
    obtain ⟨a, b, c⟩ := sr_mb I v n
    refine ⟨?_, fun j hj => ?_, fun k h1 h2 => ?_⟩
    · unfold sk_mb sr_ub sk_mp
      rw [sk_uI_o (by decide), sk_uI_s, sk_mb_n, a]
    · unfold sk_mb sk_mp
      rw [sk_uI_s, sk_up_o hj, sk_uI_o (by decide)]
      exact b j hj
    · unfold sk_mb sk_mp
      rw [sk_uI_o h1, sk_uI_o h2]
      exact c k h1 h2
