/-! ===== SealKeeperModel.pairOf ===== -/
def sg_ins (m n : Int) (B : sk_Tb) (I I' : sk_SI) : Prop := (I' 59 60 = n + 1 ∧ I' 59 71 = 1 ∧ ∀ j, j ≠ 60 → j ≠ 71 → I' 59 j = I 59 j) ∧ I' 91 = sk_up (I 91) n m ∧ (∀ r, 0 ≤ r → r < 80 → I' 92 (80 * n + r) = B r) ∧ (∀ i, i < 80 * n → I' 92 i = I 92 i) ∧ (I' 93 = sk_up (I 93) n 0 ∧ I' 94 = sk_up (I 94) n 0 ∧ I' 95 = sk_up (I 95) n 0) ∧ ∀ c, c ≠ 59 → ¬ (91 ≤ c ∧ c ≤ 95) → I' c = I c
section SKG2
variable {l : Launch} {E : sk_En} {d : Nat} {L : sk_SL} {cu sp io rp tp fp : Nat} {Q : Option sk_V → List sk_Sh → sk_St → Prop}
theorem c_M_pairOf_i (I : sk_SI) (m n : Int) (B : sk_Tb) (hn : I 59 60 = n) (hn0 : 0 ≤ n ∧ n < 300) (hB : ∀ r, 0 ≤ r → r < 80 → I 97 r = B r) (hq : ∀ I', sg_ins m n B I I' → Q (some (vi n)) sk_G (I', L, sk_J cu sp io rp tp fp)) : AW l E d 0 0 mX10_pairOf 103 [some (vr 59), some (vi m), none, none, none] [] sk_G (I, L, sk_J cu sp io rp tp fp) Q := by
  have o0 : (0 : Int) = 0 ∨ (0 : Int) = 1 := Or.inl rfl
  have fin : ∀ I', sg_wr 92 (80 * n) B 80 (sk_uI (sk_uI I 59 60 (n + 1)) 91 n m) I' → Q (some (vi n)) sk_G (sk_uI (sk_uI (sk_uI (sk_uI I' 93 n 0) 94 n 0) 95 n 0) 59 71 1, L, sk_J cu sp io rp tp fp) := by
    intro I' h
    obtain ⟨h1, h2, h3⟩ := h
    have e59 : I' 59 = sk_up (I 59) 60 (n + 1) := by rw [h1 59 (by decide), sk_uI_o (by decide), sk_uI_s]
    refine hq _ ⟨⟨?_, ?_, fun j a b => ?_⟩, ?_, fun r a b => ?_, fun i hi => ?_, ⟨?_, ?_, ?_⟩, fun c a b => ?_⟩
    · rw [sk_uI_s, sk_up_o (by decide), sk_uI_o (by decide), sk_uI_o (by decide), sk_uI_o (by decide), e59, sk_up_s]
    · rw [sk_uI_s, sk_up_s]
    · rw [sk_uI_s, sk_up_o b, sk_uI_o (by decide), sk_uI_o (by decide), sk_uI_o (by decide), e59, sk_up_o a]
    · rw [sk_uI_o (by decide), sk_uI_o (by decide), sk_uI_o (by decide), sk_uI_o (by decide), h1 91 (by decide), sk_uI_s, sk_uI_o (by decide)]
    · rw [sk_uI_o (by decide), sk_uI_o (by decide), sk_uI_o (by decide), sk_uI_o (by decide)]
      exact h2 r a b
    · rw [sk_uI_o (by decide), sk_uI_o (by decide), sk_uI_o (by decide), sk_uI_o (by decide), h3 i (by omega), sk_uI_o (by decide), sk_uI_o (by decide)]
    · rw [sk_uI_o (by decide), sk_uI_o (by decide), sk_uI_o (by decide), sk_uI_s, h1 93 (by decide), sk_uI_o (by decide), sk_uI_o (by decide)]
    · rw [sk_uI_o (by decide), sk_uI_o (by decide), sk_uI_s, sk_uI_o (by decide), h1 94 (by decide), sk_uI_o (by decide), sk_uI_o (by decide)]
    · rw [sk_uI_o (by decide), sk_uI_s, sk_uI_o (by decide), sk_uI_o (by decide), h1 95 (by decide), sk_uI_o (by decide), sk_uI_o (by decide)]
    · rw [sk_uI_o a, sk_uI_o (by omega), sk_uI_o (by omega), sk_uI_o (by omega), h1 c (by omega), sk_uI_o (by omega), sk_uI_o a]
  have lp : ∀ (k : Nat) (r : Int) (I' : sk_SI), 0 ≤ r → r + k = 80 → sg_wr 92 (80 * n) B r (sk_uI (sk_uI I 59 60 (n + 1)) 91 n m) I' → AW l E d 0 0 mX10_pairOf 130 [some (vr 59), some (vi m), some (vi n), some (vi r), none] [vi 80, vi r] sk_G (I', L, sk_J cu sp io rp tp fp) Q := by
    intro k
    induction k with
    | zero =>
      intro r I' r0 hr h
      have : r = 80 := by omega
      subst this
      have fin := fin I' h
      refine AW_icge rfl (fun g => ?_) (fun g => by omega)
      refine AW_run 80 rfl ?_
      refine AW_zast rfl rfl ⟨by omega, by omega⟩ (by decide) (o0) ?_
      refine AW_run 80 rfl ?_
      refine AW_zast rfl rfl ⟨by omega, by omega⟩ (by decide) (o0) ?_
      refine AW_run 80 rfl ?_
      refine AW_zast rfl rfl ⟨by omega, by omega⟩ (by decide) (o0) ?_
      refine AW_run 80 rfl ?_
      refine AW_putZ rfl rfl (Or.inr rfl) ?_
      refine AW_run 80 rfl ?_
      exact AW_iret rfl rfl fin
    | succ k ih =>
      intro r I' r0 hr h
      have e97 : I' 97 r = B r := by rw [h.1 97 (by decide), sk_uI_o (by decide), sk_uI_o (by decide)]; exact hB r r0 (by omega)
      have ih2 := ih (r + 1) _ (by omega) (by omega) (sg_wr_s h r0 e97)
      refine AW_icge rfl (fun g => by omega) (fun g => ?_) (by unfold sk_in; omega)
      refine AW_run 80 rfl ?_
      refine AW_iald rfl rfl ⟨by omega, by omega⟩ (by decide) ?_
      refine AW_iast rfl rfl ⟨by omega, by omega⟩ (by decide) ?_
      refine AW_run 80 rfl ?_
      exact ih2
  have lp := lp 80 0 _ (by omega) (by omega) (sg_wr_0 _ _ _ _)
  clear fin hq
  refine AW_run 80 rfl ?_
  rw [hn]
  refine AW_iast rfl rfl ⟨by omega, by omega⟩ (by decide) ?_
  refine AW_run 80 rfl ?_
  exact AW_lk lp ⟨rfl, rfl, rfl, rfl, trivial⟩
theorem c_M_pairOf (I : sk_SI) (m n : Int) (B : sk_Tb) (hn : I 59 60 = n) (hn0 : 0 ≤ n ∧ n ≤ 300) (hm : sk_in m) (h91 : ∀ q, 0 ≤ q → q < n → sk_in (I 91 q)) (h92 : ∀ q r, 0 ≤ q → q < n → 0 ≤ r → r < 80 → sk_in (I 92 (80 * q + r))) (hB : ∀ r, 0 ≤ r → r < 80 → I 97 r = B r) (hBi : ∀ r, 0 ≤ r → r < 80 → sk_in (B r)) (hq1 : ∀ q, 0 ≤ q → q < n → I 91 q = m → (∀ r, 0 ≤ r → r < 80 → I 92 (80 * q + r) = B r) → Q (some (vi q)) sk_G (I, L, sk_J cu sp io rp tp fp)) (hq2 : (∀ q, 0 ≤ q → q < n → ¬ (I 91 q = m ∧ ∀ r, 0 ≤ r → r < 80 → I 92 (80 * q + r) = B r)) → (n = 300 → Q (some (vi 0)) sk_G (sk_uI I 59 70 1, L, sk_J cu sp io rp tp fp)) ∧ (n < 300 → ∀ I', sg_ins m n B I I' → Q (some (vi n)) sk_G (I', L, sk_J cu sp io rp tp fp))) : AW l E d 0 0 mX10_pairOf 0 [some (vr 59), some (vi m), none, none, none] [] sk_G (I, L, sk_J cu sp io rp tp fp) Q := by
  have lp : ∀ (k : Nat) (q : Int), 0 ≤ q → q + k = n → (∀ q', 0 ≤ q' → q' < q → ¬ (I 91 q' = m ∧ ∀ r, 0 ≤ r → r < 80 → I 92 (80 * q' + r) = B r)) → AW l E d 0 0 mX10_pairOf 7 [some (vr 59), some (vi m), some (vi q), none, none] [vi n, vi q] sk_G (I, L, sk_J cu sp io rp tp fp) Q := by
    intro k
    induction k with
    | zero =>
      intro q q0 hk hno
      have : q = n := by omega
      subst this
      obtain ⟨t1, t2⟩ := hq2 hno
      refine AW_icge rfl (fun g => ?_) (fun g => by omega) (by unfold sk_in; omega) (by unfold sk_in; omega)
      refine AW_run 80 rfl ?_
      rw [hn]
      refine AW_icne rfl (fun g2 => ?_) (fun g2 => ?_) (by unfold sk_in; omega)
      · have ins := c_M_pairOf_i (l := l) (E := E) (d := d) (L := L) (cu := cu) (sp := sp) (io := io) (rp := rp) (tp := tp) (fp := fp) I m q B hn (by omega) hB (t2 (by omega))
        exact AW_lk ins ⟨rfl, rfl, trivial⟩
      · have t1 := t1 g2
        refine AW_run 80 rfl ?_
        refine AW_putZ rfl rfl (Or.inr rfl) ?_
        refine AW_run 80 rfl ?_
        exact AW_iret rfl rfl t1
    | succ k ih =>
      intro q q0 hk hno
      have nx : ¬ (I 91 q = m ∧ ∀ r, 0 ≤ r → r < 80 → I 92 (80 * q + r) = B r) → AW l E d 0 0 mX10_pairOf 7 [some (vr 59), some (vi m), some (vi (q + 1)), none, none] [vi n, vi (q + 1)] sk_G (I, L, sk_J cu sp io rp tp fp) Q := fun z => ih (q + 1) (by omega) (by omega) (fun q' a b => by
        by_cases e : q' = q
        · subst e; exact z
        · exact hno q' a (by omega))
      clear ih
      rw [← hn] at nx
      have inn : ∀ (j : Nat) (r is : Int), 0 ≤ r → r + j = 80 → (is = 0 ∨ is = 1) → (is = 1 → I 91 q = m ∧ ∀ r', 0 ≤ r' → r' < r → I 92 (80 * q + r') = B r') → (is = 0 → ¬ (I 91 q = m ∧ ∀ r, 0 ≤ r → r < 80 → I 92 (80 * q + r) = B r)) → AW l E d 0 0 mX10_pairOf 33 [some (vr 59), some (vi m), some (vi q), some (vi is), some (vi r)] [vi 80, vi r] sk_G (I, L, sk_J cu sp io rp tp fp) Q := by
        intro j
        induction j with
        | zero =>
          intro r is r0 hr his h1 h0
          have : r = 80 := by omega
          subst this
          refine AW_icge rfl (fun g => ?_) (fun g => by omega)
          refine AW_run 80 rfl ?_
          refine AW_ifeq rfl (fun g2 => ?_) (fun g2 => ?_) (by unfold sk_in; omega)
          · have nx := nx (h0 g2)
            refine AW_run 80 rfl ?_
            exact AW_lk nx ⟨rfl, rfl, rfl, trivial⟩
          · have h1 := h1 (by omega)
            have hq1 := hq1 q q0 (by omega) h1.1 h1.2
            refine AW_run 80 rfl ?_
            exact AW_iret rfl rfl hq1
        | succ j ih =>
          intro r is r0 hr his h1 h0
          refine AW_icge rfl (fun g => by omega) (fun g => ?_) (by unfold sk_in; omega)
          refine AW_run 80 rfl ?_
          refine AW_ifeq rfl (fun g2 => ?_) (fun g2 => ?_) (by unfold sk_in; omega)
          · have nx := nx (h0 g2)
            refine AW_run 80 rfl ?_
            refine AW_ifeq rfl (fun g3 => ?_) (fun g3 => absurd g2 g3) (by unfold sk_in; omega)
            refine AW_run 80 rfl ?_
            exact AW_lk nx ⟨rfl, rfl, rfl, trivial⟩
          · have h1 := h1 (by omega)
            have b1 := h92 q r q0 (by omega) r0 (by omega)
            have b2 := hBi r r0 (by omega)
            have e97 := hB r r0 (by omega)
            refine AW_run 80 rfl ?_
            refine AW_iald rfl rfl ⟨by omega, by omega⟩ (by decide) ?_
            refine AW_run 80 rfl ?_
            refine AW_iald rfl rfl ⟨by omega, by omega⟩ (by decide) ?_
            rw [e97]
            refine AW_icne rfl (fun g3 => ?_) (fun g3 => ?_) b1 b2
            · have ih2 := ih (r + 1) 0 (by omega) (by omega) (Or.inl rfl) (fun z => by omega) (fun _ z => g3 (z.2 r r0 (by omega)))
              refine AW_run 80 rfl ?_
              exact ih2
            · have ih2 := ih (r + 1) 1 (by omega) (by omega) (Or.inr rfl) (fun _ => ⟨h1.1, fun r' a b => by
                by_cases e : r' = r
                · subst e; exact g3
                · exact h1.2 r' a (by omega)⟩) (fun z => by omega)
              refine AW_run 80 rfl ?_
              exact ih2
      have b0 := h91 q q0 (by omega)
      refine AW_icge rfl (fun g => by omega) (fun g => ?_) (by unfold sk_in; omega) (by unfold sk_in; omega)
      refine AW_run 80 rfl ?_
      refine AW_iald rfl rfl ⟨by omega, by omega⟩ (by decide) ?_
      refine AW_run 80 rfl ?_
      refine AW_icne rfl (fun g2 => ?_) (fun g2 => ?_) b0 hm
      · have inn := inn 80 0 0 (by omega) (by omega) (Or.inl rfl) (fun z => by omega) (fun _ z => g2 z.1)
        refine AW_run 80 rfl ?_
        exact inn
      · have inn := inn 80 0 1 (by omega) (by omega) (Or.inr rfl) (fun _ => ⟨g2, fun r' a b => by omega⟩) (fun z => by omega)
        refine AW_run 80 rfl ?_
        exact inn
  have lp := lp n.toNat 0 (by omega) (by omega) (fun q' a b => by omega)
  rw [← hn] at lp
  refine AW_run 80 rfl ?_
  exact AW_lk lp ⟨rfl, rfl, rfl, trivial⟩
end SKG2
