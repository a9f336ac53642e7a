/-! ===== SealKeeperModel: walked, told, isAhead, pair ===== -/
noncomputable def sh_i (P : Prop) : Int := @ite Int P (Classical.propDecidable P) 1 0
theorem sh_i_t {P : Prop} (h : P) : sh_i P = 1 := by
  unfold sh_i
  exact if_pos h
theorem sh_i_f {P : Prop} (h : ¬ P) : sh_i P = 0 := by
  unfold sh_i
  exact if_neg h
theorem sh_i_b (P : Prop) : 0 ≤ sh_i P ∧ sh_i P ≤ 1 := by
  by_cases h : P
  · rw [sh_i_t h]; omega
  · rw [sh_i_f h]; omega
noncomputable def sh_A (I : sk_SI) (TM : Int → sk_Tb) (m : Int) (T : sk_Tb) : Int → Int := fun q => sh_i (I 91 q = m ∧ sk_lx (TM q) T 80)
section SKH2
variable {l : Launch} {E : sk_En} {d : Nat} {I : sk_SI} {L : sk_SL} {cu sp io rp tp fp p : Nat} {Q : Option sk_V → List sk_Sh → sk_St → Prop} {TM : Int → sk_Tb} {C : sk_SI}
theorem c_M_walked (s w : Int) (hsi : sk_in s) (hwi : sk_in w) (ht : I 59 0 = 0) (h66 : 0 ≤ I 66 0 ∧ I 66 0 ≤ 200) (hk : I 59 59 = 0 ∨ I 59 59 = 1) (hz : I 59 59 = 1 → sg_zo I) (h0 : I 59 59 = 0 → Q (some (vi (-4))) sk_G (I, L, sk_J cu sp io rp tp fp)) (h1 : I 59 59 = 1 → ¬ (0 ≤ w ∧ w < 2 ∧ 0 ≤ s ∧ s < I 66 0) → Q (some (vi (-3))) sk_G (I, L, sk_J cu sp io rp tp fp)) (h2 : I 59 59 = 1 → 0 ≤ s → s < I 66 0 → ∀ v : Int, (w = 0 ∧ v = I 98 s ∨ w = 1 ∧ v = I 99 s) → Q (some (vi v)) sk_G (I, L, sk_J cu sp io rp tp fp)) : AW l E (d + 1) 0 0 mX10_walked 0 [some (vr 59), some (vi s), some (vi w)] [] sk_G (I, L, sk_J cu sp io rp tp fp) Q := by
  refine AW_run 80 rfl ?_
  rw [sk_uI_id ht]
  refine AW_ifne rfl (fun g => ?_) (fun g => ?_) (by unfold sk_in; omega)
  · have k : I 59 59 = 1 := by omega
    have h1 := h1 k
    have h2 := h2 k
    have hz := hz k
    refine AW_run 80 rfl ?_
    refine AW_in rfl kkX10_177 rfl (by omega) (fun w1 w2 => ?_) (fun w3 => ?_)
    · refine AW_run 80 rfl ?_
      first | refine AW_e1 rfl ?_ | refine AW_e0 rfl ?_ | refine AW_n1 rfl ?_ | refine AW_n0 rfl ?_
      refine AW_run 80 rfl ?_
      refine AW_iald rfl rfl ⟨by omega, by omega⟩ (by decide) ?_
      refine AW_run 80 rfl ?_
      refine AW_in rfl kkX10_177 rfl (by omega) (fun w4 w5 => ?_) (fun w6 => ?_)
      · have h2 := h2 w4 (by omega)
        have zs := hz s w4 (by omega)
        refine AW_run 80 rfl ?_
        first | refine AW_e1 rfl ?_ | refine AW_e0 rfl ?_ | refine AW_n1 rfl ?_ | refine AW_n0 rfl ?_
        refine AW_run 80 rfl ?_
        refine AW_ifne rfl (fun g2 => ?_) (fun g2 => ?_) (by unfold sk_in; omega)
        · refine AW_run 80 rfl ?_
          refine AW_zald rfl rfl ⟨by omega, by omega⟩ (by decide) ?_
          refine AW_ifeq rfl (fun g3 => ?_) (fun g3 => ?_) (by unfold sk_in; omega)
          · have h2 := h2 0 (by omega)
            refine AW_run 80 rfl ?_
            exact AW_iret rfl rfl h2
          · have h2 := h2 1 (by omega)
            refine AW_run 80 rfl ?_
            exact AW_iret rfl rfl h2
        · refine AW_run 80 rfl ?_
          refine AW_zald rfl rfl ⟨by omega, by omega⟩ (by decide) ?_
          refine AW_ifeq rfl (fun g3 => ?_) (fun g3 => ?_) (by unfold sk_in; omega)
          · have h2 := h2 0 (by omega)
            refine AW_run 80 rfl ?_
            exact AW_iret rfl rfl h2
          · have h2 := h2 1 (by omega)
            refine AW_run 80 rfl ?_
            exact AW_iret rfl rfl h2
      · have h1 := h1 (fun z => w6 ⟨z.2.2.1, by omega⟩)
        refine AW_run 80 rfl ?_
        first | refine AW_e1 rfl ?_ | refine AW_e0 rfl ?_ | refine AW_n1 rfl ?_ | refine AW_n0 rfl ?_
        refine AW_run 80 rfl ?_
        exact AW_iret rfl rfl h1
    · have h1 := h1 (fun z => w3 ⟨z.1, by omega⟩)
      refine AW_run 80 rfl ?_
      first | refine AW_e1 rfl ?_ | refine AW_e0 rfl ?_ | refine AW_n1 rfl ?_ | refine AW_n0 rfl ?_
      refine AW_run 80 rfl ?_
      exact AW_iret rfl rfl h1
  · have h0 := h0 g
    refine AW_run 80 rfl ?_
    exact AW_iret rfl rfl h0
theorem c_M_told (w : Int) (hwi : sk_in w) (ht : I 59 0 = 0) (hk : I 59 59 = 0 ∨ I 59 59 = 1) (h0 : I 59 59 = 0 → Q (some (vi (-4))) sk_G (I, L, sk_J cu sp io rp tp fp)) (h1 : I 59 59 = 1 → ¬ (0 ≤ w ∧ w ≤ 4) → Q (some (vi (-3))) sk_G (I, L, sk_J cu sp io rp tp fp)) (hz : I 59 59 = 1 → sg_zo I ∧ (0 ≤ I 66 0 ∧ I 66 0 ≤ 200) ∧ (0 ≤ I 63 0 ∧ I 63 0 ≤ 20) ∧ (0 ≤ I 59 60 ∧ I 59 60 ≤ 300) ∧ ((I 93 0 = 0 ∨ I 93 0 = 1) ∧ (I 94 0 = 0 ∨ I 94 0 = 1) ∧ (I 95 0 = 0 ∨ I 95 0 = 1)) ∧ ∀ q, 0 ≤ q → q < I 59 60 → sk_in (I 91 q)) (h2 : I 59 59 = 1 → ∀ v : Int, (w = 0 ∧ v = (if I 93 0 = 1 ∨ I 94 0 = 1 then 1 else 0) ∨ w = 1 ∧ v = I 95 0 ∨ w = 2 ∧ v = sk_sum (I 98) (I 66 0).toNat ∨ w = 3 ∧ v = sk_sum (I 99) (I 66 0).toNat ∨ w = 4 ∧ v = sk_sum (fun m => sh_i (∃ q, 0 ≤ q ∧ q < I 59 60 ∧ I 91 q = m)) (I 63 0).toNat) → Q (some (vi v)) sk_G (I, L, sk_J cu sp io rp tp fp)) : AW l E d 0 0 mX10_told 0 [some (vr 59), some (vi w), none, none, none, none] [] sk_G (I, L, sk_J cu sp io rp tp fp) Q := by
  have sums : I 59 59 = 1 → ∀ c : Nat, ((w = 2 ∧ c = 98) ∨ (w = 3 ∧ c = 99)) → AW l E d 0 0 mX10_told 91 [some (vr 59), some (vi w), some (vi 0), none, none, none] [] sk_G (I, L, sk_J cu sp io rp tp fp) Q := by
    intro k c hc
    obtain ⟨z1, z2, -⟩ := hz k
    have h2 := h2 k
    have lp : ∀ (j : Nat) (s : Int), 0 ≤ s → s + j = I 66 0 → AW l E d 0 0 mX10_told 100 [some (vr 59), some (vi w), some (vi (sk_sum (I c) s.toNat)), some (vi s), none, none] [vi (I 66 0), vi s] sk_G (I, L, sk_J cu sp io rp tp fp) Q := by
      intro j
      induction j with
      | zero =>
        intro s s0 hj
        have : s = I 66 0 := by omega
        rw [this]
        have h2 := h2 (sk_sum (I c) (I 66 0).toNat) (by rcases hc with ⟨rfl, rfl⟩ | ⟨rfl, rfl⟩; exact Or.inr (Or.inr (Or.inl ⟨rfl, rfl⟩)); exact Or.inr (Or.inr (Or.inr (Or.inl ⟨rfl, rfl⟩))))
        refine AW_icge rfl (fun g => ?_) (fun g => by omega) (by unfold sk_in; omega) (by unfold sk_in; omega)
        refine AW_run 80 rfl ?_
        exact AW_iret rfl rfl h2
      | succ j ih =>
        intro s s0 hj
        have ih2 := ih (s + 1) (by omega) (by omega)
        rw [sk_sum_s _ s0] at ih2
        have zs := z1 s s0 (by omega)
        refine AW_icge rfl (fun g => by omega) (fun g => ?_) (by unfold sk_in; omega) (by unfold sk_in; omega)
        rcases hc with ⟨rfl, rfl⟩ | ⟨rfl, rfl⟩
        · refine AW_run 80 rfl ?_
          refine AW_icne rfl (fun g2 => by omega) (fun g2 => ?_)
          refine AW_run 80 rfl ?_
          refine AW_zald rfl rfl ⟨by omega, by omega⟩ (by decide) ?_
          refine AW_ifeq rfl (fun g3 => ?_) (fun g3 => ?_) (by unfold sk_in; omega)
          · rw [g3] at ih2
            refine AW_run 80 rfl ?_
            refine AW_iald rfl rfl ⟨by omega, by omega⟩ (by decide) ?_
            exact AW_lk ih2 ⟨rfl, rfl, rfl, rfl, trivial⟩
          · rw [zs.1.resolve_left g3] at ih2
            refine AW_run 80 rfl ?_
            refine AW_iald rfl rfl ⟨by omega, by omega⟩ (by decide) ?_
            exact AW_lk ih2 ⟨rfl, rfl, rfl, rfl, trivial⟩
        · refine AW_run 80 rfl ?_
          refine AW_icne rfl (fun g2 => ?_) (fun g2 => by omega)
          refine AW_run 80 rfl ?_
          refine AW_zald rfl rfl ⟨by omega, by omega⟩ (by decide) ?_
          refine AW_ifeq rfl (fun g3 => ?_) (fun g3 => ?_) (by unfold sk_in; omega)
          · rw [g3] at ih2
            refine AW_run 80 rfl ?_
            refine AW_iald rfl rfl ⟨by omega, by omega⟩ (by decide) ?_
            exact AW_lk ih2 ⟨rfl, rfl, rfl, rfl, trivial⟩
          · rw [zs.2.resolve_left g3] at ih2
            refine AW_run 80 rfl ?_
            refine AW_iald rfl rfl ⟨by omega, by omega⟩ (by decide) ?_
            exact AW_lk ih2 ⟨rfl, rfl, rfl, rfl, trivial⟩
    have lp := lp (I 66 0).toNat 0 (by omega) (by omega)
    refine AW_run 80 rfl ?_
    refine AW_iald rfl rfl ⟨by omega, by omega⟩ (by decide) ?_
    exact AW_lk lp ⟨rfl, rfl, rfl, rfl, trivial⟩
  have came : I 59 59 = 1 → w = 4 → AW l E d 0 0 mX10_told 145 [some (vr 59), some (vi w), some (vi 0), none, none, none] [] sk_G (I, L, sk_J cu sp io rp tp fp) Q := by
    intro k hw
    obtain ⟨-, -, z3, z4, -, z6⟩ := hz k
    have h2 := h2 k
    have lp : ∀ (j : Nat) (m : Int), 0 ≤ m → m + j = I 63 0 → AW l E d 0 0 mX10_told 154 [some (vr 59), some (vi w), some (vi (sk_sum (fun m => sh_i (∃ q, 0 ≤ q ∧ q < I 59 60 ∧ I 91 q = m)) m.toNat)), some (vi m), none, none] [vi (I 63 0), vi m] sk_G (I, L, sk_J cu sp io rp tp fp) Q := by
      intro j
      induction j with
      | zero =>
        intro m m0 hj
        have : m = I 63 0 := by omega
        rw [this]
        have h2 := h2 _ (Or.inr (Or.inr (Or.inr (Or.inr ⟨hw, rfl⟩))))
        refine AW_icge rfl (fun g => ?_) (fun g => by omega) (by unfold sk_in; omega) (by unfold sk_in; omega)
        refine AW_run 80 rfl ?_
        exact AW_iret rfl rfl h2
      | succ j ih =>
        intro m m0 hj
        have ih2 := ih (m + 1) (by omega) (by omega)
        rw [sk_sum_s _ m0] at ih2
        have inn : ∀ (i : Nat) (q cm : Int), 0 ≤ q → q + i = I 59 60 → (cm = 0 ∨ cm = 1) → (cm = 1 ↔ ∃ q', 0 ≤ q' ∧ q' < q ∧ I 91 q' = m) → AW l E d 0 0 mX10_told 169 [some (vr 59), some (vi w), some (vi (sk_sum (fun m => sh_i (∃ q, 0 ≤ q ∧ q < I 59 60 ∧ I 91 q = m)) m.toNat)), some (vi m), some (vi cm), some (vi q)] [vi (I 59 60), vi q] sk_G (I, L, sk_J cu sp io rp tp fp) Q := by
          intro i
          induction i with
          | zero =>
            intro q cm q0 hi hcm h
            have : q = I 59 60 := by omega
            rw [this] at h
            refine AW_icge rfl (fun g => ?_) (fun g => by omega) (by unfold sk_in; omega) (by unfold sk_in; omega)
            rcases hcm with rfl | rfl
            · rw [sh_i_f (fun z => absurd (h.mpr z) (by decide))] at ih2
              refine AW_run 80 rfl ?_
              first | refine AW_e1 rfl ?_ | refine AW_e0 rfl ?_ | refine AW_n1 rfl ?_ | refine AW_n0 rfl ?_
              refine AW_run 80 rfl ?_
              refine AW_iald rfl rfl ⟨by omega, by omega⟩ (by decide) ?_
              exact AW_lk ih2 ⟨rfl, rfl, rfl, rfl, trivial⟩
            · rw [sh_i_t (h.mp rfl)] at ih2
              refine AW_run 80 rfl ?_
              first | refine AW_e1 rfl ?_ | refine AW_e0 rfl ?_ | refine AW_n1 rfl ?_ | refine AW_n0 rfl ?_
              refine AW_run 80 rfl ?_
              refine AW_iald rfl rfl ⟨by omega, by omega⟩ (by decide) ?_
              exact AW_lk ih2 ⟨rfl, rfl, rfl, rfl, trivial⟩
          | succ i ihi =>
            intro q cm q0 hi hcm h
            have b1 := z6 q q0 (by omega)
            have n1 : (cm = 1 ∨ I 91 q = m) → _ := fun z => ihi (q + 1) 1 (by omega) (by omega) (Or.inr rfl) ⟨fun _ => by
              rcases z with z | z
              · obtain ⟨q', a, b, c⟩ := h.mp z
                exact ⟨q', a, by omega, c⟩
              · exact ⟨q, q0, by omega, z⟩, fun _ => rfl⟩
            have n0 : (cm = 0 ∧ I 91 q ≠ m) → _ := fun z => ihi (q + 1) 0 (by omega) (by omega) (Or.inl rfl) ⟨fun y => by omega, fun ⟨q', a, b, c⟩ => by
              by_cases e : q' = q
              · subst e; exact absurd c z.2
              · have := h.mpr ⟨q', a, by omega, c⟩
                omega⟩
            clear ihi ih2
            refine AW_icge rfl (fun g => by omega) (fun g => ?_) (by unfold sk_in; omega) (by unfold sk_in; omega)
            refine AW_run 80 rfl ?_
            refine AW_ifne rfl (fun g2 => ?_) (fun g2 => ?_) (by unfold sk_in; omega)
            · have n1 := n1 (Or.inl (by omega))
              refine AW_run 80 rfl ?_
              exact n1
            · refine AW_run 80 rfl ?_
              refine AW_iald rfl rfl ⟨by omega, by omega⟩ (by decide) ?_
              refine AW_run 80 rfl ?_
              refine AW_icne rfl (fun g3 => ?_) (fun g3 => ?_) b1 (by unfold sk_in; omega)
              · have n0 := n0 ⟨g2, g3⟩
                refine AW_run 80 rfl ?_
                exact n0
              · have n1 := n1 (Or.inr g3)
                refine AW_run 80 rfl ?_
                exact n1
        have inn := inn (I 59 60).toNat 0 0 (by omega) (by omega) (Or.inl rfl) ⟨fun y => by omega, fun ⟨q', a, b, c⟩ => by omega⟩
        refine AW_icge rfl (fun g => by omega) (fun g => ?_) (by unfold sk_in; omega) (by unfold sk_in; omega)
        refine AW_run 80 rfl ?_
        exact inn
    have lp := lp (I 63 0).toNat 0 (by omega) (by omega)
    refine AW_run 80 rfl ?_
    refine AW_iald rfl rfl ⟨by omega, by omega⟩ (by decide) ?_
    exact AW_lk lp ⟨rfl, rfl, rfl, rfl, trivial⟩
  refine AW_run 80 rfl ?_
  rw [sk_uI_id ht]
  refine AW_ifne rfl (fun g => ?_) (fun g => ?_) (by unfold sk_in; omega)
  · have k : I 59 59 = 1 := by omega
    have h1 := h1 k
    have h2 := h2 k
    obtain ⟨-, -, -, -, z5, -⟩ := hz k
    have sums := sums k
    have came := came k
    clear hz
    refine AW_run 80 rfl ?_
    by_cases hw : 0 ≤ w ∧ w ≤ 4
    · rcases (show w = 0 ∨ w = 1 ∨ w = 2 ∨ w = 3 ∨ w = 4 by omega) with e | e | e | e | e
      · refine AW_tin 0 rfl (by omega) rfl hwi ?_
        have h2 := h2 _ (Or.inl ⟨e, rfl⟩)
        refine AW_run 80 rfl ?_
        refine AW_zald rfl rfl ⟨by omega, by omega⟩ (by decide) ?_
        refine AW_ifne rfl (fun g2 => ?_) (fun g2 => ?_) (by unfold sk_in; omega)
        · rw [if_pos (Or.inl (z5.1.resolve_left g2))] at h2
          refine AW_run 80 rfl ?_
          exact AW_iret rfl rfl h2
        · refine AW_run 80 rfl ?_
          refine AW_zald rfl rfl ⟨by omega, by omega⟩ (by decide) ?_
          refine AW_ifeq rfl (fun g3 => ?_) (fun g3 => ?_) (by unfold sk_in; omega)
          · rw [if_neg (by omega)] at h2
            refine AW_run 80 rfl ?_
            exact AW_iret rfl rfl h2
          · rw [if_pos (Or.inr (z5.2.1.resolve_left g3))] at h2
            refine AW_run 80 rfl ?_
            exact AW_iret rfl rfl h2
      · refine AW_tin 1 rfl (by omega) rfl hwi ?_
        have h2 := h2 _ (Or.inr (Or.inl ⟨e, rfl⟩))
        refine AW_run 80 rfl ?_
        refine AW_zald rfl rfl ⟨by omega, by omega⟩ (by decide) ?_
        refine AW_ifeq rfl (fun g2 => ?_) (fun g2 => ?_) (by unfold sk_in; omega)
        · rw [g2] at h2
          refine AW_run 80 rfl ?_
          exact AW_iret rfl rfl h2
        · rw [z5.2.2.resolve_left g2] at h2
          refine AW_run 80 rfl ?_
          exact AW_iret rfl rfl h2
      · refine AW_tin 2 rfl (by omega) rfl hwi ?_
        exact sums 98 (Or.inl ⟨e, rfl⟩)
      · refine AW_tin 3 rfl (by omega) rfl hwi ?_
        exact sums 99 (Or.inr ⟨e, rfl⟩)
      · refine AW_tin 4 rfl (by omega) rfl hwi ?_
        exact came e
    · have h1 := h1 hw
      refine AW_tout rfl (by omega) hwi ?_
      refine AW_run 80 rfl ?_
      exact AW_iret rfl rfl h1
  · have h0 := h0 g
    refine AW_run 80 rfl ?_
    exact AW_iret rfl rfl h0
theorem c_M_isAhead (a b : Int) (ha : 0 ≤ a ∧ a < 300) (hb : 0 ≤ b ∧ b < 300) (A B : sk_Tb) (hA8 : sk_t8 A) (hB8 : sk_t8 B) (hA : sg_ht (I 92) (80 * a) A) (hB : sg_ht (I 92) (80 * b) B) (hT : sk_lx A B 80 → Q (some (vi 1)) sk_G (I, L, sk_J cu sp io rp tp fp)) (hF : ¬ sk_lx A B 80 → Q (some (vi 0)) sk_G (I, L, sk_J cu sp io rp tp fp)) : AW l E d 0 0 mX10_isAhead 0 [some (vr 59), some (vi a), some (vi b), none, none, none] [] sk_G (I, L, sk_J cu sp io rp tp fp) Q := by
  have lp : ∀ (k : Nat) (r : Nat), r + k = 80 → (∀ j : Nat, j < r → A j = B j) → AW l E d 0 0 mX10_isAhead 5 [some (vr 59), some (vi a), some (vi b), some (vi r), none, none] [vi 80, vi r] sk_G (I, L, sk_J cu sp io rp tp fp) Q := by
    intro k
    induction k with
    | zero =>
      intro r hr he
      have : r = 80 := by omega
      subst this
      have hF := hF (fun ⟨j, j1, j2, _⟩ => by have := he j j1; omega)
      refine AW_icge rfl (fun g => ?_) (fun g => by omega)
      refine AW_run 80 rfl ?_
      exact AW_zret rfl rfl (Or.inl rfl) hF
    | succ k ih =>
      intro r hr he
      have eA := hA r (by omega) (by omega)
      have eB := hB r (by omega) (by omega)
      have bA := hA8 r (by omega) (by omega)
      have bB := hB8 r (by omega) (by omega)
      have i1 : 0 ≤ 80 * a + (r : Int) ∧ 80 * a + (r : Int) < 24000 := by omega
      have i2 : 0 ≤ 80 * b + (r : Int) ∧ 80 * b + (r : Int) < 24000 := by omega
      refine AW_icge rfl (fun g => by omega) (fun g => ?_) (by unfold sk_in; omega)
      refine AW_run 80 rfl ?_
      refine AW_iald rfl rfl i1 (by decide) ?_
      rw [eA]
      refine AW_run 80 rfl ?_
      refine AW_iald rfl rfl i2 (by decide) ?_
      rw [eB]
      refine AW_run 80 rfl ?_
      refine AW_iceq rfl (fun g2 => ?_) (fun g2 => ?_) (by unfold sk_in; omega) (by unfold sk_in; omega)
      · have ih2 := ih (r + 1) (by omega) (fun j hj => by
          by_cases e : j = r
          · subst e; exact g2
          · exact he j (by omega))
        rw [show ((r + 1 : Nat) : Int) = (r : Int) + 1 by omega] at ih2
        refine AW_run 80 rfl ?_
        exact AW_lk ih2 ⟨rfl, rfl, rfl, rfl, trivial⟩
      · refine AW_run 80 rfl ?_
        refine AW_icge rfl (fun g3 => ?_) (fun g3 => ?_) (by unfold sk_in; omega) (by unfold sk_in; omega)
        · have hF := hF (fun ⟨j, j1, j2, j3⟩ => by
            by_cases h : j < r
            · have := he j h; omega
            · by_cases h' : j = r
              · subst h'; omega
              · exact g2 (j3 r (by omega)))
          refine AW_run 80 rfl ?_
          exact AW_zret rfl rfl (Or.inl rfl) hF
        · have hT := hT ⟨r, by omega, by omega, he⟩
          refine AW_run 80 rfl ?_
          exact AW_zret rfl rfl (Or.inr rfl) hT
  have lp := lp 80 0 (by omega) (fun j hj => by omega)
  refine AW_run 80 rfl ?_
  exact lp
theorem c_M_pair (m k ki le : Int) (hmi : sk_in m) (hki : sk_in k) (hii : sk_in ki) (hli : sk_in le) (ht : I 59 0 = 0) (h63 : 0 ≤ I 63 0 ∧ I 63 0 ≤ 20) (hk : I 59 59 = 0 ∨ I 59 59 = 1) (h0 : I 59 59 = 0 → Q (some (vi (-4))) sk_G (I, L, sk_J cu sp io rp tp fp)) (h1 : I 59 59 = 1 → ¬ ((0 ≤ m ∧ m < I 63 0) ∧ 0 ≤ k ∧ (0 ≤ ki ∧ ki < 8) ∧ 0 ≤ le ∧ le < 10) → Q (some (vi (-3))) sk_G (I, L, sk_J cu sp io rp tp fp)) (hs : I 59 59 = 1 → sg_st p C I TM ∧ C p 9 ≤ 20) (h2 : I 59 59 = 1 → ((0 ≤ m ∧ m < I 63 0) ∧ 0 ≤ k ∧ (0 ≤ ki ∧ ki < 8) ∧ 0 ≤ le ∧ le < 10) → (∀ a, 0 ≤ a → a < I 59 60 → I 91 a = m → sk_sum (sh_A I TM m (TM a)) (I 59 60).toNat = k → Q (some (vi (TM a (10 * ki + le)))) sk_G (I, L, sk_J cu sp io rp tp fp)) ∧ ((∀ a, 0 ≤ a → a < I 59 60 → ¬ (I 91 a = m ∧ sk_sum (sh_A I TM m (TM a)) (I 59 60).toNat = k)) → Q (some (vi (-1))) sk_G (I, L, sk_J cu sp io rp tp fp))) : AW l E (d + 1) 0 0 mX10_pair 0 [some (vr 59), some (vi m), some (vi k), some (vi ki), some (vi le), none, none, none] [] sk_G (I, L, sk_J cu sp io rp tp fp) Q := by
  have bad : I 59 59 = 1 → ¬ ((0 ≤ m ∧ m < I 63 0) ∧ 0 ≤ k ∧ (0 ≤ ki ∧ ki < 8) ∧ 0 ≤ le ∧ le < 10) → AW l E (d + 1) 0 0 mX10_pair 56 [some (vr 59), some (vi m), some (vi k), some (vi ki), some (vi le), none, none, none] [] sk_G (I, L, sk_J cu sp io rp tp fp) Q := by
    intro z y
    have h1 := h1 z y
    refine AW_run 80 rfl ?_
    exact AW_iret rfl rfl h1
  have good : I 59 59 = 1 → ((0 ≤ m ∧ m < I 63 0) ∧ 0 ≤ k ∧ (0 ≤ ki ∧ ki < 8) ∧ 0 ≤ le ∧ le < 10) → AW l E (d + 1) 0 0 mX10_pair 59 [some (vr 59), some (vi m), some (vi k), some (vi ki), some (vi le), none, none, none] [] sk_G (I, L, sk_J cu sp io rp tp fp) Q := by
    intro z y
    obtain ⟨⟨st, -, -⟩, c9⟩ := hs z
    obtain ⟨q1, q0⟩ := h2 z y
    have n0 := st.1
    obtain ⟨n, hn⟩ := Int.eq_ofNat_of_zero_le n0.1
    have lp : ∀ (j : Nat) (a : Int), 0 ≤ a → a + j = I 59 60 → (∀ a', 0 ≤ a' → a' < a → ¬ (I 91 a' = m ∧ sk_sum (sh_A I TM m (TM a')) (I 59 60).toNat = k)) → AW l E (d + 1) 0 0 mX10_pair 68 [some (vr 59), some (vi m), some (vi k), some (vi ki), some (vi le), some (vi a), none, none] [vi (I 59 60), vi a] sk_G (I, L, sk_J cu sp io rp tp fp) Q := by
      intro j
      induction j with
      | zero =>
        intro a a0 hj hno
        have q0 := q0 (fun a' c e => hno a' c (by omega))
        refine AW_icge rfl (fun g => ?_) (fun g => by omega) (by unfold sk_in; omega) (by unfold sk_in; omega)
        refine AW_run 80 rfl ?_
        exact AW_iret rfl rfl q0
      | succ j ih =>
        intro a a0 hj hno
        obtain ⟨pa1, pa2, -, pa4, -⟩ := st.2 a a0 (by omega)
        have nx : ¬ (I 91 a = m ∧ sk_sum (sh_A I TM m (TM a)) (I 59 60).toNat = k) → _ := fun z => ih (a + 1) (by omega) (by omega) (fun a' c e => by
          by_cases h : a' = a
          · subst h; exact z
          · exact hno a' c (by omega))
        have q1 := q1 a a0 (by omega)
        clear ih q0
        have inn : ∀ (i : Nat) (q : Int), 0 ≤ q → q + i = I 59 60 → AW l E (d + 1) 0 0 mX10_pair 83 [some (vr 59), some (vi m), some (vi k), some (vi ki), some (vi le), some (vi a), some (vi (sk_sum (sh_A I TM m (TM a)) q.toNat)), some (vi q)] [vi (I 59 60), vi q] sk_G (I, L, sk_J cu sp io rp tp fp) Q := by
          intro i
          induction i with
          | zero =>
            intro q q0 hi
            have : q = I 59 60 := by omega
            rw [this]
            have sb := sk_sum_bd (f := sh_A I TM m (TM a)) (a := 0) (b := 1) n (fun i _ _ => sh_i_b _)
            rw [hn, Int.toNat_natCast] at q1 nx
            rw [hn, Int.toNat_natCast]
            have e92 := pa4 (10 * ki + le) (by omega) (by omega)
            have hn' := hn
            generalize sk_sum (sh_A I TM m (TM a)) n = S at *
            refine AW_icge rfl (fun g => ?_) (fun g => by omega) (by unfold sk_in; omega) (by unfold sk_in; omega)
            refine AW_run 80 rfl ?_
            refine AW_iald rfl rfl ⟨by omega, by omega⟩ (by decide) ?_
            refine AW_run 80 rfl ?_
            refine AW_icne rfl (fun g2 => ?_) (fun g2 => ?_) (by unfold sk_in; omega) hmi
            · have nx := nx (fun z => g2 z.1)
              rw [← hn'] at nx
              refine AW_run 80 rfl ?_
              exact AW_lk nx ⟨rfl, rfl, rfl, rfl, rfl, rfl, trivial⟩
            · refine AW_run 80 rfl ?_
              refine AW_icne rfl (fun g3 => ?_) (fun g3 => ?_) (by unfold sk_in; omega) hki
              · have nx := nx (fun z => g3 z.2)
                rw [← hn'] at nx
                refine AW_run 80 rfl ?_
                exact AW_lk nx ⟨rfl, rfl, rfl, rfl, rfl, rfl, trivial⟩
              · have q1 := q1 g2 g3
                rw [← e92, show 80 * a + (10 * ki + le) = 80 * a + 10 * ki + le by omega] at q1
                have ib : 0 ≤ 80 * a + 10 * ki + le ∧ 80 * a + 10 * ki + le < 24000 := by omega
                refine AW_run 80 rfl ?_
                refine AW_iald rfl rfl ib (by decide) ?_
                refine AW_run 80 rfl ?_
                exact AW_iret rfl rfl q1
          | succ i ihi =>
            intro q q0 hi
            obtain ⟨pq1, pq2, -, pq4, -⟩ := st.2 q q0 (by omega)
            have ih2 := ihi (q + 1) (by omega) (by omega)
            rw [sk_sum_s _ q0] at ih2
            clear ihi nx q1
            have n1 : (I 91 q = m ∧ sk_lx (TM q) (TM a) 80) → _ := fun z => by
              have := ih2
              rw [show sh_A I TM m (TM a) q = 1 from sh_i_t z] at this
              exact this
            have n0 : ¬ (I 91 q = m ∧ sk_lx (TM q) (TM a) 80) → _ := fun z => by
              have := ih2
              rw [show sh_A I TM m (TM a) q = 0 from sh_i_f z] at this
              exact this
            clear ih2
            refine AW_icge rfl (fun g => by omega) (fun g => ?_) (by unfold sk_in; omega) (by unfold sk_in; omega)
            refine AW_run 80 rfl ?_
            refine AW_iald rfl rfl ⟨by omega, by omega⟩ (by decide) ?_
            refine AW_run 80 rfl ?_
            refine AW_icne rfl (fun g2 => ?_) (fun g2 => ?_) (by unfold sk_in; omega) hmi
            · have n0 := n0 (fun z => g2 z.1)
              refine AW_run 80 rfl ?_
              exact n0
            · refine AW_run 80 rfl ?_
              refine AW_cV (M' := mX10_isAhead) (d' := d) rfl kkX10_367 lcX10_isAhead rfl rfl rfl rfl rfl rfl (Nat.le_refl _) ?_
              refine c_M_isAhead q a (by omega) (by omega) (TM q) (TM a) pq2 pa2 pq4 pa4 (fun u => ?_) (fun u => ?_)
              · have n1 := n1 ⟨g2, u⟩
                refine AW_run 80 rfl ?_
                first | refine AW_e1 rfl ?_ | refine AW_e0 rfl ?_ | refine AW_n1 rfl ?_ | refine AW_n0 rfl ?_
                refine AW_run 80 rfl ?_
                exact n1
              · have n0 := n0 (fun z => u z.2)
                refine AW_run 80 rfl ?_
                first | refine AW_e1 rfl ?_ | refine AW_e0 rfl ?_ | refine AW_n1 rfl ?_ | refine AW_n0 rfl ?_
                refine AW_run 80 rfl ?_
                exact n0
        have inn := inn (I 59 60).toNat 0 (by omega) (by omega)
        refine AW_icge rfl (fun g => by omega) (fun g => ?_) (by unfold sk_in; omega) (by unfold sk_in; omega)
        refine AW_run 80 rfl ?_
        exact inn
    have lp := lp (I 59 60).toNat 0 (by omega) (by omega) (fun a' c e => by omega)
    refine AW_run 80 rfl ?_
    exact AW_lk lp ⟨rfl, rfl, rfl, rfl, rfl, rfl, trivial⟩
  clear h1 h2 hs
  refine AW_run 80 rfl ?_
  rw [sk_uI_id ht]
  refine AW_ifne rfl (fun g => ?_) (fun g => ?_) (by unfold sk_in; omega)
  · have bad := bad (by omega)
    have good := good (by omega)
    refine AW_run 80 rfl ?_
    refine AW_iald rfl rfl ⟨by omega, by omega⟩ (by decide) ?_
    refine AW_run 80 rfl ?_
    refine AW_in rfl kkX10_177 rfl (by omega) (fun w1 w2 => ?_) (fun w3 => ?_)
    · refine AW_run 80 rfl ?_
      first | refine AW_e1 rfl ?_ | refine AW_e0 rfl ?_ | refine AW_n1 rfl ?_ | refine AW_n0 rfl ?_
      refine AW_run 80 rfl ?_
      refine AW_iflt rfl (fun g2 => ?_) (fun g2 => ?_) hki
      · exact bad (fun z => by omega)
      · refine AW_run 80 rfl ?_
        refine AW_in rfl kkX10_177 rfl (by omega) (fun y1 y2 => ?_) (fun y3 => ?_)
        · refine AW_run 80 rfl ?_
          first | refine AW_e1 rfl ?_ | refine AW_e0 rfl ?_ | refine AW_n1 rfl ?_ | refine AW_n0 rfl ?_
          refine AW_run 80 rfl ?_
          refine AW_in rfl kkX10_177 rfl (by omega) (fun x1 x2 => ?_) (fun x3 => ?_)
          · have good := good ⟨⟨w1, by omega⟩, by omega, ⟨y1, by omega⟩, x1, by omega⟩
            refine AW_run 80 rfl ?_
            first | refine AW_e1 rfl ?_ | refine AW_e0 rfl ?_ | refine AW_n1 rfl ?_ | refine AW_n0 rfl ?_
            exact good
          · have bad := bad (fun z => x3 ⟨z.2.2.2.1, by omega⟩)
            refine AW_run 80 rfl ?_
            first | refine AW_e1 rfl ?_ | refine AW_e0 rfl ?_ | refine AW_n1 rfl ?_ | refine AW_n0 rfl ?_
            exact bad
        · have bad := bad (fun z => y3 ⟨z.2.2.1.1, by omega⟩)
          refine AW_run 80 rfl ?_
          first | refine AW_e1 rfl ?_ | refine AW_e0 rfl ?_ | refine AW_n1 rfl ?_ | refine AW_n0 rfl ?_
          exact bad
    · have bad := bad (fun z => w3 ⟨z.1.1, by omega⟩)
      refine AW_run 80 rfl ?_
      first | refine AW_e1 rfl ?_ | refine AW_e0 rfl ?_ | refine AW_n1 rfl ?_ | refine AW_n0 rfl ?_
      exact bad
  · have h0 := h0 g
    refine AW_run 80 rfl ?_
    exact AW_iret rfl rfl h0
end SKH2
