/-! ===== what a walk can, in bits; who calls, in bits ===== -/
/-- what a number of Foresight says: 1 END, 2 FAIL, 4 BACK -/
def sf_b (v x : Int) : Prop := (x = 1 ∧ v % 2 = 1) ∨ (x = 2 ∧ v / 2 % 2 = 1) ∨ (x = 4 ∧ v / 4 % 2 = 1)
theorem sf_or_t : ∀ a, a < 8 → ∀ b, b < 8 → (0 ≤ sk_or ((a : Nat) : Int) ((b : Nat) : Int) ∧ sk_or ((a : Nat) : Int) ((b : Nat) : Int) ≤ 7) ∧ (sk_or ((a : Nat) : Int) ((b : Nat) : Int) % 2 = 1 ↔ ((a : Int) % 2 = 1 ∨ (b : Int) % 2 = 1)) ∧ (sk_or ((a : Nat) : Int) ((b : Nat) : Int) / 2 % 2 = 1 ↔ ((a : Int) / 2 % 2 = 1 ∨ (b : Int) / 2 % 2 = 1)) ∧ (sk_or ((a : Nat) : Int) ((b : Nat) : Int) / 4 % 2 = 1 ↔ ((a : Int) / 4 % 2 = 1 ∨ (b : Int) / 4 % 2 = 1)) := by decide +kernel
theorem sf_or_b {a b : Int} (ha : 0 ≤ a ∧ a ≤ 7) (hb : 0 ≤ b ∧ b ≤ 7) : (0 ≤ sk_or a b ∧ sk_or a b ≤ 7) ∧ ∀ x, sf_b (sk_or a b) x ↔ (sf_b a x ∨ sf_b b x) := by
  obtain ⟨n, rfl⟩ := Int.eq_ofNat_of_zero_le ha.1
  obtain ⟨k, rfl⟩ := Int.eq_ofNat_of_zero_le hb.1
  obtain ⟨t1, t2, t3, t4⟩ := sf_or_t n (by omega) k (by omega)
  refine ⟨t1, fun x => ?_⟩
  unfold sf_b
  rw [t2, t3, t4]
  constructor
  · rintro (⟨h, g | g⟩ | ⟨h, g | g⟩ | ⟨h, g | g⟩)
    · exact Or.inl (Or.inl ⟨h, g⟩)
    · exact Or.inr (Or.inl ⟨h, g⟩)
    · exact Or.inl (Or.inr (Or.inl ⟨h, g⟩))
    · exact Or.inr (Or.inr (Or.inl ⟨h, g⟩))
    · exact Or.inl (Or.inr (Or.inr ⟨h, g⟩))
    · exact Or.inr (Or.inr (Or.inr ⟨h, g⟩))
  · rintro ((⟨h, g⟩ | ⟨h, g⟩ | ⟨h, g⟩) | (⟨h, g⟩ | ⟨h, g⟩ | ⟨h, g⟩))
    · exact Or.inl ⟨h, Or.inl g⟩
    · exact Or.inr (Or.inl ⟨h, Or.inl g⟩)
    · exact Or.inr (Or.inr ⟨h, Or.inl g⟩)
    · exact Or.inl ⟨h, Or.inr g⟩
    · exact Or.inr (Or.inl ⟨h, Or.inr g⟩)
    · exact Or.inr (Or.inr ⟨h, Or.inr g⟩)
theorem sf_and_t : ∀ a, a < 8 → (sk_and ((a : Nat) : Int) (-2) = (a : Int) - (a : Int) % 2) ∧ (sk_and ((a : Nat) : Int) (-3) = (a : Int) - 2 * ((a : Int) / 2 % 2)) ∧ (sk_and ((a : Nat) : Int) (-5) = (a : Int) - 4 * ((a : Int) / 4 % 2)) ∧ (sk_and ((a : Nat) : Int) 1 = (a : Int) % 2) ∧ (sk_and ((a : Nat) : Int) 2 = 2 * ((a : Int) / 2 % 2)) ∧ (sk_and ((a : Nat) : Int) 4 = 4 * ((a : Int) / 4 % 2)) ∧ (sk_and ((a : Nat) : Int) 5 = (a : Int) % 2 + 4 * ((a : Int) / 4 % 2)) := by decide +kernel
theorem sf_and_b {a : Int} (ha : 0 ≤ a ∧ a ≤ 7) : (sk_and a (-2) = a - a % 2) ∧ (sk_and a (-3) = a - 2 * (a / 2 % 2)) ∧ (sk_and a (-5) = a - 4 * (a / 4 % 2)) ∧ (sk_and a 1 = a % 2) ∧ (sk_and a 2 = 2 * (a / 2 % 2)) ∧ (sk_and a 4 = 4 * (a / 4 % 2)) ∧ (sk_and a 5 = a % 2 + 4 * (a / 4 % 2)) := by
  obtain ⟨n, rfl⟩ := Int.eq_ofNat_of_zero_le ha.1
  exact sf_and_t n (by omega)
theorem sf_cl1 {a : Int} (ha : 0 ≤ a ∧ a ≤ 7) : (0 ≤ sk_and a (-2) ∧ sk_and a (-2) ≤ 7) ∧ ∀ x, sf_b (sk_and a (-2)) x ↔ (x ≠ 1 ∧ sf_b a x) := by
  rw [(sf_and_b ha).1]
  refine ⟨by omega, fun x => ?_⟩
  unfold sf_b
  omega
theorem sf_cl2 {a : Int} (ha : 0 ≤ a ∧ a ≤ 7) : (0 ≤ sk_and a (-3) ∧ sk_and a (-3) ≤ 7) ∧ ∀ x, sf_b (sk_and a (-3)) x ↔ (x ≠ 2 ∧ sf_b a x) := by
  rw [(sf_and_b ha).2.1]
  refine ⟨by omega, fun x => ?_⟩
  unfold sf_b
  omega
theorem sf_t1 {a : Int} (ha : 0 ≤ a ∧ a ≤ 7) : (sk_and a 1 = 0 ∨ sk_and a 1 = 1) ∧ (sk_and a 1 = 0 ↔ ¬ sf_b a 1) := by
  rw [(sf_and_b ha).2.2.2.1]
  unfold sf_b
  omega
theorem sf_t2 {a : Int} (ha : 0 ≤ a ∧ a ≤ 7) : (0 ≤ sk_and a 2 ∧ sk_and a 2 ≤ 2) ∧ (sk_and a 2 = 0 ↔ ¬ sf_b a 2) ∧ ∀ x, sf_b (sk_and a 2) x ↔ (x = 2 ∧ sf_b a 2) := by
  rw [(sf_and_b ha).2.2.2.2.1]
  unfold sf_b
  refine ⟨by omega, by omega, fun x => by omega⟩
theorem sf_t5 {a : Int} (ha : 0 ≤ a ∧ a ≤ 7) : (0 ≤ sk_and a 5 ∧ sk_and a 5 ≤ 7) ∧ (sk_and a 5 = 0 ↔ ¬ (sf_b a 1 ∨ sf_b a 4)) := by
  rw [(sf_and_b ha).2.2.2.2.2.2]
  unfold sf_b
  omega
theorem sf_b_x {v x : Int} (h : sf_b v x) : x = 1 ∨ x = 2 ∨ x = 4 := by
  unfold sf_b at h
  omega
theorem sf_b_1 (x : Int) : sf_b 1 x ↔ x = 1 := by unfold sf_b; omega
theorem sf_b_2 (x : Int) : sf_b 2 x ↔ x = 2 := by unfold sf_b; omega
theorem sf_b_4 (x : Int) : sf_b 4 x ↔ x = 4 := by unfold sf_b; omega
theorem sf_b_0 (x : Int) : sf_b 0 x ↔ False := ⟨fun h => by unfold sf_b at h; omega, False.elim⟩
/-! callers -/
def sf_cb (L : sk_SL) (q a : Int) : Prop := (L 53 (q * 5 + a / 64)).toBitVec.getLsbD (a % 64).toNat = true
theorem sf_sh_t : ∀ a, a < 300 → sk_shr ((a : Nat) : Int) 6 = ((a / 64 : Nat) : Int) ∧ sk_and ((a : Nat) : Int) 63 = ((a % 64 : Nat) : Int) := by decide +kernel
theorem sf_sh {a : Int} (h : 0 ≤ a ∧ a < 300) : sk_shr a 6 = a / 64 ∧ sk_and a 63 = a % 64 := by
  obtain ⟨n, rfl⟩ := Int.eq_ofNat_of_zero_le h.1
  have := sf_sh_t n (by omega)
  omega
theorem sf_one_t : ∀ k, k < 64 → ∀ i, i < 64 → (sk_lshl 1 ((k : Nat) : Int)).toBitVec.getLsbD i = decide (i = k) := by decide +kernel
theorem sf_us (x : Int64) (k : Nat) (hk : k < 64) : (sk_lushr x (k : Int)).toBitVec = x.toBitVec >>> k := by
  rcases (show k = 0 ∨ k = 1 ∨ k = 2 ∨ k = 3 ∨ k = 4 ∨ k = 5 ∨ k = 6 ∨ k = 7 ∨ k = 8 ∨ k = 9 ∨ k = 10 ∨ k = 11 ∨ k = 12 ∨ k = 13 ∨ k = 14 ∨ k = 15 ∨ k = 16 ∨ k = 17 ∨ k = 18 ∨ k = 19 ∨ k = 20 ∨ k = 21 ∨ k = 22 ∨ k = 23 ∨ k = 24 ∨ k = 25 ∨ k = 26 ∨ k = 27 ∨ k = 28 ∨ k = 29 ∨ k = 30 ∨ k = 31 ∨ k = 32 ∨ k = 33 ∨ k = 34 ∨ k = 35 ∨ k = 36 ∨ k = 37 ∨ k = 38 ∨ k = 39 ∨ k = 40 ∨ k = 41 ∨ k = 42 ∨ k = 43 ∨ k = 44 ∨ k = 45 ∨ k = 46 ∨ k = 47 ∨ k = 48 ∨ k = 49 ∨ k = 50 ∨ k = 51 ∨ k = 52 ∨ k = 53 ∨ k = 54 ∨ k = 55 ∨ k = 56 ∨ k = 57 ∨ k = 58 ∨ k = 59 ∨ k = 60 ∨ k = 61 ∨ k = 62 ∨ k = 63 by omega) with rfl | rfl | rfl | rfl | rfl | rfl | rfl | rfl | rfl | rfl | rfl | rfl | rfl | rfl | rfl | rfl | rfl | rfl | rfl | rfl | rfl | rfl | rfl | rfl | rfl | rfl | rfl | rfl | rfl | rfl | rfl | rfl | rfl | rfl | rfl | rfl | rfl | rfl | rfl | rfl | rfl | rfl | rfl | rfl | rfl | rfl | rfl | rfl | rfl | rfl | rfl | rfl | rfl | rfl | rfl | rfl | rfl | rfl | rfl | rfl | rfl | rfl | rfl | rfl <;> rfl
theorem sf_1_bit : ∀ i, i < 64 → (1 : Int64).toBitVec.getLsbD i = decide (i = 0) := by decide +kernel
theorem sf_tst (x : Int64) {k : Int} (hk : 0 ≤ k ∧ k < 64) : sk_lushr x k &&& 1 = 1 ↔ x.toBitVec.getLsbD k.toNat = true := by
  obtain ⟨n, rfl⟩ := Int.eq_ofNat_of_zero_le hk.1
  have b0 : ∀ i, i < 64 → (sk_lushr x (n : Int) &&& 1).toBitVec.getLsbD i = (x.toBitVec.getLsbD n && decide (i = 0)) := by
    intro i hi
    rw [Int64.toBitVec_and, BitVec.getLsbD_and, sf_us x n (by omega), BitVec.getLsbD_ushiftRight, sf_1_bit i hi]
    by_cases e : i = 0
    · subst e; rfl
    · simp [e]
  rw [Int.toNat_natCast]
  constructor
  · intro h
    have := b0 0 (by omega)
    rw [h, sf_1_bit 0 (by omega)] at this
    simpa using this.symm
  · intro h
    apply sk_lg_eq
    intro i hi
    rw [b0 i hi, h, sf_1_bit i hi, Bool.true_and]
/-- a caller's bit is set -/
theorem sf_cb_set {L : sk_SL} {q a : Int} (hq : 0 ≤ q ∧ q < 300) (ha : 0 ≤ a ∧ a < 300) : sf_cb (sk_uL L 53 (q * 5 + a / 64) (L 53 (q * 5 + a / 64) ||| sk_lshl 1 (a % 64))) q a ∧ ∀ q' a', 0 ≤ a' ∧ a' < 300 → sf_cb L q' a' → sf_cb (sk_uL L 53 (q * 5 + a / 64) (L 53 (q * 5 + a / 64) ||| sk_lshl 1 (a % 64))) q' a' := by
  have ob : ∀ i, i < 64 → (sk_lshl 1 (a % 64)).toBitVec.getLsbD i = decide (i = (a % 64).toNat) := fun i hi => by
    have := sf_one_t (a % 64).toNat (by omega) i hi
    rw [show (((a % 64).toNat : Nat) : Int) = a % 64 by omega] at this
    exact this
  constructor
  · unfold sf_cb
    rw [sk_uL_s, sk_upL_s, Int64.toBitVec_or, BitVec.getLsbD_or, ob _ (by omega)]
    simp
  · intro q' a' ha' h
    unfold sf_cb at h ⊢
    rw [sk_uL_s]
    by_cases e : q' * 5 + a' / 64 = q * 5 + a / 64
    · rw [e] at h ⊢
      rw [sk_upL_s, Int64.toBitVec_or, BitVec.getLsbD_or, h, Bool.true_or]
    · rw [sk_upL_o e]
      exact h
