/-! ===== ten numbers below 16 in a long, the first one highest ===== -/
def sk_hv (T : Int → Int) : Nat → Nat
  | 0 => 0
  | n + 1 => 2 ^ 4 * sk_hv T n + (T n + 1).toNat
/-- a row of refusers -/
def sk_t1 (T : Int → Int) : Prop := ∀ l, 0 ≤ l → l < 10 → -1 ≤ T l ∧ T l ≤ 14
def sk_lg (T : Int → Int) : Int64 := Int64.ofNat (sk_hv T 10)
theorem sk_hv_b {T : Int → Int} : ∀ n : Nat, (∀ l, 0 ≤ l → l < n → -1 ≤ T l ∧ T l ≤ 14) → sk_hv T n < 2 ^ (4 * n)
  | 0, _ => by show 0 < 1; omega
  | n + 1, h => by
    have ih := sk_hv_b n (fun l a b => h l a (by omega))
    have hn := h n (by omega) (by omega)
    unfold sk_hv
    have e : 2 ^ (4 * (n + 1)) = 2 ^ 4 * 2 ^ (4 * n) := by rw [← Nat.pow_add]; congr 1; omega
    rw [e]
    omega
theorem sk_hv_t {T : Int → Int} : ∀ (n i : Nat), (∀ l, 0 ≤ l → l < n → -1 ≤ T l ∧ T l ≤ 14) → (sk_hv T n).testBit i = if i < 4 * n then (T ((n - 1 - i / 4 : Nat) : Int) + 1).toNat.testBit (i % 4) else false
  | 0, i, _ => by
    rw [if_neg (by omega)]
    exact Nat.zero_testBit i
  | n + 1, i, h => by
    have hn := h n (by omega) (by omega)
    have ih := sk_hv_t n (i - 4) (fun l a b => h l a (by omega))
    unfold sk_hv
    rw [Nat.testBit_two_pow_mul_add _ (by show (T n + 1).toNat < 16; omega)]
    by_cases h4 : i < 4
    · rw [if_pos h4, if_pos (by omega)]
      have e1 : n + 1 - 1 - i / 4 = n := by omega
      have e2 : i % 4 = i := by omega
      rw [e1, e2]
    · rw [if_neg h4, ih]
      by_cases h5 : i < 4 * (n + 1)
      · rw [if_pos h5, if_pos (by omega)]
        have e1 : n + 1 - 1 - i / 4 = n - 1 - (i - 4) / 4 := by omega
        have e2 : i % 4 = (i - 4) % 4 := by omega
        rw [e1, e2]
      · rw [if_neg h5, if_neg (by omega)]
theorem sk_hv_lt {T : Int → Int} (h : sk_t1 T) : sk_hv T 10 < 2 ^ 40 := sk_hv_b 10 (fun l a b => h l (by omega) (by omega))
theorem sk_lg_bit {T : Int → Int} (h : sk_t1 T) (i : Nat) (hi : i < 64) : (sk_lg T).toBitVec.getLsbD i = if i < 40 then (T ((9 - i / 4 : Nat) : Int) + 1).toNat.testBit (i % 4) else false := by
  unfold sk_lg
  show (BitVec.ofNat 64 (sk_hv T 10)).getLsbD i = _
  rw [BitVec.getLsbD_ofNat, sk_hv_t 10 i (fun l a b => h l (by omega) (by omega))]
  simp only [hi, decide_true, Bool.true_and]
/-- bits tell a long -/
theorem sk_lg_eq {x y : Int64} (h : ∀ i, i < 64 → x.toBitVec.getLsbD i = y.toBitVec.getLsbD i) : x = y := by
  apply Int64.toBitVec_inj.mp
  apply BitVec.eq_of_getLsbD_eq
  intro i hi
  exact h i hi
def sk_one : Int64 := 73300775185
def sk_all : Int64 := 1099511627775
theorem sk_one_bit : ∀ k, k < 9 → ∀ i, i < 64 → (sk_i2l ((k : Nat) : Int) * sk_one).toBitVec.getLsbD i = if i < 40 then k.testBit (i % 4) else false := by decide +kernel
theorem sk_m1_bit : ∀ i, i < 64 → (-1 : Int64).toBitVec.getLsbD i = true := by decide +kernel
theorem sk_all_bit : ∀ i, i < 64 → sk_all.toBitVec.getLsbD i = decide (i < 40) := by decide +kernel
/-- the levels above one -/
def sk_la (v : Int) : Int64 := sk_lshl 1 (4 * (9 - v)) - 1
theorem sk_la_bit0 : ∀ k, k < 11 → ∀ i, i < 64 → (sk_la (((k : Nat) : Int) - 1)).toBitVec.getLsbD i = decide (i < 4 * (10 - k)) := by decide +kernel
theorem sk_la_bit {v : Int} (h : -1 ≤ v ∧ v ≤ 9) (i : Nat) (hi : i < 64) : (sk_la v).toBitVec.getLsbD i = decide (v < ((9 - i / 4 : Nat) : Int) ∧ i < 40) := by
  have := sk_la_bit0 (v + 1).toNat (by omega) i hi
  rw [show (((v + 1).toNat : Nat) : Int) - 1 = v by omega] at this
  rw [this]
  apply decide_eq_decide.mpr
  constructor
  · intro z; omega
  · intro z; omega
/-- a mask of whole levels -/
def sk_mk (S : Int → Bool) (x : Int64) : Prop := ∀ i, i < 64 → x.toBitVec.getLsbD i = (decide (i < 40) && S ((9 - i / 4 : Nat) : Int))
theorem sk_mk_la {v : Int} (h : -1 ≤ v ∧ v ≤ 9) : sk_mk (fun l => decide (v < l)) (sk_la v) := by
  intro i hi
  rw [sk_la_bit h i hi, Bool.decide_and, Bool.and_comm]
theorem sk_mk_all : sk_mk (fun _ => true) sk_all := by
  intro i hi
  rw [sk_all_bit i hi, Bool.and_true]
theorem sk_mk_not {S : Int → Bool} {x : Int64} (h : sk_mk S x) : sk_mk (fun l => !S l) (sk_all &&& (x ^^^ (-1))) := by
  intro i hi
  rw [Int64.toBitVec_and, Int64.toBitVec_xor, BitVec.getLsbD_and, BitVec.getLsbD_xor, sk_all_bit i hi, h i hi, sk_m1_bit i hi]
  cases decide (i < 40) <;> simp
theorem sk_mk_and {S R : Int → Bool} {x y : Int64} (h : sk_mk S x) (g : sk_mk R y) : sk_mk (fun l => S l && R l) (x &&& y) := by
  intro i hi
  rw [Int64.toBitVec_and, BitVec.getLsbD_and, h i hi, g i hi]
  cases decide (i < 40) <;> simp
/-- these levels are given to an owner -/
theorem sk_chg {T : Int → Int} {S : Int → Bool} {x : Int64} (hT : sk_t1 T) (hx : sk_mk S x) {o : Int} (ho : -1 ≤ o ∧ o ≤ 7) : (sk_lg T &&& (x ^^^ (-1))) ||| (sk_i2l (o + 1) * sk_one &&& x) = sk_lg (fun l => if S l = true then o else T l) := by
  have hT2 : sk_t1 (fun l => if S l = true then o else T l) := by
    intro l l0 l1
    have := hT l l0 l1
    dsimp only
    split <;> omega
  apply sk_lg_eq
  intro i hi
  have c := sk_one_bit (o + 1).toNat (by omega) i hi
  rw [show (((o + 1).toNat : Nat) : Int) = o + 1 by omega] at c
  rw [Int64.toBitVec_or, Int64.toBitVec_and, Int64.toBitVec_and, Int64.toBitVec_xor, BitVec.getLsbD_or, BitVec.getLsbD_and, BitVec.getLsbD_and, BitVec.getLsbD_xor, sk_m1_bit i hi, sk_lg_bit hT i hi, sk_lg_bit hT2 i hi, c, hx i hi]
  by_cases h40 : i < 40
  · simp only [if_pos h40, h40, decide_true, Bool.true_and]
    cases hS : S ((9 - i / 4 : Nat) : Int) with
    | true => simp
    | false => simp
  · rw [if_neg h40, if_neg h40, if_neg h40]
    simp
/-- the refuser at a level -/
theorem sk_us (x : Int64) (k : Nat) (hk : k < 10) : (sk_lushr x (4 * (9 - (k : Int)))).toBitVec = x.toBitVec >>> (4 * (9 - k)) := by
  rcases (show k = 0 ∨ k = 1 ∨ k = 2 ∨ k = 3 ∨ k = 4 ∨ k = 5 ∨ k = 6 ∨ k = 7 ∨ k = 8 ∨ k = 9 by omega) with rfl | rfl | rfl | rfl | rfl | rfl | rfl | rfl | rfl | rfl <;> rfl
theorem sk_15_bit : ∀ i, i < 64 → (15 : Int64).toBitVec.getLsbD i = decide (i < 4) := by decide +kernel
theorem sk_on_bit : ∀ k, k < 16 → ∀ i, i < 64 → (Int64.ofNat k).toBitVec.getLsbD i = (decide (i < 4) && k.testBit i) := by decide +kernel
theorem sk_on_int : ∀ k, k < 16 → (Int64.ofNat k).toInt32.toInt = (k : Int) := by decide +kernel
def sk_ra (x : Int64) (v : Int) : Int := (sk_lushr x (4 * (9 - v)) &&& 15).toInt32.toInt - 1
theorem sk_ra_lg {T : Int → Int} (hT : sk_t1 T) {v : Int} (hv : 0 ≤ v ∧ v < 10) : sk_ra (sk_lg T) v = T v := by
  have hTv := hT v hv.1 hv.2
  have e : sk_lushr (sk_lg T) (4 * (9 - v)) &&& 15 = Int64.ofNat (T v + 1).toNat := by
    obtain ⟨k, rfl⟩ := Int.eq_ofNat_of_zero_le hv.1
    apply sk_lg_eq
    intro i hi
    rw [Int64.toBitVec_and, BitVec.getLsbD_and, sk_us _ k (by omega), BitVec.getLsbD_ushiftRight, sk_15_bit i hi, sk_on_bit _ (by omega) i hi]
    by_cases h4 : i < 4
    · rw [sk_lg_bit hT _ (by omega), if_pos (by omega)]
      have e1 : 9 - (4 * (9 - k) + i) / 4 = k := by omega
      have e2 : (4 * (9 - k) + i) % 4 = i := by omega
      rw [e1, e2, Bool.and_comm]
    · simp [h4]
  unfold sk_ra
  rw [e, sk_on_int _ (by omega)]
  omega
/-! the order of the longs is that of the rows -/
theorem sk_lg_nat {T : Int → Int} (hT : sk_t1 T) : (sk_lg T).toInt = (sk_hv T 10 : Int) := by
  have := sk_hv_lt hT
  unfold sk_lg
  rw [Int64.toInt_ofNat_of_lt (by omega)]
/-- the first place where two rows differ has the smaller one there -/
def sk_lx (A B : Int → Int) (n : Nat) : Prop := ∃ k : Nat, k < n ∧ A k < B k ∧ ∀ j : Nat, j < k → A j = B j
theorem sk_hv_eq {A B : Int → Int} : ∀ n : Nat, (∀ l : Nat, l < n → -1 ≤ A l ∧ A l ≤ 14) → (∀ l : Nat, l < n → -1 ≤ B l ∧ B l ≤ 14) → (sk_hv A n = sk_hv B n ↔ ∀ j : Nat, j < n → A j = B j)
  | 0, _, _ => ⟨fun _ j hj => by omega, fun _ => rfl⟩
  | n + 1, hA, hB => by
    have ih := sk_hv_eq n (fun l h => hA l (by omega)) (fun l h => hB l (by omega))
    have a := hA n (by omega)
    have b := hB n (by omega)
    unfold sk_hv
    constructor
    · intro h j hj
      have e1 : (A n + 1).toNat = (B n + 1).toNat := by omega
      have e2 : sk_hv A n = sk_hv B n := by omega
      by_cases e : j = n
      · subst e; omega
      · exact ih.mp e2 j (by omega)
    · intro h
      have e1 := ih.mpr (fun j hj => h j (by omega))
      have e2 := h n (by omega)
      rw [e1, e2]
theorem sk_hv_lx {A B : Int → Int} : ∀ n : Nat, (∀ l : Nat, l < n → -1 ≤ A l ∧ A l ≤ 14) → (∀ l : Nat, l < n → -1 ≤ B l ∧ B l ≤ 14) → (sk_hv A n < sk_hv B n ↔ sk_lx A B n)
  | 0, _, _ => ⟨fun h => by unfold sk_hv at h; omega, fun ⟨k, h, _⟩ => by omega⟩
  | n + 1, hA, hB => by
    have ih := sk_hv_lx n (fun l h => hA l (by omega)) (fun l h => hB l (by omega))
    have ie := sk_hv_eq n (fun l h => hA l (by omega)) (fun l h => hB l (by omega))
    have a := hA n (by omega)
    have b := hB n (by omega)
    unfold sk_hv
    constructor
    · intro h
      by_cases h1 : sk_hv A n < sk_hv B n
      · obtain ⟨k, k1, k2, k3⟩ := ih.mp h1
        exact ⟨k, by omega, k2, k3⟩
      · have e1 : sk_hv A n = sk_hv B n := by omega
        exact ⟨n, by omega, by omega, ie.mp e1⟩
    · rintro ⟨k, k1, k2, k3⟩
      by_cases e : k = n
      · subst e
        have := ie.mpr k3
        omega
      · have := ih.mpr ⟨k, by omega, k2, k3⟩
        omega
