/-! ===== the cells of both objects ===== -/
def sk_G : List sk_Sh := [.inl 9, .inl 4, .inr (0, 1200), .inl 4, .inr (0, 400), .inl 4, .inr (0, 3000), .inl 5, .inr (0, 64), .inl 2, .inr (0, 20), .inr (0, 20), .inr (0, 200), .inr (0, 200), .inr (0, 200), .inr (0, 200), .inr (0, 200), .inr (0, 200), .inr (0, 200), .inl 2, .inr (0, 20), .inr (0, 20), .inr (0, 200), .inr (0, 200), .inr (0, 200), .inr (0, 200), .inr (0, 200), .inr (0, 200), .inr (0, 200), .inl 3, .inl 8, .inr (0, 1201), .inr (0, 1201), .inr (0, 200), .inl 6, .inl 1, .inr (0, 480), .inr (0, 480), .inr (0, 480), .inr (0, 480), .inr (0, 480), .inr (0, 4), .inr (0, 21), .inr (0, 21), .inr (0, 8), .inl 7, .inr (0, 3021), .inr (0, 3021), .inl 0, .inr (0, 300), .inr (2, 2400), .inr (0, 300), .inr (1, 300), .inr (2, 1500), .inr (0, 300), .inr (0, 20), .inr (2, 104), .inr (0, 200), .inr (0, 200), .inl 10, .inr (0, 1200), .inr (0, 64), .inr (0, 400), .inr (0, 2), .inr (0, 40), .inr (0, 40), .inr (0, 2), .inr (0, 400), .inr (0, 400), .inr (0, 400), .inr (0, 400), .inr (0, 400), .inr (0, 400), .inr (0, 400), .inr (0, 2), .inr (3, 16), .inr (0, 200), .inr (0, 3100), .inr (0, 3100), .inr (0, 3100), .inr (0, 3100), .inr (0, 3100), .inr (0, 4), .inr (0, 600), .inr (0, 600), .inr (0, 600), .inr (0, 600), .inr (0, 600), .inr (0, 20), .inr (0, 20), .inr (0, 3100), .inr (0, 300), .inr (0, 24000), .inr (1, 300), .inr (1, 300), .inr (1, 300), .inr (0, 1280), .inr (0, 80), .inr (1, 200), .inr (1, 200)]
def sk_jt (cur spr into rp sp fp k : Nat) : List (Option Nat) := bif Nat.beq k 0 then [some 1, some 3, some 5, some 7, some cur, some spr, some 29, some 34, some 48] else bif Nat.beq k 1 then [some 2] else bif Nat.beq k 3 then [some 4] else bif Nat.beq k 5 then [some 6] else bif Nat.beq k 7 then [some 8] else bif Nat.beq k 9 then [some 10, some 11, some 12, some 13, some 14, some 15, some 16, some 17, some 18] else bif Nat.beq k 19 then [some 20, some 21, some 22, some 23, some 24, some 25, some 26, some 27, some 28] else bif Nat.beq k 29 then [some 30, some 33, some into] else bif Nat.beq k 30 then [some 31, some 32] else bif Nat.beq k 34 then [some 3, some 5, some 45, some 35, some 41, some 42, some 43, some 44, none, some rp] else bif Nat.beq k 35 then [some 36, some 37, some 38, some 39, some 40] else bif Nat.beq k 45 then [some 7, some sp, some 46, some 47] else bif Nat.beq k 48 then [some 7, some fp, some 49, some 50, some 51, some 52, some 53, some 54, some 55, some 56, some 57, some 58] else bif Nat.beq k 59 then [none, some 60, none, some 61, some 62, none, none, none, some 63, some 64, some 65, some 66, some 67, some 68, some 69, some 70, some 71, some 72, some 73, some 74, some 75, none, none, none, none, none, none, none, some 76, none, some 77, some 78, some 79, some 80, some 81, none, some 82, none, some 83, some 84, some 85, some 86, some 87, none, none, some 88, some 89, none, none, none, none, none, none, none, none, none, none, some 90, none, none, none, some 91, some 92, some 93, some 94, some 95, some 96, some 97, some 98, some 99, none, none] else []
/-- the references of both objects: the programs that are current, spare, being read into, known to runner, stacks, foresight -/
def sk_J (cur spr into rp sp fp : Nat) : sk_SR := fun k j => bif Nat.beq k 75 then (bif decide (0 ≤ j ∧ j < 16) then some (1001 + j.toNat) else none) else (sk_jt cur spr into rp sp fp k).getD j.toNat none
theorem sk_J_cur (cur spr into rp sp fp x : Nat) : sk_uR (sk_J cur spr into rp sp fp) 0 4 (some x) = sk_J x spr into rp sp fp := by
  funext k j
  by_cases hk : k = 0
  · subst hk
    simp only [sk_uR, if_true, sk_upR, sk_J, sk_jt, Nat.beq, cond_true, cond_false]
    by_cases hj : j = 4
    · subst hj; rfl
    · rw [if_neg hj]
      have hn : j.toNat ≠ 4 := by omega
      match hm : j.toNat, hn with
      | 0, _ => rfl
      | 1, _ => rfl
      | 2, _ => rfl
      | 3, _ => rfl
      | 4, h => exact absurd rfl h
      | n + 5, _ => rfl
  · rw [sk_uR_o hk]
    have hb : Nat.beq k 0 = false := by cases h : Nat.beq k 0 with | false => rfl | true => exact absurd (Nat.eq_of_beq_eq_true h) hk
    simp only [sk_J, sk_jt, hb, cond_false]
theorem sk_J_spr (cur spr into rp sp fp x : Nat) : sk_uR (sk_J cur spr into rp sp fp) 0 5 (some x) = sk_J cur x into rp sp fp := by
  funext k j
  by_cases hk : k = 0
  · subst hk
    simp only [sk_uR, if_true, sk_upR, sk_J, sk_jt, Nat.beq, cond_true, cond_false]
    by_cases hj : j = 5
    · subst hj; rfl
    · rw [if_neg hj]
      have hn : j.toNat ≠ 5 := by omega
      match hm : j.toNat, hn with
      | 0, _ => rfl
      | 1, _ => rfl
      | 2, _ => rfl
      | 3, _ => rfl
      | 4, _ => rfl
      | 5, h => exact absurd rfl h
      | n + 6, _ => rfl
  · rw [sk_uR_o hk]
    have hb : Nat.beq k 0 = false := by cases h : Nat.beq k 0 with | false => rfl | true => exact absurd (Nat.eq_of_beq_eq_true h) hk
    simp only [sk_J, sk_jt, hb, cond_false]
theorem sk_J_into (cur spr into rp sp fp x : Nat) : sk_uR (sk_J cur spr into rp sp fp) 29 2 (some x) = sk_J cur spr x rp sp fp := by
  funext k j
  by_cases hk : k = 29
  · subst hk
    simp only [sk_uR, if_true, sk_upR, sk_J, sk_jt, Nat.beq, cond_true, cond_false]
    by_cases hj : j = 2
    · subst hj; rfl
    · rw [if_neg hj]
      have hn : j.toNat ≠ 2 := by omega
      match hm : j.toNat, hn with
      | 0, _ => rfl
      | 1, _ => rfl
      | 2, h => exact absurd rfl h
      | n + 3, _ => rfl
  · rw [sk_uR_o hk]
    have hb : Nat.beq k 29 = false := by cases h : Nat.beq k 29 with | false => rfl | true => exact absurd (Nat.eq_of_beq_eq_true h) hk
    simp only [sk_J, sk_jt, hb, cond_false]
theorem sk_J_rp (cur spr into rp sp fp x : Nat) : sk_uR (sk_J cur spr into rp sp fp) 34 9 (some x) = sk_J cur spr into x sp fp := by
  funext k j
  by_cases hk : k = 34
  · subst hk
    simp only [sk_uR, if_true, sk_upR, sk_J, sk_jt, Nat.beq, cond_true, cond_false]
    by_cases hj : j = 9
    · subst hj; rfl
    · rw [if_neg hj]
      have hn : j.toNat ≠ 9 := by omega
      match hm : j.toNat, hn with
      | 0, _ => rfl
      | 1, _ => rfl
      | 2, _ => rfl
      | 3, _ => rfl
      | 4, _ => rfl
      | 5, _ => rfl
      | 6, _ => rfl
      | 7, _ => rfl
      | 8, _ => rfl
      | 9, h => exact absurd rfl h
      | n + 10, _ => rfl
  · rw [sk_uR_o hk]
    have hb : Nat.beq k 34 = false := by cases h : Nat.beq k 34 with | false => rfl | true => exact absurd (Nat.eq_of_beq_eq_true h) hk
    simp only [sk_J, sk_jt, hb, cond_false]
theorem sk_J_sp (cur spr into rp sp fp x : Nat) : sk_uR (sk_J cur spr into rp sp fp) 45 1 (some x) = sk_J cur spr into rp x fp := by
  funext k j
  by_cases hk : k = 45
  · subst hk
    simp only [sk_uR, if_true, sk_upR, sk_J, sk_jt, Nat.beq, cond_true, cond_false]
    by_cases hj : j = 1
    · subst hj; rfl
    · rw [if_neg hj]
      have hn : j.toNat ≠ 1 := by omega
      match hm : j.toNat, hn with
      | 0, _ => rfl
      | 1, h => exact absurd rfl h
      | n + 2, _ => rfl
  · rw [sk_uR_o hk]
    have hb : Nat.beq k 45 = false := by cases h : Nat.beq k 45 with | false => rfl | true => exact absurd (Nat.eq_of_beq_eq_true h) hk
    simp only [sk_J, sk_jt, hb, cond_false]
theorem sk_J_fp (cur spr into rp sp fp x : Nat) : sk_uR (sk_J cur spr into rp sp fp) 48 1 (some x) = sk_J cur spr into rp sp x := by
  funext k j
  by_cases hk : k = 48
  · subst hk
    simp only [sk_uR, if_true, sk_upR, sk_J, sk_jt, Nat.beq, cond_true, cond_false]
    by_cases hj : j = 1
    · subst hj; rfl
    · rw [if_neg hj]
      have hn : j.toNat ≠ 1 := by omega
      match hm : j.toNat, hn with
      | 0, _ => rfl
      | 1, h => exact absurd rfl h
      | n + 2, _ => rfl
  · rw [sk_uR_o hk]
    have hb : Nat.beq k 48 = false := by cases h : Nat.beq k 48 with | false => rfl | true => exact absurd (Nat.eq_of_beq_eq_true h) hk
    simp only [sk_J, sk_jt, hb, cond_false]
