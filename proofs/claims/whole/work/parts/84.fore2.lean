/-! ===== tables in longs: a kind's levels change; a table is copied ===== -/
theorem sk_upL_s {f : Int → Int64} {j : Int} {v : Int64} : sk_upL f j v j = v := by simp [sk_upL]
theorem sk_upL_o {f : Int → Int64} {j i : Int} {v : Int64} (h : i ≠ j) : sk_upL f j v i = f i := by simp [sk_upL, h]
def sk_tc (T : sk_Tb) (k : Int) (S : Int → Bool) (o : Int) : sk_Tb := fun r => if (0 ≤ r ∧ r < 80) ∧ r / 10 = k ∧ S (r % 10) = true then o else T r
theorem sk_tc_8 {T : sk_Tb} (h : sk_t8 T) (k : Int) (S : Int → Bool) {o : Int} (ho : -1 ≤ o ∧ o ≤ 7) : sk_t8 (sk_tc T k S o) := by
  intro r r0 r1
  have := h r r0 r1
  unfold sk_tc
  split <;> omega
theorem sk_ht_cg {f g : Int → Int64} {b : Int} {T : sk_Tb} (h : sk_ht f b T) (hg : ∀ i, b ≤ i → i < b + 8 → g i = f i) : sk_ht g b T := fun k k0 k1 => by rw [hg _ (by omega) (by omega)]; exact h k k0 k1
theorem sk_hv_cg {A B : Int → Int} : ∀ n : Nat, (∀ j : Nat, j < n → A j = B j) → sk_hv A n = sk_hv B n
  | 0, _ => rfl
  | n + 1, h => by
    unfold sk_hv
    rw [sk_hv_cg n (fun j hj => h j (by omega)), h n (by omega)]
theorem sk_lg_cg {A B : Int → Int} (h : ∀ j : Nat, j < 10 → A j = B j) : sk_lg A = sk_lg B := by
  unfold sk_lg
  rw [sk_hv_cg 10 h]
theorem sk_ht_chg {L : sk_SL} {b k o : Int} {T : sk_Tb} {S : Int → Bool} {x : Int64} (h : sk_ht (L 56) b T) (hT : sk_t8 T) (hk : 0 ≤ k ∧ k < 8) (hx : sk_mk S x) (ho : -1 ≤ o ∧ o ≤ 7) : sk_ht (sk_uL L 56 (b + k) ((L 56 (b + k) &&& (x ^^^ (-1))) ||| (sk_i2l (o + 1) * sk_one &&& x)) 56) b (sk_tc T k S o) ∧ ∀ i, i ≠ b + k → sk_uL L 56 (b + k) ((L 56 (b + k) &&& (x ^^^ (-1))) ||| (sk_i2l (o + 1) * sk_one &&& x)) 56 i = L 56 i := by
  rw [h k hk.1 hk.2, sk_chg (sk_t8_1 hT hk) hx ho]
  refine ⟨fun j j0 j1 => ?_, fun i hi => ?_⟩
  · by_cases e : j = k
    · subst e
      rw [sk_uL_s, sk_upL_s]
      apply sk_lg_cg
      intro i hi
      unfold sk_row1 sk_tc
      have e1 : (10 * j + (i : Int)) / 10 = j := by omega
      have e2 : (10 * j + (i : Int)) % 10 = i := by omega
      rw [e1, e2]
      by_cases hS : S i = true
      · rw [if_pos hS, if_pos ⟨by omega, rfl, hS⟩]
      · rw [if_neg hS, if_neg (fun z => hS z.2.2)]
    · rw [sk_uL_s, sk_upL_o (by omega), h j j0 j1]
      apply sk_lg_cg
      intro i hi
      unfold sk_row1 sk_tc
      rw [if_neg (by omega)]
  · rw [sk_uL_s, sk_upL_o hi]
theorem sk_ht_cp {L : sk_SL} {b : Int} {T : sk_Tb} (h : sk_ht (L 56) b T) : sk_ht (sk_cL L 56 (sk_cp (L 56) (L 56) b (b + 8) 8) 56) (b + 8) T ∧ ∀ i, ¬ (b + 8 ≤ i ∧ i < b + 16) → sk_cL L 56 (sk_cp (L 56) (L 56) b (b + 8) 8) 56 i = L 56 i := by
  unfold sk_cL sk_cp
  rw [if_pos rfl]
  refine ⟨fun k k0 k1 => ?_, fun i hi => ?_⟩
  · dsimp only
    rw [if_pos (by omega), show b + (b + 8 + k - (b + 8)) = b + k by omega]
    exact h k k0 k1
  · rw [if_neg (by omega)]
