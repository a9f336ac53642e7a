/-! ===== Reader.readNumbers ===== -/
theorem sk_mf_b {w : Int} (h : 0 ≤ w ∧ w ≤ 12) : sk_mf w = -1 ∨ (0 ≤ sk_mf w ∧ sk_mf w ≤ 999) := by
  rcases (show w = 0 ∨ w = 1 ∨ w = 2 ∨ w = 3 ∨ w = 4 ∨ w = 5 ∨ w = 6 ∨ w = 7 ∨ w = 8 ∨ w = 9 ∨ w = 10 ∨ w = 11 ∨ w = 12 by omega) with rfl | rfl | rfl | rfl | rfl | rfl | rfl | rfl | rfl | rfl | rfl | rfl | rfl <;> decide
theorem sk_ms_b {w : Int} (h : 0 ≤ w ∧ w ≤ 12) : sk_ms w = -1 ∨ (0 ≤ sk_ms w ∧ sk_ms w ≤ 999) := by
  rcases (show w = 0 ∨ w = 1 ∨ w = 2 ∨ w = 3 ∨ w = 4 ∨ w = 5 ∨ w = 6 ∨ w = 7 ∨ w = 8 ∨ w = 9 ∨ w = 10 ∨ w = 11 ∨ w = 12 by omega) with rfl | rfl | rfl | rfl | rfl | rfl | rfl | rfl | rfl | rfl | rfl | rfl | rfl <;> decide
theorem sk_nuI_r {most : Int} {I : sk_SI} {x : Int × sk_SI} (h : sk_nuI most I = .inr x) : x.2 = sk_uI I 29 3 (I 29 3 + 1) ∧ x.1 = sk_tok I (I 29 3) - 100 ∧ 100 ≤ sk_tok I (I 29 3) ∧ sk_tok I (I 29 3) ≤ 100 + most := by
  unfold sk_nuI at h
  split at h
  · cases h
  · split at h
    · cases h
    · cases h
      exact ⟨rfl, rfl, by omega, by omega⟩
theorem sk_bk_o (I : sk_SI) (k t : Int) (c : Nat) (h : c ≠ 29) : sk_bk I k t c = I c := by
  unfold sk_bk
  rw [sk_uI_o h, sk_uI_o h]
section SKR2
variable {l : Launch} {E : sk_En} {d : Nat} {I : sk_SI} {L : sk_SL} {cu sp io rp tp fp : Nat} {Q : Option sk_V → List sk_Sh → sk_St → Prop}
/-- readNumber, by its function -/
theorem c_R_numF (most : Int) (h : sk_tv I) (hm : 0 ≤ most ∧ most ≤ 999) (h1 : ∀ e, sk_nuI most I = .inl e → Q (some (vi (-2))) sk_G (sk_bk I e.1 e.2, L, sk_J cu sp io rp tp fp)) (h2 : ∀ x, sk_nuI most I = .inr x → 0 ≤ x.1 → x.1 ≤ 999 → Q (some (vi x.1)) sk_G (x.2, L, sk_J cu sp io rp tp fp)) : AW l E (d + 1) 0 0 mX3_readNumber 0 [some (vr 29), some (vi most), none] [] sk_G (I, L, sk_J cu sp io rp tp fp) Q := by
  have hb := sk_tok_b h (I 29 3)
  refine c_R_num most h hm (fun g => ?_) (fun g => ?_) (fun g1 g2 => ?_)
  · exact h1 (1, I 29 3) (by unfold sk_nuI; rw [if_pos g])
  · exact h1 (2, I 29 3) (by unfold sk_nuI; rw [if_neg (by omega), if_pos g])
  · exact h2 (sk_tok I (I 29 3) - 100, sk_uI I 29 3 (I 29 3 + 1)) (by unfold sk_nuI; rw [if_neg (by omega), if_neg (by omega)]) (by show 0 ≤ sk_tok I (I 29 3) - 100; omega) (by show sk_tok I (I 29 3) - 100 ≤ 999; omega)
end SKR2
