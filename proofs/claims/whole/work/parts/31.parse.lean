/-! ===== the reader as functions of its cells: a fault (kind, token), or an answer and the cells ===== -/
abbrev sk_PR : Type := (Int × Int) ⊕ (Int × sk_SI)
def sk_mf (w : Int) : Int := ([7, 99, 7, 7, 3, 3, 99, -1, 99, 999, 7, -1, -1] : List Int).getD w.toNat 0
def sk_ms (w : Int) : Int := ([9, -1, 9, -1, -1, -1, -1, -1, -1, -1, 9, -1, -1] : List Int).getD w.toNat 0
def sk_bs (w : Int) : Int := ([0, 0, 1, 1, 0, 1, 0, 2, 1, 0, 2, 2, 0] : List Int).getD w.toNat 0
def sk_tkI (due : Int) (I : sk_SI) : sk_PR := if sk_tok I (I 29 3) = due then .inr (0, sk_uI I 29 3 (I 29 3 + 1)) else .inl (1, I 29 3)
def sk_nuI (most : Int) (I : sk_SI) : sk_PR := if sk_tok I (I 29 3) < 100 then .inl (1, I 29 3) else if 100 + most < sk_tok I (I 29 3) then .inl (2, I 29 3) else .inr (sk_tok I (I 29 3) - 100, sk_uI I 29 3 (I 29 3 + 1))
/-- a number, if one is due, into a row at s -/
def sk_n1I (most : Int) (a : Nat) (s : Int) (I : sk_SI) : sk_PR := if most = -1 then .inr (0, I) else match sk_nuI most I with
  | .inl e => .inl e
  | .inr x => .inr (0, sk_uI x.2 a s x.1)
def sk_rnI (p : Nat) (s w : Int) (I : sk_SI) : sk_PR := match sk_n1I (sk_mf w) (p + 5) s (sk_uI I 33 s (I 29 3)) with
  | .inl e => .inl e
  | .inr x => sk_n1I (sk_ms w) (p + 6) s x.2
def sk_rrI (bl : sk_SI → sk_PR) (p : Nat) (s w : Int) (I : sk_SI) : sk_PR := if sk_bs w = 0 then sk_tkI 18 I else match bl I with
  | .inl e => .inl e
  | .inr x => if sk_bs w = 1 then .inr (0, sk_uI x.2 (p + 8) s x.1) else match sk_tkI (if w = 11 then 14 else 13) (sk_uI x.2 (p + 8) s x.1) with
    | .inl e => .inl e
    | .inr y => match bl y.2 with
      | .inl e => .inl e
      | .inr z => .inr (0, sk_uI z.2 (p + 9) s z.1)
/-- a step's cells as it is added -/
def sk_asI (p : Nat) (w : Int) (I : sk_SI) : sk_SI := sk_uI (sk_uI (sk_uI (sk_uI (sk_uI (sk_uI (sk_uI (sk_uI I (p + 3) (I p 10) w) (p + 4) (I p 10) (I p 9 - 1)) (p + 5) (I p 10) (-1)) (p + 6) (I p 10) (-1)) (p + 7) (I p 10) (-1)) (p + 8) (I p 10) (-1)) (p + 9) (I p 10) (-1)) p 10 (I p 10 + 1)
def sk_stI (bl : sk_SI → sk_PR) (p : Nat) (I : sk_SI) : sk_PR :=
  if 12 < sk_tok I (I 29 3) then .inl (1, I 29 3) else if 200 ≤ I p 10 then .inl (4, I 29 3) else
  match sk_rnI p (I p 10) (sk_tok I (I 29 3)) (sk_uI (sk_asI p (sk_tok I (I 29 3)) I) 29 3 (I 29 3 + 1)) with
  | .inl e => .inl e
  | .inr x => match sk_rrI bl p (I p 10) (sk_tok I (I 29 3)) x.2 with
    | .inl e => .inl e
    | .inr y => .inr (I p 10, y.2)
def sk_lpI (ps : sk_SI → sk_PR) (p : Nat) : Nat → Int → Int → sk_SI → sk_PR
  | 0, f, _, I => match sk_tkI 17 I with
    | .inl e => .inl e
    | .inr x => .inr (f, x.2)
  | m + 1, f, la, I => if sk_tok I (I 29 3) = 17 then .inr (f, sk_uI I 29 3 (I 29 3 + 1)) else match ps I with
    | .inl e => .inl e
    | .inr x => if 0 ≤ la then sk_lpI ps p m f x.1 (sk_uI x.2 (p + 7) la x.1) else sk_lpI ps p m x.1 x.1 x.2
/-- a block within 12 - k others: k + 1 more may lie one within the other -/
def sk_blI (p : Nat) : Nat → sk_SI → sk_PR
  | 0, I => match sk_tkI 16 I with
    | .inl e => .inl e
    | .inr x => .inl (3, x.2 29 3 - 1)
  | k + 1, I => match sk_tkI 16 I with
    | .inl e => .inl e
    | .inr x => sk_lpI (sk_stI (sk_blI p k) p) p 201 (-1) (-1) (sk_uI x.2 p 11 (max (x.2 p 11) (12 - k)))
/-- what the reader leaves alone -/
def sk_fp (p : Nat) (I I' : sk_SI) : Prop := (∀ k, k ≠ 29 → k ≠ 33 → ¬ (p ≤ k ∧ k ≤ p + 9) → I' k = I k) ∧ ∀ j, j ≠ 3 → j ≠ 4 → j ≠ 5 → I' 29 j = I 29 j
def sk_flt (p : Nat) (I : sk_SI) (e : Int × Int) (I' : sk_SI) : Prop := sk_fp p I I' ∧ I' 29 5 = e.1 ∧ I' 29 4 = e.2
theorem sk_fp_rf (p : Nat) (I : sk_SI) : sk_fp p I I := ⟨fun _ _ _ _ => rfl, fun _ _ _ _ => rfl⟩
theorem sk_fp_tr {p : Nat} {I I1 I2 : sk_SI} (h1 : sk_fp p I I1) (h2 : sk_fp p I1 I2) : sk_fp p I I2 := ⟨fun k a b c => (h2.1 k a b c).trans (h1.1 k a b c), fun j a b c => (h2.2 j a b c).trans (h1.2 j a b c)⟩
theorem sk_flt_tr {p : Nat} {I I1 I2 : sk_SI} {e : Int × Int} (h1 : sk_fp p I I1) (h2 : sk_flt p I1 e I2) : sk_flt p I e I2 := ⟨sk_fp_tr h1 h2.1, h2.2⟩
theorem sk_fp_29 (p : Nat) (hp : sk_pg p) (I : sk_SI) (j v : Int) (hj : j = 3 ∨ j = 4 ∨ j = 5) : sk_fp p I (sk_uI I 29 j v) := by
  refine ⟨fun k a b c => sk_uI_o a, fun i a b c => ?_⟩
  rw [sk_uI_s, sk_up_o (by omega)]
theorem sk_fp_pg (p : Nat) (hp : sk_pg p) (I : sk_SI) (k : Nat) (j v : Int) (hk : k = 33 ∨ (p ≤ k ∧ k ≤ p + 9)) : sk_fp p I (sk_uI I k j v) := by
  have h29 : k ≠ 29 := by rcases hp with rfl | rfl <;> omega
  refine ⟨fun k' a b c => sk_uI_o (by omega), fun i a b c => ?_⟩
  rw [sk_uI_o (Ne.symm h29)]
theorem sk_flt_bk (p : Nat) (hp : sk_pg p) (I : sk_SI) (k t : Int) : sk_flt p I (k, t) (sk_bk I k t) := by
  unfold sk_bk
  refine ⟨sk_fp_tr (sk_fp_29 p hp I 5 k (by omega)) (sk_fp_29 p hp _ 4 t (by omega)), ?_, ?_⟩
  · rw [sk_uI_s, sk_up_o (by decide), sk_uI_s, sk_up_s]
  · rw [sk_uI_s, sk_up_s]
theorem sk_flt_pg {p : Nat} {I I' : sk_SI} {e : Int × Int} (hp : sk_pg p) (h : sk_flt p I e I') (k : Nat) (j v : Int) (hk : k = 33 ∨ (p ≤ k ∧ k ≤ p + 9)) : sk_flt p I e (sk_uI I' k j v) := by
  have h29 : 29 ≠ k := by rcases hp with rfl | rfl <;> omega
  refine ⟨sk_fp_tr h.1 (sk_fp_pg p hp I' k j v hk), ?_, ?_⟩
  · rw [sk_uI_o h29]; exact h.2.1
  · rw [sk_uI_o h29]; exact h.2.2
/-- the tokens stay valid -/
theorem sk_tv_fp {p : Nat} {I I' : sk_SI} (hp : sk_pg p) (h : sk_tv I) (hf : sk_fp p I I') (hn : 0 ≤ I' 29 3 ∧ I' 29 3 ≤ 1300) : sk_tv I' := by
  have e30 : I' 30 = I 30 := hf.1 30 (by decide) (by decide) (by rcases hp with rfl | rfl <;> omega)
  have e31 : I' 31 = I 31 := hf.1 31 (by decide) (by decide) (by rcases hp with rfl | rfl <;> omega)
  unfold sk_tv
  rw [e30, e31]
  exact ⟨h.1, h.2.1, h.2.2.1, hn⟩
theorem sk_tok_fp {p : Nat} {I I' : sk_SI} (hp : sk_pg p) (hf : sk_fp p I I') (i : Int) : sk_tok I' i = sk_tok I i := by
  have e30 : I' 30 = I 30 := hf.1 30 (by decide) (by decide) (by rcases hp with rfl | rfl <;> omega)
  have e31 : I' 31 = I 31 := hf.1 31 (by decide) (by decide) (by rcases hp with rfl | rfl <;> omega)
  unfold sk_tok
  rw [e30, e31]
