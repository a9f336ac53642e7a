/-! ===== what moves from a method's start to a callee's ===== -/
theorem sk_cx_move {E : sk_En} {s U : State} {locs : List Loc} (h : sk_cx E s) (hW : s.WarmedH U.vm) (hS : va_S (sk_A E) s.heap U.heap locs) : sk_cx E U := by
  obtain ⟨hK, hN, hO, ⟨h1, h2, h3⟩, hT, ⟨hX, hX1, hX2⟩, hb⟩ := h
  have hk : ∀ a : Nat, a < s.heap.size → ¬ sk_A E a → U.heap[a]? = s.heap[a]? := hS.2.1
  refine ⟨hK.moved hW.alike, fun w hw => ?_, va_AO.moved hW.alike hO, ⟨(h1.moved hW.alike).kept hk, fun i q hq => (h2 i q hq).warm hW, (h3.moved hW.alike).kept hk⟩, fun i q hq => ⟨((hT i q hq).1.moved hW.alike).kept hk, ((hT i q hq).2.moved hW.alike).kept hk⟩, ⟨(hX.moved hW.alike).kept (hk _ hX1 (Nat.not_le.mpr hX2)), Nat.lt_of_lt_of_le hX1 hS.1, hX2⟩, Nat.le_trans hb hS.1⟩
  have := hN w hw
  simp only [sk_nw, List.mem_cons, List.not_mem_nil, or_false] at hw
  rcases hw with rfl | rfl | rfl | rfl | rfl | rfl | rfl | rfl | rfl | rfl | rfl <;> exact va_Nw.warmM hW this
theorem sk_cx_call {E : sk_En} {U : State} (g : JFrame) (mk : MethodId) (a : Array Value) (h : sk_cx E U) : sk_cx E (U.calling g mk a) := sk_cx_move (U := U.calling g mk a) h (State.WarmedH.refl U) (locs := []) va_S.rf
/-! ===== updates ===== -/
def sk_up (f : Int → Int) (j v : Int) : Int → Int := fun i => if i = j then v else f i
def sk_uI (I : sk_SI) (k : Nat) (j v : Int) : sk_SI := fun k' => if k' = k then sk_up (I k) j v else I k'
def sk_upL (f : Int → Int64) (j : Int) (v : Int64) : Int → Int64 := fun i => if i = j then v else f i
def sk_uL (I : sk_SL) (k : Nat) (j : Int) (v : Int64) : sk_SL := fun k' => if k' = k then sk_upL (I k) j v else I k'
def sk_upR (f : Int → Option Nat) (j : Int) (v : Option Nat) : Int → Option Nat := fun i => if i = j then v else f i
def sk_uR (I : sk_SR) (k : Nat) (j : Int) (v : Option Nat) : sk_SR := fun k' => if k' = k then sk_upR (I k) j v else I k'
theorem sk_cell_o {E : sk_En} {I I' : sk_SI} {L L' : sk_SL} {R R' : sk_SR} {k : Nat} (sh : sk_Sh) (h1 : I' k = I k) (h2 : L' k = L k) (h3 : R' k = R k) : sk_cell E (I', L', R') k sh = sk_cell E (I, L, R) k sh := by
  cases sh with
  | inl ci => simp [sk_cell, sk_fv, h1, h3]
  | inr x => simp [sk_cell, sk_pay, h1, h2, h3]
theorem sk_uI_o {I : sk_SI} {k k' : Nat} {j v : Int} (h : k' ≠ k) : sk_uI I k j v k' = I k' := by simp [sk_uI, h]
theorem sk_uI_s {I : sk_SI} {k : Nat} {j v : Int} : sk_uI I k j v k = sk_up (I k) j v := by simp [sk_uI]
theorem sk_uL_o {I : sk_SL} {k k' : Nat} {j : Int} {v : Int64} (h : k' ≠ k) : sk_uL I k j v k' = I k' := by simp [sk_uL, h]
theorem sk_uL_s {I : sk_SL} {k : Nat} {j : Int} {v : Int64} : sk_uL I k j v k = sk_upL (I k) j v := by simp [sk_uL]
theorem sk_uR_o {I : sk_SR} {k k' : Nat} {j : Int} {v : Option Nat} (h : k' ≠ k) : sk_uR I k j v k' = I k' := by simp [sk_uR, h]
theorem sk_uR_s {I : sk_SR} {k : Nat} {j : Int} {v : Option Nat} : sk_uR I k j v k = sk_upR (I k) j v := by simp [sk_uR]
/-! ===== Int32 and Int ===== -/
theorem sk_io_add (a b : Int) : Int32.ofInt a + Int32.ofInt b = Int32.ofInt (a + b) := (Int32.ofInt_add a b).symm
theorem sk_io_sub (a b : Int) : Int32.ofInt a - Int32.ofInt b = Int32.ofInt (a - b) := (Int32.ofInt_sub a b).symm
theorem sk_io_mul (a b : Int) : Int32.ofInt a * Int32.ofInt b = Int32.ofInt (a * b) := (Int32.ofInt_mul a b).symm
/-- in the range of an int -/
def sk_in (a : Int) : Prop := -2147483648 ≤ a ∧ a ≤ 2147483647
theorem sk_toInt {a : Int} (h : sk_in a) : (Int32.ofInt a).toInt = a := by
  obtain ⟨h1, h2⟩ := h
  exact Int32.toInt_ofInt_of_le (by simpa using h1) (by omega)
theorem sk_lt_iff {a b : Int} (ha : sk_in a) (hb : sk_in b) : Int32.ofInt a < Int32.ofInt b ↔ a < b := by
  rw [Int32.lt_iff_toInt_lt, sk_toInt ha, sk_toInt hb]
theorem sk_le_iff {a b : Int} (ha : sk_in a) (hb : sk_in b) : Int32.ofInt a ≤ Int32.ofInt b ↔ a ≤ b := by
  rw [Int32.le_iff_toInt_le, sk_toInt ha, sk_toInt hb]
theorem sk_eq_iff {a b : Int} (ha : sk_in a) (hb : sk_in b) : Int32.ofInt a = Int32.ofInt b ↔ a = b := by
  rw [← Int32.toInt_inj, sk_toInt ha, sk_toInt hb]
theorem sk_nat {a : Int} (h0 : 0 ≤ a) (h1 : a ≤ 2147483647) : ((Int32.ofInt a).toNatClampNeg : Int) = a := by
  have h : (Int32.ofInt a).toInt = a := sk_toInt ⟨by omega, h1⟩
  rw [Int32.toNatClampNeg, h]
  omega
theorem sk_vin {a : Int} {n : Nat} (h0 : 0 ≤ a) (h1 : a < n) (hn : n < 2147483648) : vp_in (Int32.ofInt a) n := by
  rw [vp_in_iff, sk_toInt ⟨by omega, by omega⟩]
  exact ⟨h0, h1⟩
