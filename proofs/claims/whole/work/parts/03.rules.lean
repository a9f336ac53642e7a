/-! ===== what moves from a method's start to a callee's ===== -/
theorem sk_cx_move {E : sk_En} {s U : State} {locs : List Loc} (h : sk_cx E s) (hW : s.WarmedH U.vm) (hS : va_S (sk_A E) s.heap U.heap locs) : sk_cx E U := by
  obtain ⟨hK, hN, hO, ⟨h1, h2, h3, h4, h5⟩, hT, ⟨hX, hX1, hX2⟩, hb⟩ := h
  have hk : ∀ a : Nat, a < s.heap.size → ¬ sk_A E a → U.heap[a]? = s.heap[a]? := hS.2.1
  refine ⟨hK.moved hW.alike, fun w hw => ?_, va_AO.moved hW.alike hO, ⟨(h1.moved hW.alike).kept hk, fun i q hq => (h2 i q hq).warm hW, (h3.moved hW.alike).kept hk, h4.imp (fun q => (q.moved hW.alike).kept hk) (fun q => (q.moved hW.alike).kept hk), h5⟩, fun i q hq => ⟨((hT i q hq).1.moved hW.alike).kept hk, ((hT i q hq).2.moved hW.alike).kept hk⟩, ⟨(hX.moved hW.alike).kept (hk _ hX1 (Nat.not_le.mpr hX2)), Nat.lt_of_lt_of_le hX1 hS.1, hX2⟩, Nat.le_trans hb hS.1⟩
  have := hN w hw
  simp only [sk_nw, List.mem_cons, List.not_mem_nil, or_false] at hw
  rcases hw with rfl | rfl | rfl | rfl | rfl | rfl | rfl | rfl | rfl | rfl | rfl <;> exact va_Nw.warmM hW this
theorem sk_cx_call {E : sk_En} {U : State} (g : JFrame) (mk : MethodId) (a : Array Value) (h : sk_cx E U) : sk_cx E (U.calling g mk a) := sk_cx_move (U := U.calling g mk a) h (State.WarmedH.refl U) (locs := []) va_S.rf
/-! ===== updates ===== -/
def sk_up (f : Int → Int) (j v : Int) : Int → Int := fun i => if i = j then v else f i
def sk_uI (I : sk_SI) (k : Nat) (j v : Int) : sk_SI := fun k' => if k' = k then sk_up (I k) j v else I k'
def sk_upL (f : Int → Int64) (j : Int) (v : Int64) : Int → Int64 := fun i => if i = j then v else f i
def sk_uL (I : sk_SL) (k : Nat) (j : Int) (v : Int64) : sk_SL := fun k' => if k' = k then sk_upL (I k) j v else I k'
def sk_upR (f : Int → Option Nat) (j : Int) (v : Option Nat) : Int → Option Nat := fun i => if i = j then v else f i
def sk_uR (I : sk_SR) (k : Nat) (j : Int) (v : Option Nat) : sk_SR := fun k' => if k' = k then sk_upR (I k) j v else I k'
theorem sk_cell_o {E : sk_En} {I I' : sk_SI} {L L' : sk_SL} {R R' : sk_SR} {k : Nat} (sh : sk_Sh) (h1 : I' k = I k) (h2 : L' k = L k) (h3 : R' k = R k) : sk_cell E (I', L', R') k sh = sk_cell E (I, L, R) k sh := by
  cases sh with
  | inl ci => simp [sk_cell, sk_fv, h1, h3]
  | inr x => simp [sk_cell, sk_pay, h1, h2, h3]
theorem sk_uI_o {I : sk_SI} {k k' : Nat} {j v : Int} (h : k' ≠ k) : sk_uI I k j v k' = I k' := by simp [sk_uI, h]
theorem sk_uI_s {I : sk_SI} {k : Nat} {j v : Int} : sk_uI I k j v k = sk_up (I k) j v := by simp [sk_uI]
theorem sk_uL_o {I : sk_SL} {k k' : Nat} {j : Int} {v : Int64} (h : k' ≠ k) : sk_uL I k j v k' = I k' := by simp [sk_uL, h]
theorem sk_uL_s {I : sk_SL} {k : Nat} {j : Int} {v : Int64} : sk_uL I k j v k = sk_upL (I k) j v := by simp [sk_uL]
theorem sk_uR_o {I : sk_SR} {k k' : Nat} {j : Int} {v : Option Nat} (h : k' ≠ k) : sk_uR I k j v k' = I k' := by simp [sk_uR, h]
theorem sk_uR_s {I : sk_SR} {k : Nat} {j : Int} {v : Option Nat} : sk_uR I k j v k = sk_upR (I k) j v := by simp [sk_uR]
/-! ===== Int32 and Int ===== -/
theorem sk_io_add (a b : Int) : Int32.ofInt a + Int32.ofInt b = Int32.ofInt (a + b) := (Int32.ofInt_add a b).symm
theorem sk_io_sub (a b : Int) : Int32.ofInt a - Int32.ofInt b = Int32.ofInt (a - b) := (Int32.ofInt_sub a b).symm
theorem sk_io_mul (a b : Int) : Int32.ofInt a * Int32.ofInt b = Int32.ofInt (a * b) := (Int32.ofInt_mul a b).symm
/-- in the range of an int -/
def sk_in (a : Int) : Prop := -2147483648 ≤ a ∧ a ≤ 2147483647
theorem sk_toInt {a : Int} (h : sk_in a) : (Int32.ofInt a).toInt = a := by
  obtain ⟨h1, h2⟩ := h
  exact Int32.toInt_ofInt_of_le (by simpa using h1) (by omega)
theorem sk_lt_iff {a b : Int} (ha : sk_in a) (hb : sk_in b) : Int32.ofInt a < Int32.ofInt b ↔ a < b := by
  rw [Int32.lt_iff_toInt_lt, sk_toInt ha, sk_toInt hb]
theorem sk_le_iff {a b : Int} (ha : sk_in a) (hb : sk_in b) : Int32.ofInt a ≤ Int32.ofInt b ↔ a ≤ b := by
  rw [Int32.le_iff_toInt_le, sk_toInt ha, sk_toInt hb]
theorem sk_eq_iff {a b : Int} (ha : sk_in a) (hb : sk_in b) : Int32.ofInt a = Int32.ofInt b ↔ a = b := by
  rw [← Int32.toInt_inj, sk_toInt ha, sk_toInt hb]
theorem sk_nat {a : Int} (h0 : 0 ≤ a) (h1 : a ≤ 2147483647) : ((Int32.ofInt a).toNatClampNeg : Int) = a := by
  have h : (Int32.ofInt a).toInt = a := sk_toInt ⟨by omega, h1⟩
  rw [Int32.toNatClampNeg, h]
  omega
theorem sk_vin {a : Int} {n : Nat} (h0 : 0 ≤ a) (h1 : a < n) (hn : n < 2147483648) : vp_in (Int32.ofInt a) n := by
  rw [vp_in_iff, sk_toInt ⟨by omega, by omega⟩]
  exact ⟨h0, h1⟩
/-! ===== words and classes ===== -/
theorem sk_wd {q : Nat} {w : Cond} (h : lw_tbl[q]? = some w) (hg : goodWord w = true) : w ∈ sk_gw := List.mem_filter.mpr ⟨List.mem_of_getElem? h, hg⟩
theorem sk_mem_r {ws : List Cond} (ps : List Nat) (hp : ws = ps.filterMap (fun i => lw_tbl[i]?)) (h : ws.all goodWord = true) : ∀ w ∈ ws, w ∈ sk_gw := by
  intro w hw
  have h1 := List.all_eq_true.mp h w hw
  rw [hp] at hw
  obtain ⟨i, -, hi⟩ := List.mem_filterMap.mp hw
  exact sk_wd hi h1
theorem sk_lay0 : ∀ w ∈ u_ws RX0 TX0 16, w ∈ sk_gw := sk_mem_r [379, 381, 383, 385, 387, 389, 391, 393, 395, 397, 399, 401, 403, 405, 407, 409] (by decide +kernel) (by decide +kernel)
theorem sk_lay1 : ∀ w ∈ u_ws RX1 TX1 6, w ∈ sk_gw := sk_mem_r [274, 276, 278, 280, 282, 284] (by decide +kernel) (by decide +kernel)
theorem sk_lay2 : ∀ w ∈ u_ws RX2 TX2 12, w ∈ sk_gw := sk_mem_r [185, 187, 189, 191, 193, 195, 197, 199, 201, 203, 205, 207] (by decide +kernel) (by decide +kernel)
theorem sk_lay3 : ∀ w ∈ u_ws RX3 TX3 7, w ∈ sk_gw := sk_mem_r [241, 243, 245, 247, 249, 251, 253] (by decide +kernel) (by decide +kernel)
theorem sk_lay4 : ∀ w ∈ u_ws RX4 TX4 2, w ∈ sk_gw := sk_mem_r [114, 116] (by decide +kernel) (by decide +kernel)
theorem sk_lay5 : ∀ w ∈ u_ws RX5 TX5 1, w ∈ sk_gw := sk_mem_r [130] (by decide +kernel) (by decide +kernel)
theorem sk_lay6 : ∀ w ∈ u_ws RX6 TX6 14, w ∈ sk_gw := sk_mem_r [325, 327, 329, 331, 333, 335, 337, 339, 341, 343, 345, 347, 349, 351] (by decide +kernel) (by decide +kernel)
theorem sk_lay7 : ∀ w ∈ u_ws RX7 TX7 5, w ∈ sk_gw := sk_mem_r [298, 300, 302, 304, 306] (by decide +kernel) (by decide +kernel)
theorem sk_lay8 : ∀ w ∈ u_ws RX8 TX8 3, w ∈ sk_gw := sk_mem_r [225, 227, 229] (by decide +kernel) (by decide +kernel)
theorem sk_lay9 : ∀ w ∈ u_ws RX9 TX9 9, w ∈ sk_gw := sk_mem_r [423, 425, 427, 429, 431, 433, 435, 437, 439] (by decide +kernel) (by decide +kernel)
theorem sk_lay10 : ∀ w ∈ u_ws RX10 TX10 72, w ∈ sk_gw := sk_mem_r [1083, 1085, 1087, 1089, 1091, 1093, 1095, 1097, 1099, 1101, 1103, 1105, 1107, 1109, 1111, 1113, 1115, 1117, 1119, 1121, 1123, 1125, 1127, 1129, 1131, 1133, 1135, 1137, 1139, 1141, 1143, 1145, 1147, 1149, 1151, 1153, 1155, 1157, 1159, 1161, 1163, 1165, 1167, 1169, 1171, 1173, 1175, 1177, 1179, 1181, 1183, 1185, 1187, 1189, 1191, 1193, 1195, 1197, 1199, 1201, 1203, 1205, 1207, 1209, 1211, 1213, 1215, 1217, 1219, 1221, 1223, 1225] (by decide +kernel) (by decide +kernel)
theorem sk_lays {ci : Nat} (h : ci < 11) : ∀ w ∈ u_ws (sk_C ci).1 (sk_C ci).2.1 (sk_C ci).2.2, w ∈ sk_gw := by
  rcases (show ci = 0 ∨ ci = 1 ∨ ci = 2 ∨ ci = 3 ∨ ci = 4 ∨ ci = 5 ∨ ci = 6 ∨ ci = 7 ∨ ci = 8 ∨ ci = 9 ∨ ci = 10 by omega) with rfl | rfl | rfl | rfl | rfl | rfl | rfl | rfl | rfl | rfl | rfl
  · exact sk_lay0
  · exact sk_lay1
  · exact sk_lay2
  · exact sk_lay3
  · exact sk_lay4
  · exact sk_lay5
  · exact sk_lay6
  · exact sk_lay7
  · exact sk_lay8
  · exact sk_lay9
  · exact sk_lay10
theorem sk_cl {ci : Nat} (h : ci < 11) : vwCl[ci]? = some ((sk_C ci).1, (sk_C ci).2.1, (sk_C ci).2.2) := by
  rcases (show ci = 0 ∨ ci = 1 ∨ ci = 2 ∨ ci = 3 ∨ ci = 4 ∨ ci = 5 ∨ ci = 6 ∨ ci = 7 ∨ ci = 8 ∨ ci = 9 ∨ ci = 10 by omega) with rfl | rfl | rfl | rfl | rfl | rfl | rfl | rfl | rfl | rfl | rfl <;> rfl
theorem sk_tyok {ci : Nat} (h : ci < 11) : ∀ k, k < (sk_C ci).2.2 → parseFieldDescriptor ((sk_C ci).2.1 k).2.2.1 = some (sk_ty ci k) := by
  rcases (show ci = 0 ∨ ci = 1 ∨ ci = 2 ∨ ci = 3 ∨ ci = 4 ∨ ci = 5 ∨ ci = 6 ∨ ci = 7 ∨ ci = 8 ∨ ci = 9 ∨ ci = 10 by omega) with rfl | rfl | rfl | rfl | rfl | rfl | rfl | rfl | rfl | rfl | rfl
  · exact tyX0_ok
  · exact tyX1_ok
  · exact tyX2_ok
  · exact tyX3_ok
  · exact tyX4_ok
  · exact tyX5_ok
  · exact tyX6_ok
  · exact tyX7_ok
  · exact tyX8_ok
  · exact tyX9_ok
  · exact tyX10_ok
theorem sk_nmok {ci : Nat} (h : ci < 11) : ∀ a, a < (sk_C ci).2.2 → ∀ b, b < (sk_C ci).2.2 → a ≠ b → ((sk_C ci).2.1 a).2.1 ≠ ((sk_C ci).2.1 b).2.1 := by
  rcases (show ci = 0 ∨ ci = 1 ∨ ci = 2 ∨ ci = 3 ∨ ci = 4 ∨ ci = 5 ∨ ci = 6 ∨ ci = 7 ∨ ci = 8 ∨ ci = 9 ∨ ci = 10 by omega) with rfl | rfl | rfl | rfl | rfl | rfl | rfl | rfl | rfl | rfl | rfl
  · exact nmX0
  · exact nmX1
  · exact nmX2
  · exact nmX3
  · exact nmX4
  · exact nmX5
  · exact nmX6
  · exact nmX7
  · exact nmX8
  · exact nmX9
  · exact nmX10
theorem sk_fokE {own : String} {idx ci j q tc : Nat} (h : sk_fok own idx ci j q tc = true) : ci < 11 ∧ j < (sk_C ci).2.2 ∧ Cond.fieldLink own idx ((sk_C ci).2.1 j).1 ((sk_C ci).2.1 j).2.1 ((sk_C ci).2.1 j).2.2.1 ∈ sk_gw ∧ (sk_ty ci j = .int ∧ tc = 0 ∨ sk_ty ci j = .boolean ∧ tc = 1 ∨ sk_isR (sk_ty ci j) = true ∧ tc = 3) := by
  simp only [sk_fok, Bool.and_eq_true, decide_eq_true_eq, Nat.blt_eq] at h
  exact ⟨h.1.1.1, h.1.1.2, sk_wd h.1.2 rfl, h.2⟩
theorem sk_vr {E : sk_En} {G : List sk_Sh} {k : Nat} {sh : sk_Sh} (h : G[k]? = some sh) (hG : G.length ≤ 1000) : sk_v E (vr k) = .ref (E.1 + k) := by
  have hk := (List.getElem?_eq_some_iff.mp h).1
  show Value.ref (sk_ad E k) = _
  unfold sk_ad
  rw [if_pos (by omega)]
theorem sk_fs_get {E : sk_En} {σ : sk_St} {k ci j : Nat} (h : j < (sk_C ci).2.2) : ((List.range (sk_C ci).2.2).map (fun j => sk_fv E σ k j (sk_ty ci j)))[j]? = some (sk_fv E σ k j (sk_ty ci j)) := by
  simp [h]
theorem sk_fs_set {E : sk_En} {σ σ' : sk_St} {k ci j : Nat} {v : Value} (hv : sk_fv E σ' k j (sk_ty ci j) = v) (ho : ∀ i : Nat, i ≠ j → sk_fv E σ' k i (sk_ty ci i) = sk_fv E σ k i (sk_ty ci i)) :
    (List.range (sk_C ci).2.2).map (fun j => sk_fv E σ' k j (sk_ty ci j)) = ((List.range (sk_C ci).2.2).map (fun j => sk_fv E σ k j (sk_ty ci j))).set j v := by
  apply List.ext_getElem?
  intro i
  by_cases hi : j = i
  · subst hi
    by_cases hl : j < (sk_C ci).2.2
    · simp [hl, hv]
    · simp [hl]
  · rw [List.getElem?_set_ne hi]
    by_cases hl : i < (sk_C ci).2.2
    · simp [hl, ho i (fun e => hi e.symm)]
    · simp [hl]
