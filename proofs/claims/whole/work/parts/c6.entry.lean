/-! ===== what holds at the law's entry ===== -/
def lw_fl : List Cond := flatC (Jvm.Cond.and given_1 narrow_1)
def lw_off : List Nat := [57, 157, 165, 175, 186, 197, 210, 225, 241, 256, 273, 290, 307, 329, 350, 370, 393]
def lw_in : List Nat := [355, 263, 134, 211, 101, 121, 257, 288, 217, 93, 988]
def lw_sr : List Nat := [505, 995, 996, 997, 998, 999, 1000, 1001, 1002, 1003, 1004, 1005, 1006, 1007, 1008, 1009, 1010]
def lw_nw : List Nat := [135, 218, 264, 458, 516, 595, 619, 653, 704, 731, 883]
def lw_lt : List Nat := [618, 621, 627]
def lw_q (i : Nat) : String × Nat × String := sk_str.getD i ("", 0, "")
def lw_tm (i : Nat) : Term := .string (lw_q i).1 (lw_q i).2.1
def lw_tb (i : Nat) : String × List Int := sk_tab.getD i ("", [])
def lw_ts (i : Nat) : Term := .static "SealKeeper$Reader" (lw_tb i).1 "[I"
theorem lw_ex : ∀ i : Nat, i < 17 → lw_fl[lw_off.getD i 0]? = some (.exactly (lw_tm i) "java/lang/String") := by decide +kernel
theorem lw_co : ∀ i : Nat, i < 17 → lw_fl[lw_off.getD i 0 + 1]? = some (.eq (.field (lw_tm i) "java/lang/String" "coder" "B") (.int 0)) := by decide +kernel
theorem lw_ar : ∀ i : Nat, i < 17 → lw_fl[lw_off.getD i 0 + 2]? = some (.arrayOf (.field (lw_tm i) "java/lang/String" "value" "[B") .byte) := by decide +kernel
theorem lw_le : ∀ i : Nat, i < 17 → lw_fl[lw_off.getD i 0 + 3]? = some (.eq (.length (.field (lw_tm i) "java/lang/String" "value" "[B")) (.int (Int32.ofNat (sk_len.getD i 0)))) := by decide +kernel
theorem lw_el : ∀ i : Nat, i < 17 → ∀ j : Nat, j < sk_len.getD i 0 → lw_fl[lw_off.getD i 0 + 4 + j]? = some (.eq (.elem (.field (lw_tm i) "java/lang/String" "value" "[B") (.int (Int32.ofNat j))) (.int ((sk_byt.getD i []).getD j 0))) := by decide +kernel
theorem lw_nq : ∀ j : Nat, j < 17 → ∀ i : Nat, i < j → lw_fl[lw_off.getD j 0 + 4 + sk_len.getD j 0 + i]? = some (.not (.eq (lw_tm i) (lw_tm j))) := by decide +kernel
theorem lw_ta : ∀ i : Nat, i < 3 → lw_fl[10 + 16 * i]? = some (.arrayOf (lw_ts i) .int) := by decide +kernel
theorem lw_tl : ∀ i : Nat, i < 3 → lw_fl[11 + 16 * i]? = some (.eq (.length (lw_ts i)) (.int (Int32.ofNat 13))) := by decide +kernel
theorem lw_te : ∀ i : Nat, i < 3 → ∀ j : Nat, j < 13 → lw_fl[12 + 16 * i + j]? = some (.eq (.elem (lw_ts i) (.int (Int32.ofNat j))) (.int (Int32.ofInt ((lw_tb i).2.getD j 0)))) := by decide +kernel
theorem lw_cs : lw_fl[4]? = some (.eq (.static "java/lang/String" "COMPACT_STRINGS" "Z") (.int 1)) := by decide +kernel
theorem lw_sf : lw_fl[5]? = some (.isRef (.static "jdk/internal/util/Preconditions" "SIOOBE_FORMATTER" "Ljava/util/function/BiFunction;")) := by decide +kernel
theorem lw_inw : ∀ i : Nat, i < 11 → lw_tbl[lw_in.getD i 0]? = some (.instantiable (sk_C i).1 (sk_C i).2.2) := by decide +kernel
theorem lw_srw : ∀ i : Nat, i < 17 → lw_tbl[lw_sr.getD i 0]? = some (.stringRef (lw_q i).1 (lw_q i).2.1 (lw_q i).2.2) := by decide +kernel
theorem lw_ltw : ∀ i : Nat, i < 3 → lw_tbl[lw_lt.getD i 0]? = some (.laysStatic "SealKeeper$Reader" (lw_tb i).1 "[I") := by decide +kernel
theorem lw_nww : sk_nw = lw_nw.filterMap (fun i => lw_tbl[i]?) := by decide +kernel
theorem lw_nwo : ∀ w ∈ sk_nw, w.onTables = true := by decide +kernel
section LWE
variable {args : Array Value} {s : State} {A : Nat → Prop}
theorem lw_arr {ty : FieldType} (h : (Cond.arrayClass ty).before args s = true) : ∃ cA : ClassId, ArrOfT s cA ty ∧ s.vm.findClass ("[" ++ ty.toString) = some cA := by
  obtain ⟨cA, kA, comp, h1, h2, h3⟩ := Cond.arrayClass_spec h
  exact ⟨cA, fun n z => ⟨fun k h => (by cases h), kA, h2, comp, h3⟩, h1⟩
theorem lw_arrS {C : String} (h : (Cond.arrayOver (.object C)).before args s = true) : ∃ cA : ClassId, ArrOfT s cA (.object C) ∧ va_RA s cA (.object C) := by
  obtain ⟨comp, cA, kA, h1, -, h3, h4, h5⟩ := Cond.arrayOver_spec h
  exact ⟨cA, fun n z => ⟨fun k h => (by cases h), kA, h3, comp, h4⟩, kA, comp, h3, h4, h1, h5⟩
theorem lw_S_cg {N : Nat} {len : List Nat} {byt : List (List Int32)} {adK adV aK aV : Nat → Nat} {U : State} {H : Heap} (h : vk_S N len byt adK adV A U H) (h1 : ∀ i, i < N → aK i = adK i) (h2 : ∀ i, i < N → aV i = adV i) : vk_S N len byt aK aV A U H :=
  ⟨fun i hi => by rw [h1 i hi, h2 i hi]; exact h.1 i hi, fun i j hi hj e => h.2 i j hi hj (by rw [← h1 i hi, ← h1 j hj]; exact e)⟩
theorem lw_str (hf : ∀ c ∈ lw_fl, c.before args s = true) (hA : ∀ a : Nat, a < s.heap.size → ¬ A a) : ∃ adK adV : Nat → Nat, vk_S 17 sk_len sk_byt adK adV A s s.heap ∧ ∀ i : Nat, i < 17 → (lw_tm i).eval args s none [] s = some (.ref (adK i)) := by
  refine vk_Sof (tm := lw_tm) (by decide +kernel) (fun i hi => hf _ (List.mem_of_getElem? (lw_ex i hi))) (fun i hi => hf _ (List.mem_of_getElem? (lw_co i hi))) (fun i hi => hf _ (List.mem_of_getElem? (lw_ar i hi))) (fun i hi => hf _ (List.mem_of_getElem? (lw_le i hi))) (fun i hi j hj => hf _ (List.mem_of_getElem? (lw_el i hi j hj))) (fun i j hi hj hij => ?_) hA
  rcases Nat.lt_or_gt_of_ne hij with h | h
  · exact Or.inl (hf _ (List.mem_of_getElem? (lw_nq j hj i h)))
  · exact Or.inr (hf _ (List.mem_of_getElem? (lw_nq i hi j h)))
theorem lw_tab (hf : ∀ c ∈ lw_fl, c.before args s = true) (hA : ∀ a : Nat, a < s.heap.size → ¬ A a) (i : Nat) (hi : i < 3) : ∃ t : Nat, (lw_ts i).eval args s none [] s = some (.ref t) ∧ va_T .int t 13 (fun j => .int (Int32.ofInt ((lw_tb i).2.getD j 0))) A s s.heap :=
  va_Tof (f := fun j => .int (Int32.ofInt ((lw_tb i).2.getD j 0))) (by decide) (hf _ (List.mem_of_getElem? (lw_ta i hi))) (va_eqt (hf _ (List.mem_of_getElem? (lw_tl i hi)))) (fun j hj => va_eqt (hf _ (List.mem_of_getElem? (lw_te i hi j hj)))) hA
end LWE
theorem lw_q_of {i : Nat} {q : String × Nat × String} (h : sk_str[i]? = some q) : i < 17 ∧ lw_q i = q := by
  refine ⟨?_, by unfold lw_q; rw [List.getD_eq_getElem?_getD, h]; rfl⟩
  have := (List.getElem?_eq_some_iff.mp h).1
  exact this
theorem lw_tb_of {i : Nat} {q : String × List Int} (h : sk_tab[i]? = some q) : i < 3 ∧ lw_tb i = q := by
  refine ⟨?_, by unfold lw_tb; rw [List.getD_eq_getElem?_getD, h]; rfl⟩
  have := (List.getElem?_eq_some_iff.mp h).1
  exact this
theorem lw_cx {args : Array Value} {s : State} {b L : Nat} {xs : Nat → Int32} (hts : ∀ w ∈ lw_tbl, w.before args s = true) (hX : va_X b L xs s s.heap) (hbl : b < s.heap.size) (hgv : (Jvm.Cond.and given_1 narrow_1).before args s = true) :
    ∃ E : sk_En, sk_cx E s ∧ E.1 = s.heap.size ∧ E.2.2.2.1 30 = b ∧ E.2.2.2.2.2.1 = L := by
  have hf : ∀ c ∈ lw_fl, c.before args s = true := flat_of_before _ hgv
  have hw : ∀ {q : Nat} {w : Cond}, lw_tbl[q]? = some w → w.before args s = true := fun h => hts _ (List.mem_of_getElem? h)
  have hA : ∀ a : Nat, a < s.heap.size → ¬ (fun q : Nat => s.heap.size ≤ q) a := fun a h => Nat.not_le.mpr h
  obtain ⟨adK, adV, hS, hSe⟩ := lw_str hf hA
  have hT0 : ∀ i : Nat, ∃ t : Nat, i < 3 → (lw_ts i).eval args s none [] s = some (.ref t) ∧ va_T .int t 13 (fun j => .int (Int32.ofInt ((lw_tb i).2.getD j 0))) (fun q : Nat => s.heap.size ≤ q) s s.heap := by
    intro i
    by_cases hi : i < 3
    · obtain ⟨t, ht⟩ := lw_tab hf hA i hi
      exact ⟨t, fun _ => ht⟩
    · exact ⟨0, fun h => absurd h hi⟩
  obtain ⟨tb, htb⟩ := Classical.axiomOfChoice hT0
  have hC0 : ∀ i : Nat, ∃ q : ClassId × (Nat → Nat), i < 11 → u_Kn s (sk_C i).1 (sk_C i).2.1 (sk_C i).2.2 q.1 q.2 := by
    intro i
    by_cases hi : i < 11
    · obtain ⟨c, iS, h⟩ := u_known (C := (sk_C i).1) (T := (sk_C i).2.1) (N := (sk_C i).2.2) (n := (sk_C i).2.2) (ws := sk_gw) (fun w h => hts w (List.mem_filter.mp h).1) (sk_lays hi) (hw (lw_inw i hi))
      exact ⟨(c, iS), fun _ => h⟩
    · exact ⟨(0, fun _ => 0), fun h => absurd h hi⟩
  obtain ⟨dC, hdC⟩ := Classical.axiomOfChoice hC0
  obtain ⟨aI, aI1, aI2⟩ := lw_arr (hw (q := 119) (w := .arrayClass .int) (by decide +kernel))
  obtain ⟨aZ, aZ1, aZ2⟩ := lw_arr (hw (q := 413) (w := .arrayClass .boolean) (by decide +kernel))
  obtain ⟨aJ, aJ1, aJ2⟩ := lw_arr (hw (q := 412) (w := .arrayClass .long) (by decide +kernel))
  have hao := hw (q := 994) (w := .arrayOver (.object "java/lang/String")) (by decide +kernel)
  obtain ⟨aS, aS1, aS2⟩ := lw_arrS hao
  have hZc := va_Zof (A := fun q : Nat => s.heap.size ≤ q) (hw (q := 515) (w := .laysStatic "java/lang/String" "COMPACT_STRINGS" "Z") (by decide +kernel)) (hw (q := 87) (w := .initialized "java/lang/String") (by decide +kernel)) (va_eqi (hf _ (List.mem_of_getElem? lw_cs))) hA
  have hZf := va_Zqof (A := fun q : Nat => s.heap.size ≤ q) (hw (q := 532) (w := .laysStatic "jdk/internal/util/Preconditions" "SIOOBE_FORMATTER" "Ljava/util/function/BiFunction;") (by decide +kernel)) (hw (q := 89) (w := .initialized "jdk/internal/util/Preconditions") (by decide +kernel)) (hf _ (List.mem_of_getElem? lw_sf)) hA
  obtain ⟨ff, hZf⟩ : ∃ t : Nat, va_Z "jdk/internal/util/Preconditions" "SIOOBE_FORMATTER" "Ljava/util/function/BiFunction;" .null (fun q : Nat => s.heap.size ≤ q) s s.heap ∨ va_Z "jdk/internal/util/Preconditions" "SIOOBE_FORMATTER" "Ljava/util/function/BiFunction;" (.ref t) (fun q : Nat => s.heap.size ≤ q) s s.heap := by
    rcases hZf with h | ⟨t, h⟩
    · exact ⟨0, Or.inl h⟩
    · exact ⟨t, Or.inr h⟩
  have hir := hw (q := 80) (w := .initialized "SealKeeper$Reader") (by decide +kernel)
  obtain ⟨ext, e1, e2, e3, e4, e5⟩ : ∃ ext : Nat → Nat, (∀ i, i < 17 → ext i = adK i) ∧ (∀ i, i < 3 → ext (20 + i) = tb i) ∧ ext 30 = b ∧ ext 40 = ff ∧ ∀ i, i < 17 → ext (100 + i) = adV i := by
    refine ⟨fun i => if i < 17 then adK i else if i < 23 then tb (i - 20) else if i = 30 then b else if i = 40 then ff else adV (i - 100), fun i hi => ?_, fun i hi => ?_, rfl, rfl, fun i hi => ?_⟩
    · exact if_pos hi
    · simp only [show ¬ 20 + i < 17 by omega, show 20 + i < 23 by omega, if_true, if_false, show 20 + i - 20 = i by omega]
    · simp only [show ¬ 100 + i < 17 by omega, show ¬ 100 + i < 23 by omega, show ¬ 100 + i = 30 by omega, show ¬ 100 + i = 40 by omega, if_false, show 100 + i - 100 = i by omega]
  obtain ⟨aC, c0, c1, c2, c3⟩ : ∃ aC : Nat → ClassId, aC 0 = aI ∧ aC 1 = aZ ∧ aC 2 = aJ ∧ aC 3 = aS := ⟨fun i => if i = 0 then aI else if i = 1 then aZ else if i = 2 then aJ else aS, rfl, rfl, rfl, rfl⟩
  refine ⟨(s.heap.size, (fun i => (dC i).1, fun i => (dC i).2), aC, ext, fun i => ext (100 + i), L, xs), ⟨⟨fun c q hq => ?_, fun k q hk => ?_⟩, fun w hw' => ?_, va_AO.of hao, ⟨lw_S_cg hS e1 e5, fun i q hq => ?_, hZc, ?_, fun _ => rfl⟩, fun i q hq => ?_, ⟨?_, ?_, ?_⟩, Nat.le_refl _⟩, rfl, e3, rfl⟩
  · have hc : c < 11 := (List.getElem?_eq_some_iff.mp hq).1
    have := sk_cl hc
    rw [hq] at this
    cases this
    exact hdC c hc
  · match k, hk with
    | 0, hk =>
      cases hk
      show ArrOfT s (aC 0) .int ∧ s.vm.findClass ("[" ++ FieldType.int.toString) = some (aC 0)
      rw [c0]; exact ⟨aI1, aI2⟩
    | 1, hk =>
      cases hk
      show ArrOfT s (aC 1) .boolean ∧ s.vm.findClass ("[" ++ FieldType.boolean.toString) = some (aC 1)
      rw [c1]; exact ⟨aZ1, aZ2⟩
    | 2, hk =>
      cases hk
      show ArrOfT s (aC 2) .long ∧ s.vm.findClass ("[" ++ FieldType.long.toString) = some (aC 2)
      rw [c2]; exact ⟨aJ1, aJ2⟩
    | 3, hk =>
      cases hk
      show ArrOfT s (aC 3) (.object "java/lang/String") ∧ va_RA s (aC 3) (.object "java/lang/String")
      rw [c3]; exact ⟨aS1, aS2⟩
    | k + 4, hk => exact absurd hk (by simp [sk_tys])
  · have h1 := lw_nwo w hw'
    rw [lw_nww] at hw'
    obtain ⟨i, -, hi⟩ := List.mem_filterMap.mp hw'
    exact va_Nw.of h1 (hw hi)
  · obtain ⟨hi, rfl⟩ := lw_q_of hq
    show vk_R (lw_q i).1 (lw_q i).2.1 (lw_q i).2.2 (ext i) s
    rw [e1 i hi]
    exact vk_R.of (hw (lw_srw i hi)) (hSe i hi)
  · show va_Z _ _ _ .null _ s s.heap ∨ va_Z _ _ _ (.ref (ext 40)) _ s s.heap
    rw [e4]; exact hZf
  · obtain ⟨hi, rfl⟩ := lw_tb_of hq
    show va_Z "SealKeeper$Reader" (lw_tb i).1 "[I" (.ref (ext (20 + i))) _ s s.heap ∧ va_T .int (ext (20 + i)) 13 (fun j => .int (Int32.ofInt ((lw_tb i).2.getD j 0))) _ s s.heap
    rw [e2 i hi]
    exact ⟨va_Zref (hw (lw_ltw i hi)) hir (htb i hi).1 hA, (htb i hi).2⟩
  · show va_X (ext 30) L xs s s.heap
    rw [e3]; exact hX
  · show ext 30 < s.heap.size
    rw [e3]; exact hbl
  · show ext 30 < s.heap.size
    rw [e3]; exact hbl
