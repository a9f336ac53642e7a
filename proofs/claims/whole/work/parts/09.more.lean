/-! ===== returns, switches, constants, what lies outside, making ===== -/
section SKO
variable {l : Launch} {E : sk_En} {d mc ms : Nat} {M : sk_M} {pc pc0 len nxt : Nat} {aux : List Nat} {ls : List (Option sk_V)} {st : List sk_V} {G : List sk_Sh} {σ : sk_St} {I : sk_SI} {L : sk_SL} {J : sk_SR} {Q : Option sk_V → List sk_Sh → sk_St → Prop}
theorem sk_retA {v : Option sk_V} (hret : sk_ok M → sk_ret M pc v) (hst : st = v.toList) (hq : Q v G σ) : AW l E d 0 ms M pc ls st G σ Q := by
  intro hM p e R s m args below meth c H locs cells slots Qf ar hF hR hl hc hs hfin
  subst hst
  have := hfin v G σ pc ar H locs slots hq hR (hret hM) (by simpa using hc.2) (by omega)
  have he : v.toList.map (sk_v E) = (v.map (sk_v E)).toList := by cases v <;> rfl
  rw [he]
  exact this
theorem AW_iret {x : Int} (h : sk_find pc M.2.2.2.2 = some (pc0, .ireturn, len, nxt, aux)) (hr : M.2.2.2.1 = some .int) (hq : Q (some (vi x)) G σ) : AW l E d 0 ms M pc ls [vi x] G σ Q := by
  refine sk_retA (v := some (vi x)) (fun hM => ?_) rfl hq
  obtain ⟨hd, -, -, hlen⟩ := sk_dec hM h
  obtain rfl : 1 = len := hlen.resolve_left (by simp [sk_il])
  exact ⟨hd, .int, hr, rfl⟩
theorem AW_zret {x : Int} (h : sk_find pc M.2.2.2.2 = some (pc0, .ireturn, len, nxt, aux)) (hr : M.2.2.2.1 = some .boolean) (hx : x = 0 ∨ x = 1) (hq : Q (some (vi x)) G σ) : AW l E d 0 ms M pc ls [vi x] G σ Q := by
  refine sk_retA (v := some (vi x)) (fun hM => ?_) rfl hq
  obtain ⟨hd, -, -, hlen⟩ := sk_dec hM h
  obtain rfl : 1 = len := hlen.resolve_left (by simp [sk_il])
  exact ⟨hd, .boolean, hr, (sk_b01 hx).1⟩
theorem AW_lret {x : Int64} (h : sk_find pc M.2.2.2.2 = some (pc0, .lreturn, len, nxt, aux)) (hr : M.2.2.2.1 = some .long) (hq : Q (some (vl x)) G σ) : AW l E d 0 ms M pc ls [vl x] G σ Q := by
  refine sk_retA (v := some (vl x)) (fun hM => ?_) rfl hq
  obtain ⟨hd, -, -, hlen⟩ := sk_dec hM h
  obtain rfl : 1 = len := hlen.resolve_left (by simp [sk_il])
  exact ⟨hd, hr⟩
theorem AW_vret (h : sk_find pc M.2.2.2.2 = some (pc0, .return_, len, nxt, aux)) (hr : M.2.2.2.1 = none) (hq : Q none G σ) : AW l E d 0 ms M pc ls [] G σ Q := by
  refine sk_retA (v := none) (fun hM => ?_) rfl hq
  obtain ⟨hd, -, -, hlen⟩ := sk_dec hM h
  obtain rfl : 1 = len := hlen.resolve_left (by simp [sk_il])
  exact ⟨hd, hr⟩
/-- the same int in another word -/
theorem AW_top {a b : Int} (h : a = b) (k : AW l E d mc ms M pc ls (vi b :: st) G σ Q) : AW l E d mc ms M pc ls (vi a :: st) G σ Q := h ▸ k
theorem AW_wrap {a b : Int} (h : Int32.ofInt a = Int32.ofInt b) (k : AW l E d mc ms M pc ls (vi b :: st) G σ Q) : AW l E d mc ms M pc ls (vi a :: st) G σ Q := by
  intro hM p e R s m args below meth c H locs cells slots Qf ar hF hR hl hc hs hfin
  have := k hM p e R s m args below meth c H locs cells slots Qf ar hF hR hl hc hs hfin
  simp only [List.map_cons, sk_v] at this ⊢
  rw [h]
  exact this
theorem sk_nI_of {a : Int} (h : 0 ≤ a) : Int32.ofInt a = nI a.toNat := by
  obtain ⟨n, rfl⟩ := Int.eq_ofNat_of_zero_le h
  rw [Int.toNat_natCast]
  exact Int32.ofInt_eq_ofNat
theorem AW_idiv {a b : Int} (h : sk_find pc M.2.2.2.2 = some (pc0, .idiv, len, nxt, aux)) (ha : 0 ≤ a ∧ a ≤ 2147483647) (hb : 0 < b ∧ b ≤ 2147483647) (k : AW l E d mc ms M nxt ls (vi (a / b) :: st) G σ Q) : AW l E d mc ms M pc ls (vi b :: vi a :: st) G σ Q := by
  intro hM p e R s m args below meth c H locs cells slots Qf ar hF hR hl hc hs hfin
  obtain ⟨hd, rfl, hA, hlen⟩ := sk_dec hM h
  obtain rfl : 1 = len := hlen.resolve_left (by simp [sk_il])
  have k1 := k hM p e R s m args below meth c H locs cells slots Qf ar hF hR hl hc hs hfin
  have hdiv : Int32.ofInt a / Int32.ofInt b = Int32.ofInt (a / b) := by
    have h0 : 0 ≤ a / b := Int.ediv_nonneg ha.1 (by omega)
    rw [sk_nI_of ha.1, sk_nI_of (by omega : 0 ≤ b), pk_div (by omega) (by omega) (by omega), sk_nI_of h0]
    congr 1
    obtain ⟨n, rfl⟩ := Int.eq_ofNat_of_zero_le ha.1
    obtain ⟨m, rfl⟩ := Int.eq_ofNat_of_zero_le (show 0 ≤ b by omega)
    simp only [Int.toNat_natCast]
    omega
  refine lv_idiv hF.1 hF.2.1 hd ?_ (by rw [hdiv]; exact k1)
  intro e0
  have := (sk_eq_iff (a := b) (b := 0) ⟨by omega, by omega⟩ sk_in0).mp e0
  omega
theorem AW_irem {a b : Int} (h : sk_find pc M.2.2.2.2 = some (pc0, .irem, len, nxt, aux)) (ha : 0 ≤ a ∧ a ≤ 2147483647) (hb : 0 < b ∧ b ≤ 2147483647) (k : AW l E d mc ms M nxt ls (vi (a % b) :: st) G σ Q) : AW l E d mc ms M pc ls (vi b :: vi a :: st) G σ Q := by
  intro hM p e R s m args below meth c H locs cells slots Qf ar hF hR hl hc hs hfin
  obtain ⟨hd, rfl, hA, hlen⟩ := sk_dec hM h
  obtain rfl : 1 = len := hlen.resolve_left (by simp [sk_il])
  have k1 := k hM p e R s m args below meth c H locs cells slots Qf ar hF hR hl hc hs hfin
  have hdiv : Int32.ofInt a - Int32.ofInt a / Int32.ofInt b * Int32.ofInt b = Int32.ofInt (a % b) := by
    have h0 : 0 ≤ a % b := Int.emod_nonneg a (by omega)
    rw [sk_nI_of ha.1, sk_nI_of (by omega : 0 ≤ b), pk_rem (by omega) (by omega) (by omega), sk_nI_of h0]
    congr 1
    obtain ⟨n, rfl⟩ := Int.eq_ofNat_of_zero_le ha.1
    obtain ⟨m, rfl⟩ := Int.eq_ofNat_of_zero_le (show 0 ≤ b by omega)
    simp only [Int.toNat_natCast]
    omega
  refine lv_irem hF.1 hF.2.1 hd ?_ (by rw [hdiv]; exact k1)
  intro e0
  have := (sk_eq_iff (a := b) (b := 0) ⟨by omega, by omega⟩ sk_in0).mp e0
  omega
theorem AW_tin {x df lo hi : Int} {offs : Array Int} {t0 t : Nat} {ts : List Nat} (i : Nat) (h : sk_find pc M.2.2.2.2 = some (pc0, (.tableswitch df lo hi offs), len, nxt, t0 :: ts)) (hx : x = lo + i) (ht : ts[i]? = some t) (hin : sk_in x) (k : AW l E d mc ms M t ls st G σ Q) : AW l E d mc ms M pc ls (vi x :: st) G σ Q := by
  intro hM p e R s m args below meth c H locs cells slots Qf ar hF hR hl hc hs hfin
  obtain ⟨hd, -, hA, -⟩ := sk_dec hM h
  have hA : (decide ((pc : Int) + df = (t0 : Int)) && decide (offs.toList.map (fun o => (pc : Int) + o) = ts.map (fun (t : Nat) => (t : Int))) && decide (hi - lo + 1 = (ts.length : Int))) = true := hA
  simp only [Bool.and_eq_true, decide_eq_true_eq] at hA
  have hi1 : i < ts.length := (List.getElem?_eq_some_iff.mp ht).1
  have h1 : (offs.toList.map (fun o => (pc : Int) + o))[i]? = some (t : Int) := by rw [hA.1.2, List.getElem?_map, ht]; rfl
  rw [List.getElem?_map, Option.map_eq_some_iff] at h1
  obtain ⟨o, ho, hot⟩ := h1
  refine lv_tableIn hF.1 hF.2.1 hd ?_ ?_ (off := o) ?_ hot (k hM p e R s m args below meth c H locs cells slots Qf ar hF hR hl hc hs hfin)
  · rw [sk_toInt hin]; omega
  · rw [sk_toInt hin]; omega
  · rw [sk_toInt hin, show (x - lo).toNat = i by omega, ← Array.getElem?_toList]; exact ho
theorem AW_tout {x df lo hi : Int} {offs : Array Int} {t0 : Nat} {ts : List Nat} (h : sk_find pc M.2.2.2.2 = some (pc0, (.tableswitch df lo hi offs), len, nxt, t0 :: ts)) (hx : x < lo ∨ hi < x) (hin : sk_in x) (k : AW l E d mc ms M t0 ls st G σ Q) : AW l E d mc ms M pc ls (vi x :: st) G σ Q := by
  intro hM p e R s m args below meth c H locs cells slots Qf ar hF hR hl hc hs hfin
  obtain ⟨hd, -, hA, -⟩ := sk_dec hM h
  have hA : (decide ((pc : Int) + df = (t0 : Int)) && decide (offs.toList.map (fun o => (pc : Int) + o) = ts.map (fun (t : Nat) => (t : Int))) && decide (hi - lo + 1 = (ts.length : Int))) = true := hA
  simp only [Bool.and_eq_true, decide_eq_true_eq] at hA
  exact lv_tableOut hF.1 hF.2.1 hd (by rw [sk_toInt hin]; exact hx) hA.1.1 (k hM p e R s m args below meth c H locs cells slots Qf ar hF hR hl hc hs hfin)
theorem AW_lsw {x df : Int} {ps : Array (Int × Int)} {off : Int} {t : Nat} (h : sk_find pc M.2.2.2.2 = some (pc0, (.lookupswitch df ps), len, nxt, aux)) (hp : (ps.toList.zip (ps.toList.drop 1)).all (fun (a, next) => a.1 < next.1) = true) (ho : Op.lookupswitch.offset ps.toList df x = off) (ht : (pc : Int) + off = (t : Int)) (hin : sk_in x) (k : AW l E d mc ms M t ls st G σ Q) : AW l E d mc ms M pc ls (vi x :: st) G σ Q := by
  intro hM p e R s m args below meth c H locs cells slots Qf ar hF hR hl hc hs hfin
  obtain ⟨hd, -, hA, -⟩ := sk_dec hM h
  exact lv_lookup hF.1 hF.2.1 hd hp (by rw [sk_toInt hin]; exact ho) ht (k hM p e R s m args below meth c H locs cells slots Qf ar hF hR hl hc hs hfin)
theorem AW_ldcM {idx q : Nat} (h : sk_find pc M.2.2.2.2 = some (pc0, (.ldc idx), len, nxt, [99, q])) (k : AW l E d mc ms M nxt ls (vi 1000000 :: st) G σ Q) : AW l E d mc ms M pc ls st G σ Q := by
  intro hM p e R s m args below meth c H locs cells slots Qf ar hF hR hl hc hs hfin
  obtain ⟨hd, rfl, hA, hlen⟩ := sk_dec hM h
  obtain rfl : 2 = len := hlen.resolve_left (by simp [sk_il])
  have hA : (decide (sk_str[99]?.map (fun t => (t.1, t.2.1)) = some (M.1.cls, idx)) || (Nat.beq 99 99 && decide (lw_tbl[q]? = some (.constant M.1.cls idx 1000000)))) = true := hA
  have hA : lw_tbl[q]? = some (.constant M.1.cls idx 1000000) := by
    rw [Bool.or_eq_true, Bool.and_eq_true, decide_eq_true_eq, decide_eq_true_eq] at hA
    rcases hA with hA | hA
    · exact absurd hA (by simp [sk_str])
    · exact hA.2
  exact lv_ldc hF.1 hF.2.1 hF.2.2.2.2.1 (hF.2.2.2.2.2.2.2.1 _ (sk_wd hA rfl)) hd (k hM p e R s m args below meth c H locs cells slots Qf ar hF hR hl hc hs hfin)
theorem AW_ldc2 {idx : Nat} {x : Int64} (h : sk_find pc M.2.2.2.2 = some (pc0, (.ldc2_w idx), len, nxt, aux)) (hw : Cond.constantLong M.1.cls idx x ∈ sk_gw) (k : AW l E d mc ms M nxt ls (vl x :: st) G σ Q) : AW l E d mc ms M pc ls st G σ Q := by
  intro hM p e R s m args below meth c H locs cells slots Qf ar hF hR hl hc hs hfin
  obtain ⟨hd, rfl, hA, hlen⟩ := sk_dec hM h
  obtain rfl : 3 = len := hlen.resolve_left (by simp [sk_il])
  exact lv_ldc2 hF.1 hF.2.1 hF.2.2.2.2.1 (hF.2.2.2.2.2.2.2.1 _ hw) hd (k hM p e R s m args below meth c H locs cells slots Qf ar hF hR hl hc hs hfin)
theorem AW_ldcS {idx x q : Nat} {t : String × Nat × String} (h : sk_find pc M.2.2.2.2 = some (pc0, (.ldc idx), len, nxt, [x, q])) (ht : sk_str[x]? = some t) (ht2 : t.1 = M.1.cls ∧ t.2.1 = idx) (k : AW l E d mc ms M nxt ls (vr (1000 + x) :: st) G σ Q) : AW l E d mc ms M pc ls st G σ Q := by
  intro hM p e R s m args below meth c H locs cells slots Qf ar hF hR hl hc hs hfin
  obtain ⟨hd, rfl, hA, hlen⟩ := sk_dec hM h
  obtain rfl : 2 = len := hlen.resolve_left (by simp [sk_il])
  have k1 := k hM p e R s m args below meth c H locs cells slots Qf ar hF hR hl hc hs hfin
  have hv : sk_v E (vr (1000 + x)) = .ref (E.2.2.2.1 x) := by
    show Value.ref (sk_ad E (1000 + x)) = _
    unfold sk_ad
    rw [if_neg (by omega), Nat.add_sub_cancel_left]
  rw [List.map_cons, hv] at k1
  have hz := hF.2.2.2.2.2.2.2.2.1.2.2.2.1.2.1 x t ht
  rw [ht2.1, ht2.2] at hz
  exact va_ldcS hF.1 hF.2.1 hF.2.2.2.2.1 hz hd k1
theorem sk_xv (x : Nat) : sk_v E (vr (1020 + x)) = .ref (E.2.2.2.1 (20 + x)) := by
  show Value.ref (sk_ad E (1020 + x)) = _
  unfold sk_ad
  rw [if_neg (by omega), show 1020 + x - 1000 = 20 + x by omega]
theorem AW_gets {idx x q : Nat} (h : sk_find pc M.2.2.2.2 = some (pc0, (.getstatic idx), len, nxt, [x, q])) (k : AW l E d mc ms M nxt ls (vr (1020 + x) :: st) G σ Q) : AW l E d mc ms M pc ls st G σ Q := by
  intro hM p e R s m args below meth c H locs cells slots Qf ar hF hR hl hc hs hfin
  obtain ⟨hd, rfl, hA, hlen⟩ := sk_dec hM h
  obtain rfl : 3 = len := hlen.resolve_left (by simp [sk_il])
  have hA : (decide (lw_tbl[q]? = some (.fieldLink M.1.cls idx "SealKeeper$Reader" (sk_tab.getD x ("", [])).1 "[I")) && Nat.blt x 3) = true := hA
  rw [Bool.and_eq_true, decide_eq_true_eq, Nat.blt_eq] at hA
  have k1 := k hM p e R s m args below meth c H locs cells slots Qf ar hF hR hl hc hs hfin
  rw [List.map_cons, sk_xv] at k1
  have ht : sk_tab[x]? = some (sk_tab.getD x ("", [])) := by
    have : x < sk_tab.length := hA.2
    rw [List.getD_eq_getElem?_getD, List.getElem?_eq_getElem this]
    rfl
  exact va_gets hF.1 hF.2.1 (hF.2.2.2.2.2.2.2.2.1.2.2.2.2.1 x _ ht).1 hR.2.2 hF.2.2.2.2.1 (hF.2.2.2.2.2.2.2.1 _ (sk_wd hA.1 rfl)) (fun _ h => h) hd k1
theorem AW_xld {x : Nat} {i : Int} {t : String × List Int} (h : sk_find pc M.2.2.2.2 = some (pc0, .iaload, len, nxt, aux)) (ht : sk_tab[x]? = some t) (hi : 0 ≤ i ∧ i < 13) (k : AW l E d mc ms M nxt ls (vi (t.2.getD i.toNat 0) :: st) G σ Q) : AW l E d mc ms M pc ls (vi i :: vr (1020 + x) :: st) G σ Q := by
  intro hM p e R s m args below meth c H locs cells slots Qf ar hF hR hl hc hs hfin
  obtain ⟨hd, rfl, hA, hlen⟩ := sk_dec hM h
  obtain rfl : 1 = len := hlen.resolve_left (by simp [sk_il])
  have k1 := k hM p e R s m args below meth c H locs cells slots Qf ar hF hR hl hc hs hfin
  show W p l e R s m args below meth c H locs cells slots Qf (F0 m pc ar (.int (Int32.ofInt i) :: sk_v E (vr (1020 + x)) :: st.map (sk_v E)))
  rw [sk_xv]
  refine va_ti hF.1 hF.2.1 (hF.2.2.2.2.2.2.2.2.1.2.2.2.2.1 x _ ht).2 hR.2.2 (sk_vin hi.1 (by omega) (by decide)) (v := .int (Int32.ofInt (t.2.getD i.toNat 0))) ?_ hd k1
  have := sk_nat hi.1 (by omega)
  rw [show (Int32.ofInt i).toNatClampNeg = i.toNat by omega]
theorem AW_xlen {x : Nat} (h : sk_find pc M.2.2.2.2 = some (pc0, .arraylength, len, nxt, aux)) (hx : x < 3) (k : AW l E d mc ms M nxt ls (vi 13 :: st) G σ Q) : AW l E d mc ms M pc ls (vr (1020 + x) :: st) G σ Q := by
  intro hM p e R s m args below meth c H locs cells slots Qf ar hF hR hl hc hs hfin
  obtain ⟨hd, rfl, hA, hlen⟩ := sk_dec hM h
  obtain rfl : 1 = len := hlen.resolve_left (by simp [sk_il])
  have k1 := k hM p e R s m args below meth c H locs cells slots Qf ar hF hR hl hc hs hfin
  show W p l e R s m args below meth c H locs cells slots Qf (F0 m pc ar (sk_v E (vr (1020 + x)) :: st.map (sk_v E)))
  rw [sk_xv]
  have ht : sk_tab[x]? = some (sk_tab.getD x ("", [])) := by
    have : x < sk_tab.length := hx
    rw [List.getD_eq_getElem?_getD, List.getElem?_eq_getElem this]
    rfl
  exact va_tlen hF.1 hF.2.1 (hF.2.2.2.2.2.2.2.2.1.2.2.2.2.1 x _ ht).2 hR.2.2 (v := Int32.ofInt 13) rfl hd k1
theorem sk_xs : sk_v E (vr 1030) = .ref (E.2.2.2.1 30) := by
  show Value.ref (sk_ad E 1030) = _
  unfold sk_ad
  rw [if_neg (by omega)]
theorem AW_sld {i : Int} (h : sk_find pc M.2.2.2.2 = some (pc0, .iaload, len, nxt, aux)) (hi : 0 ≤ i ∧ i < E.2.2.2.2.2.1) (hL : E.2.2.2.2.2.1 < 2147483648) (k : AW l E d mc ms M nxt ls (vi (E.2.2.2.2.2.2 i.toNat).toInt :: st) G σ Q) : AW l E d mc ms M pc ls (vi i :: vr 1030 :: st) G σ Q := by
  intro hM p e R s m args below meth c H locs cells slots Qf ar hF hR hl hc hs hfin
  obtain ⟨hd, rfl, hA, hlen⟩ := sk_dec hM h
  obtain rfl : 1 = len := hlen.resolve_left (by simp [sk_il])
  have k1 := k hM p e R s m args below meth c H locs cells slots Qf ar hF hR hl hc hs hfin
  show W p l e R s m args below meth c H locs cells slots Qf (F0 m pc ar (.int (Int32.ofInt i) :: sk_v E (vr 1030) :: st.map (sk_v E)))
  rw [sk_xs]
  have hx := hF.2.2.2.2.2.2.2.2.1.2.2.2.2.2.1
  refine va_sld hF.1 hF.2.1 hx.1 hx.2.1 (Nat.not_le.mpr hx.2.2) hR.2.2 (sk_vin hi.1 hi.2 hL) hd ?_
  have := sk_nat hi.1 (by omega)
  rw [show (Int32.ofInt i).toNatClampNeg = i.toNat by omega]
  rw [List.map_cons] at k1
  simp only [sk_v, sk_oi] at k1
  exact k1
theorem AW_slen (h : sk_find pc M.2.2.2.2 = some (pc0, .arraylength, len, nxt, aux)) (k : AW l E d mc ms M nxt ls (vi (E.2.2.2.2.2.1 : Int) :: st) G σ Q) : AW l E d mc ms M pc ls (vr 1030 :: st) G σ Q := by
  intro hM p e R s m args below meth c H locs cells slots Qf ar hF hR hl hc hs hfin
  obtain ⟨hd, rfl, hA, hlen⟩ := sk_dec hM h
  obtain rfl : 1 = len := hlen.resolve_left (by simp [sk_il])
  have k1 := k hM p e R s m args below meth c H locs cells slots Qf ar hF hR hl hc hs hfin
  show W p l e R s m args below meth c H locs cells slots Qf (F0 m pc ar (sk_v E (vr 1030) :: st.map (sk_v E)))
  rw [sk_xs]
  have hx := hF.2.2.2.2.2.2.2.2.1.2.2.2.2.2.1
  refine va_slen hF.1 hF.2.1 hx.1 hx.2.1 (Nat.not_le.mpr hx.2.2) hR.2.2 hd ?_
  rw [← Int32.ofInt_eq_ofNat]
  exact k1
/-! making -/
def sk_nI (I : sk_SI) (k : Nat) : sk_SI := fun k' => if k' = k then fun _ => 0 else I k'
def sk_nL (I : sk_SL) (k : Nat) : sk_SL := fun k' => if k' = k then fun _ => 0 else I k'
def sk_nJ (I : sk_SR) (k : Nat) : sk_SR := fun k' => if k' = k then fun _ => none else I k'
theorem sk_w_push {σ σ' : sk_St} {sh : sk_Sh} (ho : ∀ (k' : Nat) (sh' : sk_Sh), k' < G.length → sk_cell E σ' k' sh' = sk_cell E σ k' sh') : sk_w E (G ++ [sh]) σ' = sk_w E G σ ++ [(E.1 + G.length, sk_cell E σ' G.length sh)] := by
  apply List.ext_getElem?
  intro i
  rw [sk_w_get]
  by_cases hi : i < G.length
  · rw [List.getElem?_append_left hi, List.getElem?_append_left (by simpa [sk_w] using hi), sk_w_get, List.getElem?_eq_getElem hi]
    simp [ho i _ hi]
  · rw [List.getElem?_append_right (by omega), List.getElem?_append_right (by simpa [sk_w] using hi)]
    by_cases h0 : i = G.length
    · subst h0; simp [sk_w]
    · rw [List.getElem?_eq_none (by simp; omega), List.getElem?_eq_none (by simp [sk_w]; omega)]; rfl
theorem sk_new_o (k : Nat) (sh : sk_Sh) (h : k < G.length) : sk_cell E (sk_nI I G.length, sk_nL L G.length, sk_nJ J G.length) k sh = sk_cell E (I, L, J) k sh := by
  have h1 : k ≠ G.length := by omega
  exact sk_cell_o sh (by simp [sk_nI, h1]) (by simp [sk_nL, h1]) (by simp [sk_nJ, h1])
/-- a new cell: where it comes to lie -/
theorem sk_top {σ : sk_St} {p : Program} {e : Env} {R : Room} {s : State} {m : MethodId} {args : Array Value} {below : List Frame} {meth : Method} {c : Code} {H : Heap} {locs : List Loc} {cells slots : Nat} {T : State} (X : Stand p l e R s m args below meth c T locs cells slots) (hT : T.heap = H) (hR : sk_R E G σ s H locs) (hb : E.1 ≤ s.heap.size) (hz : s.heap.size + cells ≤ E.1 + G.length) : H.size = E.1 + G.length := by
  have h1 := X.heapSize
  have h2 := sk_low hR.1 (Nat.le_trans hb hR.2.2.1)
  rw [hT] at h1
  omega
end SKO
