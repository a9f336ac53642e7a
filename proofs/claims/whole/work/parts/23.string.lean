/-! ===== Strings: length, charAt of the constants ===== -/
section SKS1
variable {l : Launch} {E : sk_En} {d mc ms : Nat} {M : sk_M} {pc pc0 len nxt idx x : Nat} {aux : List Nat} {ls : List (Option sk_V)} {st : List sk_V} {G : List sk_Sh} {σ : sk_St} {Q : Option sk_V → List sk_Sh → sk_St → Prop}
theorem sk_sv (x : Nat) : sk_v E (vr (1000 + x)) = .ref (E.2.2.2.1 x) := by
  show Value.ref (sk_ad E (1000 + x)) = _
  unfold sk_ad
  rw [if_neg (by omega), Nat.add_sub_cancel_left]
theorem sk_sb2 (x : Nat) : sk_v E (vr (1100 + x)) = .ref (E.2.2.2.1 (100 + x)) := by
  show Value.ref (sk_ad E (1100 + x)) = _
  unfold sk_ad
  rw [if_neg (by omega), show 1100 + x - 1000 = 100 + x by omega]
theorem AW_callX {M' : sk_M} {n d' : Nat} {as rest : List sk_V} (h : sk_find pc M.2.2.2.2 = some (pc0, (.invokevirtual idx), len, nxt, aux)) (hL : sk_lV M.1.cls idx M') (hC : sk_lC n M') (hp : sk_pop (n + 1) st [] = some (vr (1000 + x) :: as, rest)) (hx : x < 17) (hci : M'.1.cls = "java/lang/String") (hW : Nat.ble (sk_cs rest) 8 = true) (hen : (sk_sl (vr (1000 + x) :: as)).length ≤ M'.2.2.1) (hd : d' + 1 ≤ d)
    (kk : AW l E d' 0 0 M' 0 (sk_en M'.2.2.1 (vr (1000 + x) :: as)) [] G σ (fun v G' σ' => AW l E d mc ms M nxt ls (v.toList ++ rest) G' σ' Q)) : AW l E d mc ms M pc ls st G σ Q := by
  intro hM p e R s m args below meth c H locs cells slots Qf ar hF hR hl hc hs hfin
  obtain ⟨hdc, rfl, hA, hlen⟩ := sk_dec hM h
  obtain rfl : 3 = len := hlen.resolve_left (by simp [sk_il])
  obtain ⟨rfl, has⟩ := sk_pop_st hp
  have has : as.length = n := by simpa using has
  have hmet := sk_met hC hen kk
  have hts := hF.2.2.2.2.2.2.2.1
  intro T hT X
  have hsz := X.heapSize
  obtain ⟨cell, c1, c2, c3⟩ := vk_recv hF.2.2.2.2.2.2.2.2.1.2.2.2.1.1 hx hR.2.2
  refine sk_behind (d := d) (mc := mc) (ms := ms) (mc' := 0) (ms' := 0) (rest := rest) (va_runV (cc := M.2.1) (nL := M.2.2.1) (Ts := sk_gw) (own := M.1.cls) (C := M'.1.cls) (index := idx) (bytes := M'.2.1) (maxL := M'.2.2.1) (ret := M'.2.2.2.1) (n := n) (b := E.2.2.2.1 x) (As := as.map (sk_v E)) (rest := rest.map (sk_v E)) ⟨hF.1, hF.2.1, hF.2.2.2.1, hF.2.2.2.2.1, hts⟩ hmet ?_ ⟨sk_Pc_blind E _ _ _, ⟨cell, c1, c2, by rw [hci]; exact c3⟩, fun U hU hWm => ⟨?_, sk_cx_move hF.2.2.2.2.2.2.2.2.1 hWm (by rw [hU]; exact hR.2.2), by rw [hU]; exact hR.1, ?_, hR.2.1⟩⟩ rfl (by simpa using has) hl.1 ?_ ?_ hdc ⟨by omega, by omega⟩) hM hF hR.2.2 ?_ hl (by omega) (by omega) (fun v G' σ' pc' ar' H' locs' slots' q1 q2 q3 q4 q5 => ?_) T hT X
  · refine ⟨callB_of n hts (sk_gG hC.2.1) rfl rfl rfl (hts _ hC.2.2.1) (hts _ hL.1) hC.2.2.2.2.2 ⟨?_, ?_⟩, hts _ hL.2.1, hts _ hL.2.2⟩
    · have := hF.2.2.2.2.2.2.2.2.2.1
      show d' + 1 ≤ R.frames
      omega
    · have := hF.2.2.2.2.2.2.2.2.2.2
      have := hC.2.2.2.2.1
      show 8 + (M'.2.2.1 + 11) + 41 * d' ≤ R.locals
      omega
  · rw [List.map_cons, sk_sv]
  · rw [hU, ← hT]; omega
  · show ((vr (1000 + x) :: as).reverse ++ rest).map (sk_v E) = _
    simp only [List.reverse_cons, List.map_append, List.map_reverse, List.map_cons, List.map_nil, List.append_assoc, List.singleton_append, List.cons_append, List.nil_append]
    rw [sk_sv]
  · show 2 * 0 + ((rest.map (sk_v E)).map fun v => v.category).sum ≤ 8
    rw [sk_cs_eq]
    have := Nat.le_of_ble_eq_true hW
    omega
  · have := sk_low hR.1 (Nat.le_trans hF.2.2.2.2.2.2.2.2.1.2.2.2.2.2.2 hR.2.2.1)
    omega
  · rw [Nat.zero_add] at q4 ⊢
    exact hfin v G' σ' pc' ar' H' locs' slots' q1 q2 q3 q4 q5
theorem AW_xval (hd : decode M.2.1 pc = .ok (.getfield idx, 3)) (hw : Cond.fieldLink M.1.cls idx "java/lang/String" "value" "[B" ∈ sk_gw) (hx : x < 17) (hn : nxt = pc + 3) (k : AW l E d mc ms M nxt ls (vr (1100 + x) :: st) G σ Q) : AW l E d mc ms M pc ls (vr (1000 + x) :: st) G σ Q := by
  subst hn
  intro hM p e R s m args below meth c H locs cells slots Qf ar hF hR hl hc hs hfin
  have k1 := k hM p e R s m args below meth c H locs cells slots Qf ar hF hR hl hc hs hfin
  have hcx := hF.2.2.2.2.2.2.2.2.1
  show W p l e R s m args below meth c H locs cells slots Qf (F0 m pc ar (sk_v E (vr (1000 + x)) :: st.map (sk_v E)))
  rw [sk_sv]
  rw [List.map_cons, sk_sb2, ← hcx.2.2.2.1.2.2.2.2 x] at k1
  exact vk_getf hF.1 hF.2.1 (hcx.2.2.2.1.1.1 x hx).2.2.1 hR.2.2 hF.2.2.2.2.1 (hF.2.2.2.2.2.2.2.1 _ hw) (fun _ h => h) hd k1
theorem AW_xcod (hd : decode M.2.1 pc = .ok (.getfield idx, 3)) (hw : Cond.fieldLink M.1.cls idx "java/lang/String" "coder" "B" ∈ sk_gw) (hx : x < 17) (hn : nxt = pc + 3) (k : AW l E d mc ms M nxt ls (vi 0 :: st) G σ Q) : AW l E d mc ms M pc ls (vr (1000 + x) :: st) G σ Q := by
  subst hn
  intro hM p e R s m args below meth c H locs cells slots Qf ar hF hR hl hc hs hfin
  have k1 := k hM p e R s m args below meth c H locs cells slots Qf ar hF hR hl hc hs hfin
  have hcx := hF.2.2.2.2.2.2.2.2.1
  show W p l e R s m args below meth c H locs cells slots Qf (F0 m pc ar (sk_v E (vr (1000 + x)) :: st.map (sk_v E)))
  rw [sk_sv]
  exact vk_getf hF.1 hF.2.1 (hcx.2.2.2.1.1.1 x hx).2.1 hR.2.2 hF.2.2.2.2.1 (hF.2.2.2.2.2.2.2.1 _ hw) (fun _ h => h) hd k1
theorem AW_xcmp (hd : decode M.2.1 pc = .ok (.getstatic idx, 3)) (hw : Cond.fieldLink M.1.cls idx "java/lang/String" "COMPACT_STRINGS" "Z" ∈ sk_gw) (hn : nxt = pc + 3) (k : AW l E d mc ms M nxt ls (vi 1 :: st) G σ Q) : AW l E d mc ms M pc ls st G σ Q := by
  subst hn
  intro hM p e R s m args below meth c H locs cells slots Qf ar hF hR hl hc hs hfin
  have k1 := k hM p e R s m args below meth c H locs cells slots Qf ar hF hR hl hc hs hfin
  have hcx := hF.2.2.2.2.2.2.2.2.1
  exact va_gets hF.1 hF.2.1 hcx.2.2.2.1.2.2.1 hR.2.2 hF.2.2.2.2.1 (hF.2.2.2.2.2.2.2.1 _ hw) (fun _ h => h) hd k1
theorem AW_xfmt (hd : decode M.2.1 pc = .ok (.getstatic idx, 3)) (hw : Cond.fieldLink M.1.cls idx "jdk/internal/util/Preconditions" "SIOOBE_FORMATTER" "Ljava/util/function/BiFunction;" ∈ sk_gw) (hn : nxt = pc + 3) (k : ∀ r : Option Nat, AW l E d mc ms M nxt ls (.inr (.inr r) :: st) G σ Q) : AW l E d mc ms M pc ls st G σ Q := by
  subst hn
  intro hM p e R s m args below meth c H locs cells slots Qf ar hF hR hl hc hs hfin
  have hcx := hF.2.2.2.2.2.2.2.2.1
  rcases hcx.2.2.2.1.2.2.2.1 with hz | hz
  · have k1 := k none hM p e R s m args below meth c H locs cells slots Qf ar hF hR hl hc hs hfin
    exact va_gets hF.1 hF.2.1 hz hR.2.2 hF.2.2.2.2.1 (hF.2.2.2.2.2.2.2.1 _ hw) (fun _ h => h) hd k1
  · have k1 := k (some 1040) hM p e R s m args below meth c H locs cells slots Qf ar hF hR hl hc hs hfin
    have e1 : sk_v E (.inr (.inr (some 1040))) = .ref (E.2.2.2.1 40) := sk_sv 40
    rw [List.map_cons, e1] at k1
    exact va_gets hF.1 hF.2.1 hz hR.2.2 hF.2.2.2.2.1 (hF.2.2.2.2.2.2.2.1 _ hw) (fun _ h => h) hd k1
theorem AW_xbl (h : sk_find pc M.2.2.2.2 = some (pc0, .arraylength, len, nxt, aux)) (hx : x < 17) (k : AW l E d mc ms M nxt ls (vi (sk_len.getD x 0 : Nat) :: st) G σ Q) : AW l E d mc ms M pc ls (vr (1100 + x) :: st) G σ Q := by
  intro hM p e R s m args below meth c H locs cells slots Qf ar hF hR hl hc hs hfin
  obtain ⟨hd, rfl, hA, hlen⟩ := sk_dec hM h
  obtain rfl : 1 = len := hlen.resolve_left (by simp [sk_il])
  have k1 := k hM p e R s m args below meth c H locs cells slots Qf ar hF hR hl hc hs hfin
  have hcx := hF.2.2.2.2.2.2.2.2.1
  show W p l e R s m args below meth c H locs cells slots Qf (F0 m pc ar (sk_v E (vr (1100 + x)) :: st.map (sk_v E)))
  rw [sk_sb2, ← hcx.2.2.2.1.2.2.2.2 x]
  exact va_tlen hF.1 hF.2.1 (hcx.2.2.2.1.1.1 x hx).2.2.2 hR.2.2 (v := Int32.ofInt ((sk_len.getD x 0 : Nat) : Int)) (Int32.ofInt_eq_ofNat ▸ rfl) hd k1
theorem sk_len_b : ∀ x, x < 17 → sk_len.getD x 0 < 100 := by decide +kernel
theorem AW_xbd {i : Int} (h : sk_find pc M.2.2.2.2 = some (pc0, .baload, len, nxt, aux)) (hx : x < 17) (hi : 0 ≤ i ∧ i < (sk_len.getD x 0 : Nat)) (k : AW l E d mc ms M nxt ls (vi ((sk_byt.getD x []).getD i.toNat 0).toInt :: st) G σ Q) : AW l E d mc ms M pc ls (vi i :: vr (1100 + x) :: st) G σ Q := by
  intro hM p e R s m args below meth c H locs cells slots Qf ar hF hR hl hc hs hfin
  obtain ⟨hd, rfl, hA, hlen⟩ := sk_dec hM h
  obtain rfl : 1 = len := hlen.resolve_left (by simp [sk_il])
  have k1 := k hM p e R s m args below meth c H locs cells slots Qf ar hF hR hl hc hs hfin
  have hcx := hF.2.2.2.2.2.2.2.2.1
  have hb := sk_len_b x hx
  show W p l e R s m args below meth c H locs cells slots Qf (F0 m pc ar (.int (Int32.ofInt i) :: sk_v E (vr (1100 + x)) :: st.map (sk_v E)))
  rw [sk_sb2, ← hcx.2.2.2.1.2.2.2.2 x]
  refine va_tb hF.1 hF.2.1 (hcx.2.2.2.1.1.1 x hx).2.2.2 hR.2.2 (sk_vin hi.1 hi.2 (by omega)) (v := .int ((sk_byt.getD x []).getD i.toNat 0)) ?_ hd ?_
  · have := sk_nat hi.1 (by omega)
    rw [show (Int32.ofInt i).toNatClampNeg = i.toNat by omega]
  · rw [List.map_cons] at k1
    simp only [sk_v, sk_oi] at k1
    exact k1
theorem AW_i2c {a : Int} (h : sk_find pc M.2.2.2.2 = some (pc0, .i2c, len, nxt, aux)) (ha : 0 ≤ a ∧ a < 65536) (k : AW l E d mc ms M nxt ls (vi a :: st) G σ Q) : AW l E d mc ms M pc ls (vi a :: st) G σ Q := by
  intro hM p e R s m args below meth c H locs cells slots Qf ar hF hR hl hc hs hfin
  obtain ⟨hd, rfl, hA, hlen⟩ := sk_dec hM h
  obtain rfl : 1 = len := hlen.resolve_left (by simp [sk_il])
  have k1 := k hM p e R s m args below meth c H locs cells slots Qf ar hF hR hl hc hs hfin
  refine lv_i2c hF.1 hF.2.1 hd (v := Int32.ofInt a) ?_ k1
  rw [sk_nI_of ha.1, pk_char, pk_tn (by omega), Nat.mod_eq_of_lt (by omega)]
/-- the char of a constant -/
def sk_chr (x : Nat) (i : Int) : Int := ((sk_byt.getD x []).getD i.toNat 0).toInt
theorem sk_chr_b : ∀ x, x < 17 → ∀ j, j < 100 → 0 ≤ ((sk_byt.getD x []).getD j 0).toInt ∧ ((sk_byt.getD x []).getD j 0).toInt < 128 := by decide +kernel
theorem c_S_coder (hx : x < 17) (hq : Q (some (vi 0)) G σ) : AW l E d 0 0 mJ0_coder_7d493 0 [some (vr (1000 + x))] [] G σ Q := by
  refine AW_xcmp (by decide +kernel) kf_cmp rfl ?_
  first | refine AW_e1 rfl ?_ | refine AW_e0 rfl ?_ | refine AW_n1 rfl ?_ | refine AW_n0 rfl ?_
  refine AW_run 80 rfl ?_
  refine AW_xcod (by decide +kernel) kf_cod hx rfl ?_
  refine AW_run 80 rfl ?_
  refine sk_retA (v := some (vi 0)) (fun hM => ⟨?_, .byte, rfl, rfl⟩) rfl hq
  decide +kernel
theorem c_S_latin (hx : x < 17) (hq : Q (some (vi 1)) G σ) : AW l E d 0 0 mJ0_isLatin1_aae02 0 [some (vr (1000 + x))] [] G σ Q := by
  refine AW_xcmp (by decide +kernel) kf_cmp rfl ?_
  first | refine AW_e1 rfl ?_ | refine AW_e0 rfl ?_ | refine AW_n1 rfl ?_ | refine AW_n0 rfl ?_
  refine AW_run 80 rfl ?_
  refine AW_xcod (by decide +kernel) kf_cod hx rfl ?_
  first | refine AW_e1 rfl ?_ | refine AW_e0 rfl ?_ | refine AW_n1 rfl ?_ | refine AW_n0 rfl ?_
  refine AW_run 80 rfl ?_
  exact AW_zret rfl rfl (Or.inr rfl) hq
theorem sk_shr0' (a : Int) (h : 0 ≤ a ∧ a < 100) : sk_shr a 0 = a := by
  unfold sk_shr
  have : Int32.ofInt a >>> (Int32.ofInt 0 &&& 31) = Int32.ofInt a := sb_shr0 _
  rw [this]
  exact sk_toInt ⟨by omega, by omega⟩
theorem c_S_length (hx : x < 17) (hq : Q (some (vi (sk_len.getD x 0 : Nat))) G σ) : AW l E (d + 1) 0 0 mJ0_length_8abf5 0 [some (vr (1000 + x))] [] G σ Q := by
  refine AW_run 80 rfl ?_
  refine AW_xval (by decide +kernel) kf_val hx rfl ?_
  refine AW_xbl rfl hx ?_
  refine AW_run 80 rfl ?_
  refine AW_callX (M' := mJ0_coder_7d493) rfl kkJ0_335 lcJ0_coder_7d493 rfl hx rfl rfl (Nat.le_refl 1) (Nat.le_refl _) ?_
  refine c_S_coder hx ?_
  refine AW_run 80 rfl ?_
  have hb := sk_len_b x hx
  refine AW_top (sk_shr0' _ ⟨by omega, by omega⟩) ?_
  exact AW_iret rfl rfl hq
theorem c_S_pcheck (i n : Int) (r : Option Nat) (hi : 0 ≤ i ∧ i < n) (hn : n ≤ 1000) (hq : Q (some (vi i)) G σ) : AW l E d 0 0 mJ3_checkIndex_8e157 0 [some (vi i), some (vi n), some (.inr (.inr r))] [] G σ Q := by
  refine AW_run 80 rfl ?_
  refine AW_iflt rfl (fun h => ?_) (fun h => ?_)
  · omega
  · refine AW_run 80 rfl ?_
    refine AW_iclt rfl (fun h2 => ?_) (fun h2 => ?_)
    · refine AW_run 80 rfl ?_
      exact AW_iret rfl rfl hq
    · omega
theorem c_S_check (i n : Int) (hi : 0 ≤ i ∧ i < n) (hn : n ≤ 1000) (hq : Q none G σ) : AW l E (d + 1) 0 0 mJ0_checkIndex_df160 0 [some (vi i), some (vi n)] [] G σ Q := by
  refine AW_run 80 rfl ?_
  refine AW_xfmt (by decide +kernel) kf_fmt rfl (fun r => ?_)
  refine AW_cS (M' := mJ3_checkIndex_8e157) rfl kkJ0_1059 lcJ3_checkIndex_8e157 rfl rfl rfl (Nat.le_refl _) ?_
  refine c_S_pcheck i n r hi hn ?_
  refine AW_run 80 rfl ?_
  exact AW_vret rfl rfl hq
theorem sk_and255 (a : Int) (h : 0 ≤ a ∧ a < 128) : sk_and a 255 = a := by
  unfold sk_and
  have e : Int32.ofInt a &&& Int32.ofInt 255 = Int32.ofInt a := by
    rw [sk_nI_of h.1]
    have := pk_andN (n := a.toNat) (by omega) (m := Int32.ofInt 255) 8 (by decide)
    rw [this, Nat.mod_eq_of_lt (by omega)]
  rw [e]
  exact sk_toInt ⟨by omega, by omega⟩
theorem sk_rchar (a : Int) (h : 0 ≤ a ∧ a < 128) : narrow .char (.int (Int32.ofInt a)) = .int (Int32.ofInt a) := by
  rw [sk_nI_of h.1]
  exact (pk_charN (by omega)).1
theorem c_S_lcharAt (i : Int) (hx : x < 17) (hi : 0 ≤ i ∧ i < (sk_len.getD x 0 : Nat)) (hq : Q (some (vi (sk_chr x i))) G σ) : AW l E (d + 2) 0 0 mJ1_charAt_3b067 0 [some (vr (1100 + x)), some (vi i)] [] G σ Q := by
  have hb := sk_len_b x hx
  have hc : 0 ≤ sk_chr x i ∧ sk_chr x i < 128 := sk_chr_b x hx i.toNat (by omega)
  refine AW_run 2 rfl ?_
  refine AW_xbl rfl hx ?_
  refine AW_cS (M' := mJ0_checkIndex_df160) rfl kkJ1_9 lcJ0_checkIndex_df160 rfl rfl rfl (Nat.le_refl _) ?_
  refine c_S_check i _ hi (by omega) ?_
  refine AW_run 80 rfl ?_
  refine AW_xbd rfl hx hi ?_
  refine AW_run 80 rfl ?_
  refine AW_top (sk_and255 _ hc) ?_
  refine AW_i2c rfl ⟨hc.1, Int.lt_trans hc.2 (by decide)⟩ ?_
  refine sk_retA (v := some (vi (sk_chr x i))) (fun hM => ⟨?_, .char, rfl, sk_rchar _ hc⟩) rfl hq
  decide +kernel
theorem c_S_charAt (i : Int) (hx : x < 17) (hi : 0 ≤ i ∧ i < (sk_len.getD x 0 : Nat)) (hq : Q (some (vi (sk_chr x i))) G σ) : AW l E (d + 3) 0 0 mJ0_charAt_5068e 0 [some (vr (1000 + x)), some (vi i)] [] G σ Q := by
  have hb := sk_len_b x hx
  have hc : 0 ≤ sk_chr x i ∧ sk_chr x i < 128 := sk_chr_b x hx i.toNat (by omega)
  refine AW_run 80 rfl ?_
  refine AW_callX (M' := mJ0_isLatin1_aae02) rfl kkJ0_492 lcJ0_isLatin1_aae02 rfl hx rfl rfl (Nat.le_refl 1) (Nat.le_refl _) ?_
  refine c_S_latin hx ?_
  first | refine AW_e1 rfl ?_ | refine AW_e0 rfl ?_ | refine AW_n1 rfl ?_ | refine AW_n0 rfl ?_
  refine AW_run 80 rfl ?_
  refine AW_xval (by decide +kernel) kf_val hx rfl ?_
  refine AW_run 80 rfl ?_
  refine AW_cS (M' := mJ1_charAt_3b067) rfl kkJ0_495 lcJ1_charAt_3b067 rfl rfl rfl (Nat.le_refl _) ?_
  refine c_S_lcharAt i hx hi ?_
  refine sk_retA (v := some (vi (sk_chr x i))) (fun hM => ⟨?_, .char, rfl, sk_rchar _ hc⟩) rfl hq
  decide +kernel
end SKS1
