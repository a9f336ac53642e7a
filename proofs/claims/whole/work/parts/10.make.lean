/-! ===== making cells ===== -/
section SKN
variable {l : Launch} {E : sk_En} {d mc ms : Nat} {M : sk_M} {pc pc0 len nxt : Nat} {aux : List Nat} {ls : List (Option sk_V)} {st : List sk_V} {G : List sk_Sh} {σ : sk_St} {I : sk_SI} {L : sk_SL} {J : sk_SR} {Q : Option sk_V → List sk_Sh → sk_St → Prop}
theorem sk_q {H1 : Heap} {q : Nat} {x : va_E} (hD : va_D (sk_A E) (sk_w E G σ ++ [(q, x)])) (hP : va_P E.2.1 vwCl (sk_w E G σ ++ [(q, x)]) H1) (hz : H1.size ≤ E.1 + G.length + 1) : q = E.1 + G.length := by
  have hlen : (sk_w E G σ).length = G.length := by simp [sk_w]
  have hlast : (sk_w E G σ ++ [(q, x)])[G.length]? = some (q, x) := by
    rw [List.getElem?_append_right (by omega), hlen, Nat.sub_self]; rfl
  have h1 : q < H1.size := (hP _ _ hlast).lt
  have h2 : E.1 ≤ q := hD.2 _ _ hlast
  by_cases h3 : q < E.1 + G.length
  · have hk : q - E.1 < G.length := by omega
    have h4 : (sk_w E G σ ++ [(q, x)])[q - E.1]? = some (E.1 + (q - E.1), sk_cell E σ (q - E.1) (G[q - E.1]'hk)) := by
      rw [List.getElem?_append_left (by omega)]
      exact sk_w_at (List.getElem?_eq_getElem hk)
    have := hD.1 _ _ _ _ hlast h4 (by dsimp only; omega)
    omega
  · omega
theorem AW_new {ci q1 q2 q3 idx N : Nat} (h : sk_find pc M.2.2.2.2 = some (pc0, (.new idx), len, nxt, [ci, q1, q2, q3])) (hG : G.length < 1000) (hN : (sk_C ci).2.2 = N) (k : AW l E d mc ms M nxt ls (vr G.length :: st) (G ++ [.inl ci]) (sk_nI I G.length, sk_nL L G.length, sk_nJ J G.length) Q) : AW l E d (mc + 1) (ms + N) M pc ls st G (I, L, J) Q := by
  intro hM p e R s m args below meth c H locs cells slots Qf ar hF hR hl hc hs hfin
  obtain ⟨hd, rfl, hA, hlen⟩ := sk_dec hM h
  obtain rfl : 3 = len := hlen.resolve_left (by simp [sk_il])
  have hA : (Nat.blt ci 11 && decide (lw_tbl[q1]? = some (.classLink M.1.cls idx (sk_C ci).1)) && decide (lw_tbl[q2]? = some (.instantiable (sk_C ci).1 (sk_C ci).2.2)) && decide (lw_tbl[q3]? = some (.initialized (sk_C ci).1))) = true := hA
  simp only [Bool.and_eq_true, decide_eq_true_eq, Nat.blt_eq] at hA
  obtain ⟨⟨⟨f1, f2⟩, f3⟩, f4⟩ := hA
  subst hN
  have hts := hF.2.2.2.2.2.2.2.1
  have hcx := hF.2.2.2.2.2.2.2.2.1
  have hfs : ∀ j, j < (sk_C ci).2.2 → defaultValue (sk_ty ci j) = vp_V ((List.range (sk_C ci).2.2).map (fun j => sk_fv E (sk_nI I G.length, sk_nL L G.length, sk_nJ J G.length) G.length j (sk_ty ci j))) j := by
    intro j hj
    have hh : sk_ty ci j = .int ∨ sk_ty ci j = .boolean ∨ sk_isR (sk_ty ci j) = true := by
      revert j
      rcases (show ci = 0 ∨ ci = 1 ∨ ci = 2 ∨ ci = 3 ∨ ci = 4 ∨ ci = 5 ∨ ci = 6 ∨ ci = 7 ∨ ci = 8 ∨ ci = 9 ∨ ci = 10 by omega) with rfl | rfl | rfl | rfl | rfl | rfl | rfl | rfl | rfl | rfl | rfl <;> decide +kernel
    unfold vp_V
    rw [List.getD_eq_getElem?_getD, sk_fs_get hj, Option.getD_some]
    simp only [sk_fv, sk_nI, sk_nJ, if_true]
    rcases hh with hh | hh | hh
    · rw [hh]; rfl
    · rw [hh]; rfl
    · rw [hh]
      generalize sk_ty ci j = ty at hh
      cases ty <;> first | rfl | cases hh
  refine va_new hF.1 hF.2.1 hts (sk_lays f1) (sk_ty ci) (sk_tyok f1) hF.2.2.2.2.1 (hts _ (sk_wd f2 rfl)) (hts _ (sk_wd f3 rfl)) (hts _ (sk_wd f4 rfl)) hcx.1 hR.1 (sk_w_D E G (I, L, J)) hR.2.2 (fun q hq => Nat.le_trans hcx.2.2.2.2.2.2 hq) (sk_cl f1) hfs (by omega) (by omega) hd (fun q H1 hP1 hD1 hS1 => ?_)
  intro T hT X
  have hsz := X.heapSize
  rw [hT] at hsz
  have hq := sk_q hD1 hP1 (by omega)
  subst hq
  have hw := sk_w_push (E := E) (G := G) (σ := (I, L, J)) (σ' := (sk_nI I G.length, sk_nL L G.length, sk_nJ J G.length)) (sh := .inl ci) (fun k' sh' hk => sk_new_o k' sh' hk)
  have hP2 : va_P E.2.1 vwCl (sk_w E (G ++ [.inl ci]) (sk_nI I G.length, sk_nL L G.length, sk_nJ J G.length)) H1 := by rw [hw]; exact hP1
  have hv : sk_v E (vr G.length) = .ref (E.1 + G.length) := sk_vr (G := G ++ [.inl ci]) (sh := .inl ci) (by simp) (by simp; omega)
  have k1 := k hM p e R s m args below meth c H1 locs (cells + 1) (slots + (sk_C ci).2.2) Qf ar hF ⟨hP2, by simp; omega, hS1⟩ hl ⟨by omega, by simp; omega⟩ (by omega) (fun v G' σ' pc' ar' H' locs' slots' r1 r2 r3 r4 r5 => by
    rw [show cells + 1 + mc = cells + (mc + 1) by omega]
    exact hfin v G' σ' pc' ar' H' locs' slots' r1 r2 r3 (by omega) r5)
  rw [List.map_cons, hv] at k1
  exact k1 T hT X
theorem sk_defI {n : Nat} (cA : ClassId) : vp_cell cA (n, .inl (fun _ => 0)) = arrV cA n (fun _ => defaultValue .int) := rfl
/-- a new array of ints, booleans or longs -/
theorem AW_newa {at' : ArrayType} {tc n : Nat} (h : sk_find pc M.2.2.2.2 = some (pc0, (.newarray at'), len, nxt, aux)) (hat : newarray.typeOf at' = .int ∧ tc = 0 ∨ newarray.typeOf at' = .boolean ∧ tc = 1 ∨ newarray.typeOf at' = .long ∧ tc = 2) (hw : Cond.arrayClass (newarray.typeOf at') ∈ sk_gw) (hn : n ≤ 1000000) (hG : G.length < 1000) (k : AW l E d mc ms M nxt ls (vr G.length :: st) (G ++ [.inr (tc, n)]) (sk_nI I G.length, sk_nL L G.length, sk_nJ J G.length) Q) : AW l E d (mc + 1) (ms + n) M pc ls (vi n :: st) G (I, L, J) Q := by
  intro hM p e R s m args below meth c H locs cells slots Qf ar hF hR hl hc hs hfin
  obtain ⟨hd, rfl, hA, hlen⟩ := sk_dec hM h
  obtain rfl : 2 = len := hlen.resolve_left (by simp [sk_il])
  have hts := hF.2.2.2.2.2.2.2.1
  have hcx := hF.2.2.2.2.2.2.2.2.1
  have ht : (sk_tys E)[tc]? = some (E.2.2.1 tc, newarray.typeOf at') := by
    rcases hat with ⟨h1, rfl⟩ | ⟨h1, rfl⟩ | ⟨h1, rfl⟩ <;> rw [h1] <;> rfl
  have ha : ∀ cA : ClassId, vp_cell cA (n, sk_pay E (sk_nI I G.length, sk_nL L G.length, sk_nJ J G.length) G.length tc) = arrV cA n (fun _ => defaultValue (newarray.typeOf at')) := by
    intro cA
    rcases hat with ⟨h1, rfl⟩ | ⟨h1, rfl⟩ | ⟨h1, rfl⟩ <;> rw [h1] <;> simp only [sk_pay, sk_nI, sk_nL, if_true] <;> rfl
  have hb : n * componentBytes (newarray.typeOf at') ≤ 536870912 := by
    rcases hat with ⟨h1, rfl⟩ | ⟨h1, rfl⟩ | ⟨h1, rfl⟩ <;> rw [h1] <;> simp only [componentBytes] <;> omega
  have hnn : Int32.ofInt (n : Int) = nI n := Int32.ofInt_eq_ofNat
  show W p l e R s m args below meth c H locs cells slots Qf (F0 m pc ar (.int (Int32.ofInt (n : Int)) :: st.map (sk_v E)))
  refine va_newa hF.1 hF.2.1 (hts _ hw) rfl hcx.1 hR.1 (sk_w_D E G (I, L, J)) hR.2.2 (fun q hq => Nat.le_trans hcx.2.2.2.2.2.2 hq) ha ?_ ?_ hb (by omega) (by omega) hd (fun q cA H1 hK1 hP1 hD1 hS1 => ?_)
  · rw [hnn]; exact nI_pos (by omega)
  · rw [hnn]; exact nI_clamp (by omega)
  have hcA : cA = E.2.2.1 tc := by
    have r1 := (hK1.2 (sk_tys E).length (cA, newarray.typeOf at') (by simp)).2
    have r2 := (hcx.1.2 tc _ ht).2
    rcases hat with ⟨h1, rfl⟩ | ⟨h1, rfl⟩ | ⟨h1, rfl⟩ <;> rw [h1] at r1 r2 <;> exact Option.some.inj (r1.symm.trans r2)
  subst hcA
  intro T hT X
  have hsz := X.heapSize
  rw [hT] at hsz
  have hq := sk_q hD1 hP1 (by omega)
  subst hq
  have hw2 := sk_w_push (E := E) (G := G) (σ := (I, L, J)) (σ' := (sk_nI I G.length, sk_nL L G.length, sk_nJ J G.length)) (sh := .inr (tc, n)) (fun k' sh' hk => sk_new_o k' sh' hk)
  have hP2 : va_P E.2.1 vwCl (sk_w E (G ++ [.inr (tc, n)]) (sk_nI I G.length, sk_nL L G.length, sk_nJ J G.length)) H1 := by rw [hw2]; exact hP1
  have hv : sk_v E (vr G.length) = .ref (E.1 + G.length) := sk_vr (G := G ++ [.inr (tc, n)]) (sh := .inr (tc, n)) (by simp) (by simp; omega)
  have k1 := k hM p e R s m args below meth c H1 locs (cells + 1) (slots + n) Qf ar hF ⟨hP2, by simp; omega, hS1⟩ hl ⟨by omega, by simp; omega⟩ (by omega) (fun v G' σ' pc' ar' H' locs' slots' r1 r2 r3 r4 r5 => by
    rw [show cells + 1 + mc = cells + (mc + 1) by omega]
    exact hfin v G' σ' pc' ar' H' locs' slots' r1 r2 r3 (by omega) r5)
  rw [List.map_cons, hv] at k1
  exact k1 T hT X
/-- a new array of Strings -/
theorem AW_newq {idx n : Nat} (h : sk_find pc M.2.2.2.2 = some (pc0, (.anewarray idx), len, nxt, aux)) (hw : Cond.classLink M.1.cls idx "java/lang/String" ∈ sk_gw) (hn : n ≤ 1000000) (hG : G.length < 1000) (k : AW l E d mc ms M nxt ls (vr G.length :: st) (G ++ [.inr (3, n)]) (sk_nI I G.length, sk_nL L G.length, sk_nJ J G.length) Q) : AW l E d (mc + 1) (ms + n) M pc ls (vi n :: st) G (I, L, J) Q := by
  intro hM p e R s m args below meth c H locs cells slots Qf ar hF hR hl hc hs hfin
  obtain ⟨hd, rfl, hA, hlen⟩ := sk_dec hM h
  obtain rfl : 3 = len := hlen.resolve_left (by simp [sk_il])
  have hts := hF.2.2.2.2.2.2.2.1
  have hcx := hF.2.2.2.2.2.2.2.2.1
  have ht : (sk_tys E)[3]? = some (E.2.2.1 3, .object "java/lang/String") := rfl
  have hnn : Int32.ofInt (n : Int) = nI n := Int32.ofInt_eq_ofNat
  show W p l e R s m args below meth c H locs cells slots Qf (F0 m pc ar (.int (Int32.ofInt (n : Int)) :: st.map (sk_v E)))
  refine va_newq (N' := n) hF.1 hF.2.1 hF.2.2.2.2.1 (hts _ hw) hcx.2.2.1 hcx.1 hR.1 (sk_w_D E G (I, L, J)) hR.2.2 (fun q hq => Nat.le_trans hcx.2.2.2.2.2.2 hq) ?_ ?_ (by omega) (by omega) (by omega) hd (fun q cA H1 hK1 hP1 hD1 hS1 => ?_)
  · rw [hnn]; exact nI_pos (by omega)
  · rw [hnn]; exact nI_clamp (by omega)
  have hcA : cA = E.2.2.1 3 := by
    obtain ⟨k1, c1, -, -, -, r1⟩ := (hK1.2 (sk_tys E).length (cA, .object "java/lang/String") (by simp)).2
    obtain ⟨k2, c2, -, -, -, r2⟩ := (hcx.1.2 3 _ ht).2
    exact Option.some.inj (r1.symm.trans r2)
  subst hcA
  intro T hT X
  have hsz := X.heapSize
  rw [hT] at hsz
  have hq := sk_q hD1 hP1 (by omega)
  subst hq
  have hw2 := sk_w_push (E := E) (G := G) (σ := (I, L, J)) (σ' := (sk_nI I G.length, sk_nL L G.length, sk_nJ J G.length)) (sh := .inr (3, n)) (fun k' sh' hk => sk_new_o k' sh' hk)
  have hce : sk_cell E (sk_nI I G.length, sk_nL L G.length, sk_nJ J G.length) G.length (.inr (3, n)) = .inl (E.2.2.1 3, n, .inr (.inr (.inr (.inr (fun _ => none))))) := by
    simp [sk_cell, sk_pay, sk_nJ]
  have hP2 : va_P E.2.1 vwCl (sk_w E (G ++ [.inr (3, n)]) (sk_nI I G.length, sk_nL L G.length, sk_nJ J G.length)) H1 := by rw [hw2, hce]; exact hP1
  have hv : sk_v E (vr G.length) = .ref (E.1 + G.length) := sk_vr (G := G ++ [.inr (3, n)]) (sh := .inr (3, n)) (by simp) (by simp; omega)
  have k1 := k hM p e R s m args below meth c H1 locs (cells + 1) (slots + n) Qf ar hF ⟨hP2, by simp; omega, hS1⟩ hl ⟨by omega, by simp; omega⟩ (by omega) (fun v G' σ' pc' ar' H' locs' slots' r1 r2 r3 r4 r5 => by
    rw [show cells + 1 + mc = cells + (mc + 1) by omega]
    exact hfin v G' σ' pc' ar' H' locs' slots' r1 r2 r3 (by omega) r5)
  rw [List.map_cons, hv] at k1
  exact k1 T hT X
/-- a String constant into an array of Strings -/
theorem AW_aast {k n x : Nat} {i : Int} (h : sk_find pc M.2.2.2.2 = some (pc0, .aastore, len, nxt, aux)) (hG : G[k]? = some (.inr (3, n))) (hi : 0 ≤ i ∧ i < n) (hn : n < 2147483648) (hx : x < 17) (kk : AW l E d mc ms M nxt ls st G (I, L, sk_uR J k i (some (1000 + x))) Q) : AW l E d mc ms M pc ls (vr (1000 + x) :: vi i :: vr k :: st) G (I, L, J) Q := by
  intro hM p e R s m args below meth c H locs cells slots Qf ar hF hR hl hc hs hfin
  obtain ⟨hd, rfl, hA, hlen⟩ := sk_dec hM h
  obtain rfl : 1 = len := hlen.resolve_left (by simp [sk_il])
  have hcx := hF.2.2.2.2.2.2.2.2.1
  have had : sk_ad E (1000 + x) = E.2.2.2.1 x := by
    unfold sk_ad
    rw [if_neg (by omega), Nat.add_sub_cancel_left]
  obtain ⟨cell, c1, c2, c3⟩ := vk_recv hcx.2.2.2.1.1 hx hR.2.2
  have hany : va_Any "java/lang/String" s H (E.2.2.2.1 x) := by
    obtain ⟨kC, hkC, -⟩ := Vm.findClass_spec c3
    refine ⟨cell, c1, c2, ⟨kC, hkC⟩, fun comp hcomp => ?_⟩
    cases c3.symm.trans hcomp
    show Vm.assignableAux s.vm (255 + 1) cell.cls cell.cls = true
    unfold Vm.assignableAux
    rw [beq_self_eq_true, Bool.true_or]
  show W p l e R s m args below meth c H locs cells slots Qf (F0 m pc ar (.ref (sk_ad E (1000 + x)) :: .int (Int32.ofInt i) :: sk_v E (vr k) :: st.map (sk_v E)))
  rw [sk_vr hG hR.2.1, had]
  refine va_astqM hF.1 hF.2.1 hcx.1 hR.1 (sk_w_D E G (I, L, J)) hR.2.2 k 3 (sk_w_at hG) rfl hany (sk_vin hi.1 hi.2 hn) hd (fun H1 locs1 hP1 _ hS1 => ?_)
  rw [sk_w_set (σ' := (I, L, sk_uR J k i (some (1000 + x)))) hG ?_ (fun k' sh' hk => sk_cell_o sh' rfl rfl (sk_uR_o hk))] at hP1
  · exact kk hM p e R s m args below meth c H1 locs1 cells slots Qf ar hF ⟨hP1, hR.2.1, hS1⟩ hl hc hs hfin
  · show Sum.inl _ = _
    congr 3
    show Sum.inr (Sum.inr (Sum.inr (Sum.inr _))) = _
    congr 4
    funext j
    have := sk_cn i hi.1 hi.2 hn
    simp only [sk_uR_s, sk_upR, va_up]
    by_cases hj : (j : Int) = i
    · rw [if_pos hj, if_pos (by omega), Option.map_some, had]
    · rw [if_neg hj, if_neg (by omega)]
theorem AW_objI {k idx : Nat} {sh : sk_Sh} (h : sk_find pc M.2.2.2.2 = some (pc0, (.invokespecial idx), len, nxt, aux)) (hw : Cond.methodLink M.1.cls idx objectInit ∈ sk_gw) (hw2 : Cond.instanceMethod objectInit ∈ sk_gw) (hw3 : Cond.code objectInit ⟨#[0xb1]⟩ 1 none ∈ sk_gw) (hG : G[k]? = some sh) (hd1 : 1 ≤ d) (hW : Nat.ble (sk_cs st) 8 = true) (kk : AW l E d mc ms M nxt ls st G σ Q) : AW l E d mc ms M pc ls (vr k :: st) G σ Q := by
  intro hM p e R s m args below meth c H locs cells slots Qf ar hF hR hl hc hs hfin
  obtain ⟨hd, rfl, hA, hlen⟩ := sk_dec hM h
  obtain rfl : 3 = len := hlen.resolve_left (by simp [sk_il])
  have hts := hF.2.2.2.2.2.2.2.1
  show W p l e R s m args below meth c H locs cells slots Qf (F0 m pc ar (sk_v E (vr k) :: st.map (sk_v E)))
  rw [sk_vr hG hR.2.1]
  refine W.objInit hF.1 hF.2.1 hF.2.2.2.2.1 (hts _ hw) (hts _ hw2) (hts _ hw3) rfl (by rw [hF.2.2.2.1]; exact hl.1) rfl hd ?_ ?_ (kk hM p e R s m args below meth c H locs cells slots Qf ar hF hR hl hc hs hfin)
  · have := hF.2.2.2.2.2.2.2.2.2.1
    omega
  · have := hF.2.2.2.2.2.2.2.2.2.2
    have h8 := Nat.le_of_ble_eq_true hW
    show 2 * 0 + ((st.map (sk_v E)).map fun v => v.category).sum + 12 ≤ R.locals
    rw [sk_cs_eq]
    omega
end SKN
