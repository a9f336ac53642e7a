/-! ===== Math.max, Math.min, arraycopy ===== -/
section SKP
variable {l : Launch} {E : sk_En} {d mc ms : Nat} {M : sk_M} {pc pc0 len nxt idx : Nat} {aux : List Nat} {ls : List (Option sk_V)} {st : List sk_V} {G : List sk_Sh} {σ : sk_St} {I : sk_SI} {L : sk_SL} {J : sk_SR} {Q : Option sk_V → List sk_Sh → sk_St → Prop}
theorem AW_max {a b : Int} (h : sk_find pc M.2.2.2.2 = some (pc0, (.invokestatic idx), len, nxt, aux)) (hw : Cond.methodLink M.1.cls idx Lib.Math.max.name ∈ sk_gw) (hd1 : 1 ≤ d) (hW : Nat.ble (sk_cs st) 8 = true) (ha : sk_in a) (hb : sk_in b) (k : AW l E d mc ms M nxt ls (vi (max a b) :: st) G σ Q) : AW l E d mc ms M pc ls (vi b :: vi a :: st) G σ Q := by
  intro hM p e R s m args below meth c H locs cells slots Qf ar hF hR hl hc hs hfin
  obtain ⟨hd, rfl, hA, hlen⟩ := sk_dec hM h
  obtain rfl : 3 = len := hlen.resolve_left (by simp [sk_il])
  have hts := hF.2.2.2.2.2.2.2.1
  have k1 := k hM p e R s m args below meth c H locs cells slots Qf ar hF hR hl hc hs hfin
  have h8 := Nat.le_of_ble_eq_true hW
  have hf := hF.2.2.2.2.2.2.2.2.2.1
  have hlo := hF.2.2.2.2.2.2.2.2.2.2
  refine va_mmax hF.1 hF.2.1 (by rw [hF.2.2.2.1]; exact hl.1.symm) hF.2.2.2.2.1 (hts _ hw) (hts _ kw_maxs) (hts _ kw_mi) (hts _ kw_maxc) (by omega) (by rw [sk_cs_eq]; omega) (by omega) (by omega) hd ?_
  have he : (if Int32.ofInt a < Int32.ofInt b then Int32.ofInt b else Int32.ofInt a) = Int32.ofInt (max a b) := by
    by_cases hab : a < b
    · rw [if_pos ((sk_lt_iff ha hb).mpr hab), show max a b = b by omega]
    · rw [if_neg (fun z => hab ((sk_lt_iff ha hb).mp z)), show max a b = a by omega]
  rw [he]
  exact k1
theorem AW_min {a b : Int} (h : sk_find pc M.2.2.2.2 = some (pc0, (.invokestatic idx), len, nxt, aux)) (hw : Cond.methodLink M.1.cls idx Lib.Math.min.name ∈ sk_gw) (hd1 : 1 ≤ d) (hW : Nat.ble (sk_cs st) 8 = true) (ha : sk_in a) (hb : sk_in b) (k : AW l E d mc ms M nxt ls (vi (min a b) :: st) G σ Q) : AW l E d mc ms M pc ls (vi b :: vi a :: st) G σ Q := by
  intro hM p e R s m args below meth c H locs cells slots Qf ar hF hR hl hc hs hfin
  obtain ⟨hd, rfl, hA, hlen⟩ := sk_dec hM h
  obtain rfl : 3 = len := hlen.resolve_left (by simp [sk_il])
  have hts := hF.2.2.2.2.2.2.2.1
  have k1 := k hM p e R s m args below meth c H locs cells slots Qf ar hF hR hl hc hs hfin
  have h8 := Nat.le_of_ble_eq_true hW
  have hf := hF.2.2.2.2.2.2.2.2.2.1
  have hlo := hF.2.2.2.2.2.2.2.2.2.2
  refine va_mmin hF.1 hF.2.1 (by rw [hF.2.2.2.1]; exact hl.1.symm) hF.2.2.2.2.1 (hts _ hw) (hts _ kw_mins) (hts _ kw_mi) (hts _ kw_minc) (by omega) (by rw [sk_cs_eq]; omega) (by omega) (by omega) hd ?_
  have he : (if Int32.ofInt b < Int32.ofInt a then Int32.ofInt b else Int32.ofInt a) = Int32.ofInt (min a b) := by
    by_cases hab : b < a
    · rw [if_pos ((sk_lt_iff hb ha).mpr hab), show min a b = b by omega]
    · rw [if_neg (fun z => hab ((sk_lt_iff hb ha).mp z)), show min a b = a by omega]
  rw [he]
  exact k1
/-- what arraycopy leaves -/
def sk_cp {α : Type} (f g : Int → α) (sp dp n : Int) : Int → α := fun i => if dp ≤ i ∧ i < dp + n then f (sp + (i - dp)) else g i
def sk_cI (I : sk_SI) (k : Nat) (f : Int → Int) : sk_SI := fun k' => if k' = k then f else I k'
def sk_cL (I : sk_SL) (k : Nat) (f : Int → Int64) : sk_SL := fun k' => if k' = k then f else I k'
theorem AW_acI {ka kb na nb : Nat} {sp dp n : Int} (h : sk_find pc M.2.2.2.2 = some (pc0, (.invokestatic idx), len, nxt, aux)) (hw : Cond.methodLink M.1.cls idx arraycopyName ∈ sk_gw) (hd1 : 1 ≤ d) (hW : Nat.ble (sk_cs st) 8 = true) (hGa : G[ka]? = some (.inr (0, na))) (hGb : G[kb]? = some (.inr (0, nb))) (h1 : 0 ≤ sp) (h2 : 0 ≤ dp) (h3 : 0 ≤ n) (h4 : sp + n ≤ na) (h5 : dp + n ≤ nb) (hna : na < 1000000) (hnb : nb < 1000000)
    (kk : AW l E d mc ms M nxt ls st G (sk_cI I kb (sk_cp (I ka) (I kb) sp dp n), L, J) Q) : AW l E d mc ms M pc ls (vi n :: vi dp :: vr kb :: vi sp :: vr ka :: st) G (I, L, J) Q := by
  intro hM p e R s m args below meth c H locs cells slots Qf ar hF hR hl hc hs hfin
  obtain ⟨hd, rfl, hA, hlen⟩ := sk_dec hM h
  obtain rfl : 3 = len := hlen.resolve_left (by simp [sk_il])
  have hts := hF.2.2.2.2.2.2.2.1
  have hcx := hF.2.2.2.2.2.2.2.2.1
  have h8 := Nat.le_of_ble_eq_true hW
  have hf := hF.2.2.2.2.2.2.2.2.2.1
  have hlo := hF.2.2.2.2.2.2.2.2.2.2
  show W p l e R s m args below meth c H locs cells slots Qf (F0 m pc ar (.int (Int32.ofInt n) :: .int (Int32.ofInt dp) :: sk_v E (vr kb) :: .int (Int32.ofInt sp) :: sk_v E (vr ka) :: st.map (sk_v E)))
  rw [sk_vr hGa hR.2.1, sk_vr hGb hR.2.1]
  have e1 := sk_nat h1 (by omega)
  have e2 := sk_nat h2 (by omega)
  have e3 := sk_nat h3 (by omega)
  have ng : ∀ {x : Int}, 0 ≤ x → x ≤ 2147483647 → ¬ Int32.ofInt x < 0 := fun hx hx2 z => by
    have := (sk_lt_iff ⟨by omega, hx2⟩ sk_in0).mp z
    omega
  have hnw : nativeFrameWords "java/lang/System" "arraycopy" 5 ≤ 20 := by decide +kernel
  refine va_copyi hF.1 hF.2.1 (by rw [hF.2.2.2.1]; exact hl.1.symm) hF.2.2.2.2.1 (hts _ hw) (hts _ kw_acn) (hts _ kw_acs) (hts _ kw_aci) hcx.1 hR.1 (sk_w_D E G (I, L, J)) hR.2.2 ka kb 0 0 (sk_w_at hGa) (sk_w_at hGb) rfl rfl rfl (ng h1 (by omega)) (ng h2 (by omega)) (ng h3 (by omega)) (by omega) (by omega) (fun _ _ => rfl) (by omega) (by rw [sk_cs_eq]; omega) hd (fun H1 locs1 hP1 _ hS1 => ?_)
  rw [sk_w_set (σ' := (sk_cI I kb (sk_cp (I ka) (I kb) sp dp n), L, J)) hGb ?_ (fun k' sh' hk => sk_cell_o sh' (by simp [sk_cI, hk]) rfl rfl)] at hP1
  · exact kk hM p e R s m args below meth c H1 locs1 cells slots Qf ar hF ⟨hP1, hR.2.1, hS1⟩ hl hc hs hfin
  · show Sum.inl _ = _
    congr 3
    show Sum.inl _ = _
    congr 1
    funext j
    simp only [sk_cI, if_true, sk_cp, va_cpy]
    by_cases hj : dp ≤ (j : Int) ∧ (j : Int) < dp + n
    · rw [if_pos hj, if_pos (by omega), show sp + ((j : Int) - dp) = (((Int32.ofInt sp).toNatClampNeg + (j - (Int32.ofInt dp).toNatClampNeg) : Nat) : Int) by omega]
    · rw [if_neg hj, if_neg (by omega)]
theorem AW_acL {ka kb na nb : Nat} {sp dp n : Int} (h : sk_find pc M.2.2.2.2 = some (pc0, (.invokestatic idx), len, nxt, aux)) (hw : Cond.methodLink M.1.cls idx arraycopyName ∈ sk_gw) (hd1 : 1 ≤ d) (hW : Nat.ble (sk_cs st) 8 = true) (hGa : G[ka]? = some (.inr (2, na))) (hGb : G[kb]? = some (.inr (2, nb))) (h1 : 0 ≤ sp) (h2 : 0 ≤ dp) (h3 : 0 ≤ n) (h4 : sp + n ≤ na) (h5 : dp + n ≤ nb) (hna : na < 1000000) (hnb : nb < 1000000)
    (kk : AW l E d mc ms M nxt ls st G (I, sk_cL L kb (sk_cp (L ka) (L kb) sp dp n), J) Q) : AW l E d mc ms M pc ls (vi n :: vi dp :: vr kb :: vi sp :: vr ka :: st) G (I, L, J) Q := by
  intro hM p e R s m args below meth c H locs cells slots Qf ar hF hR hl hc hs hfin
  obtain ⟨hd, rfl, hA, hlen⟩ := sk_dec hM h
  obtain rfl : 3 = len := hlen.resolve_left (by simp [sk_il])
  have hts := hF.2.2.2.2.2.2.2.1
  have hcx := hF.2.2.2.2.2.2.2.2.1
  have h8 := Nat.le_of_ble_eq_true hW
  have hf := hF.2.2.2.2.2.2.2.2.2.1
  have hlo := hF.2.2.2.2.2.2.2.2.2.2
  show W p l e R s m args below meth c H locs cells slots Qf (F0 m pc ar (.int (Int32.ofInt n) :: .int (Int32.ofInt dp) :: sk_v E (vr kb) :: .int (Int32.ofInt sp) :: sk_v E (vr ka) :: st.map (sk_v E)))
  rw [sk_vr hGa hR.2.1, sk_vr hGb hR.2.1]
  have e1 := sk_nat h1 (by omega)
  have e2 := sk_nat h2 (by omega)
  have e3 := sk_nat h3 (by omega)
  have ng : ∀ {x : Int}, 0 ≤ x → x ≤ 2147483647 → ¬ Int32.ofInt x < 0 := fun hx hx2 z => by
    have := (sk_lt_iff ⟨by omega, hx2⟩ sk_in0).mp z
    omega
  have hnw : nativeFrameWords "java/lang/System" "arraycopy" 5 ≤ 20 := by decide +kernel
  refine va_copyl hF.1 hF.2.1 (by rw [hF.2.2.2.1]; exact hl.1.symm) hF.2.2.2.2.1 (hts _ hw) (hts _ kw_acn) (hts _ kw_acs) (hts _ kw_aci) hcx.1 hR.1 (sk_w_D E G (I, L, J)) hR.2.2 ka kb 2 2 (sk_w_at hGa) (sk_w_at hGb) rfl rfl rfl (ng h1 (by omega)) (ng h2 (by omega)) (ng h3 (by omega)) (by omega) (by omega) (fun _ _ => rfl) (by omega) (by rw [sk_cs_eq]; omega) hd (fun H1 locs1 hP1 _ hS1 => ?_)
  rw [sk_w_set (σ' := (I, sk_cL L kb (sk_cp (L ka) (L kb) sp dp n), J)) hGb ?_ (fun k' sh' hk => sk_cell_o sh' rfl (by simp [sk_cL, hk]) rfl)] at hP1
  · exact kk hM p e R s m args below meth c H1 locs1 cells slots Qf ar hF ⟨hP1, hR.2.1, hS1⟩ hl hc hs hfin
  · show Sum.inl _ = _
    congr 3
    show Sum.inr (Sum.inl _) = _
    congr 2
    funext j
    simp only [sk_cL, if_true, sk_cp, va_cpy]
    by_cases hj : dp ≤ (j : Int) ∧ (j : Int) < dp + n
    · rw [if_pos hj, if_pos (by omega), show sp + ((j : Int) - dp) = (((Int32.ofInt sp).toNatClampNeg + (j - (Int32.ofInt dp).toNatClampNeg) : Nat) : Int) by omega]
    · rw [if_neg hj, if_neg (by omega)]
end SKP
