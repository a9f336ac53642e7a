/-! ===== rules for cells ===== -/
section SKH
variable {l : Launch} {E : sk_En} {d mc ms : Nat} {M : sk_M} {pc pc0 len nxt : Nat} {aux : List Nat} {ls : List (Option sk_V)} {st : List sk_V} {G : List sk_Sh} {I : sk_SI} {L : sk_SL} {J : sk_SR} {Q : Option sk_V → List sk_Sh → sk_St → Prop}
theorem AW_getI {k ci j q tc idx : Nat} (h : sk_find pc M.2.2.2.2 = some (pc0, (.getfield idx), len, nxt, [ci, j, q, tc])) (hG : G[k]? = some (.inl ci)) (htc : Nat.beq tc 3 = false) (kk : AW l E d mc ms M nxt ls (vi (I k j) :: st) G (I, L, J) Q) : AW l E d mc ms M pc ls (vr k :: st) G (I, L, J) Q := by
  intro hM p e R s m args below meth c H locs cells slots Qf ar hF hR hl hc hs hfin
  obtain ⟨hd, rfl, hA, hlen⟩ := sk_dec hM h
  obtain rfl : 3 = len := hlen.resolve_left (by simp [sk_il])
  obtain ⟨f1, f2, f3, f4⟩ := sk_fokE hA
  have hr : sk_isR (sk_ty ci j) = false := by
    rcases f4 with ⟨e1, -⟩ | ⟨e1, -⟩ | ⟨-, e1⟩
    · rw [e1]; rfl
    · rw [e1]; rfl
    · rw [e1] at htc; cases htc
  have k1 := kk hM p e R s m args below meth c H locs cells slots Qf ar hF hR hl hc hs hfin
  show W p l e R s m args below meth c H locs cells slots Qf (F0 m pc ar (sk_v E (vr k) :: st.map (sk_v E)))
  rw [sk_vr hG hR.2.1]
  refine va_get hF.1 hF.2.1 hF.2.2.2.2.2.2.2.1 (sk_lays f1) hF.2.2.2.2.1 hF.2.2.2.2.2.2.2.2.1.1 hR.1 k (sk_w_at hG) (sk_cl f1) j f2 (hF.2.2.2.2.2.2.2.1 _ f3) (fun _ h => h) (v := .int (Int32.ofInt (I k j))) ?_ hd k1
  rw [sk_fs_get f2]
  simp [sk_fv, hr]
theorem AW_getR {k ci j q tc idx : Nat} (h : sk_find pc M.2.2.2.2 = some (pc0, (.getfield idx), len, nxt, [ci, j, q, tc])) (hG : G[k]? = some (.inl ci)) (htc : Nat.beq tc 3 = true) (kk : AW l E d mc ms M nxt ls (.inr (.inr (J k j)) :: st) G (I, L, J) Q) : AW l E d mc ms M pc ls (vr k :: st) G (I, L, J) Q := by
  intro hM p e R s m args below meth c H locs cells slots Qf ar hF hR hl hc hs hfin
  obtain ⟨hd, rfl, hA, hlen⟩ := sk_dec hM h
  obtain rfl : 3 = len := hlen.resolve_left (by simp [sk_il])
  obtain ⟨f1, f2, f3, f4⟩ := sk_fokE hA
  have hr : sk_isR (sk_ty ci j) = true := by
    rcases f4 with ⟨-, e1⟩ | ⟨-, e1⟩ | ⟨e1, -⟩
    · rw [e1] at htc; cases htc
    · rw [e1] at htc; cases htc
    · exact e1
  have k1 := kk hM p e R s m args below meth c H locs cells slots Qf ar hF hR hl hc hs hfin
  show W p l e R s m args below meth c H locs cells slots Qf (F0 m pc ar (sk_v E (vr k) :: st.map (sk_v E)))
  rw [sk_vr hG hR.2.1]
  refine va_get hF.1 hF.2.1 hF.2.2.2.2.2.2.2.1 (sk_lays f1) hF.2.2.2.2.1 hF.2.2.2.2.2.2.2.2.1.1 hR.1 k (sk_w_at hG) (sk_cl f1) j f2 (hF.2.2.2.2.2.2.2.1 _ f3) (fun _ h => h) (v := sk_rv E (J k j)) ?_ hd k1
  rw [sk_fs_get f2]
  simp [sk_fv, hr]
/-- a store into a field, whatever its type -/
theorem sk_putA {σ σ' : sk_St} {v : sk_V} {k ci j q tc idx : Nat} (h : sk_find pc M.2.2.2.2 = some (pc0, (.putfield idx), len, nxt, [ci, j, q, tc])) (hG : G[k]? = some (.inl ci)) (hn : j < (sk_C ci).2.2 → narrow (sk_ty ci j) (sk_v E v) = sk_v E v ∧ fits (sk_ty ci j) (sk_v E v) = true)
    (hv : sk_fok M.1.cls idx ci j q tc = true → sk_fv E σ' k j (sk_ty ci j) = sk_v E v) (ho : ∀ i : Nat, i ≠ j → sk_fv E σ' k i (sk_ty ci i) = sk_fv E σ k i (sk_ty ci i)) (ho2 : ∀ (k' : Nat) (sh' : sk_Sh), k' ≠ k → sk_cell E σ' k' sh' = sk_cell E σ k' sh')
    (kk : AW l E d mc ms M nxt ls st G σ' Q) : AW l E d mc ms M pc ls (v :: vr k :: st) G σ Q := by
  intro hM p e R s m args below meth c H locs cells slots Qf ar hF hR hl hc hs hfin
  obtain ⟨hd, rfl, hA, hlen⟩ := sk_dec hM h
  obtain rfl : 3 = len := hlen.resolve_left (by simp [sk_il])
  have hA : (sk_fok M.1.cls idx ci j q tc && (!((sk_C ci).2.1 j).2.2.2 || (decide (M.1.name = "<init>") && decide (((sk_C ci).2.1 j).1 = M.1.cls)))) = true := hA
  rw [Bool.and_eq_true] at hA
  obtain ⟨f1, f2, f3, f4⟩ := sk_fokE hA.1
  obtain ⟨n1, n2⟩ := hn f2
  have hse : (sk_w E G σ).set k (E.1 + k, .inr (ci, ((List.range (sk_C ci).2.2).map (fun j => sk_fv E σ k j (sk_ty ci j))).set j (sk_v E v))) = sk_w E G σ' := sk_w_set hG (by show Sum.inr _ = _; rw [sk_fs_set (hv hA.1) ho]) ho2
  show W p l e R s m args below meth c H locs cells slots Qf (F0 m pc ar (sk_v E v :: sk_v E (vr k) :: st.map (sk_v E)))
  rw [sk_vr hG hR.2.1]
  have kx : ∀ (H1 : Heap) (locs1 : List Loc), va_P E.2.1 vwCl ((sk_w E G σ).set k (E.1 + k, .inr (ci, ((List.range (sk_C ci).2.2).map (fun j => sk_fv E σ k j (sk_ty ci j))).set j (sk_v E v)))) H1 → va_D (sk_A E) ((sk_w E G σ).set k (E.1 + k, .inr (ci, ((List.range (sk_C ci).2.2).map (fun j => sk_fv E σ k j (sk_ty ci j))).set j (sk_v E v)))) → va_S (sk_A E) s.heap H1 locs1 → W p l e R s m args below meth c H1 locs1 cells slots Qf (F0 m (pc + 3) ar (st.map (sk_v E))) := by
    intro H1 locs1 hP1 _ hS1
    rw [hse] at hP1
    exact kk hM p e R s m args below meth c H1 locs1 cells slots Qf ar hF ⟨hP1, hR.2.1, hS1⟩ hl hc hs hfin
  cases hfi : ((sk_C ci).2.1 j).2.2.2 with
  | false => exact va_put hF.1 hF.2.1 hF.2.2.2.2.2.2.2.1 (sk_lays f1) (sk_ty ci) (sk_tyok f1) (sk_nmok f1) hF.2.2.2.2.1 hF.2.2.2.2.2.2.2.2.1.1 hR.1 (sk_w_D E G σ) hR.2.2 k (sk_w_at hG) (sk_cl f1) j f2 (hF.2.2.2.2.2.2.2.1 _ f3) (fun _ h => h) hfi (sk_tyok f1 j f2) n1 n2 (by simpa using f2) hd kx
  | true =>
    have h2 := hA.2
    rw [hfi] at h2
    simp only [Bool.not_true, Bool.false_or, Bool.and_eq_true, decide_eq_true_eq] at h2
    exact va_putF hF.1 hF.2.1 hF.2.2.2.2.2.2.2.1 (sk_lays f1) (sk_ty ci) (sk_tyok f1) (sk_nmok f1) hF.2.2.2.2.1 hF.2.2.2.2.2.2.2.2.1.1 hR.1 (sk_w_D E G σ) hR.2.2 k (sk_w_at hG) (sk_cl f1) j f2 (hF.2.2.2.2.2.2.2.1 _ f3) (fun _ h => h) hfi (hF.2.2.2.2.2.2.1.trans h2.1) h2.2 (sk_tyok f1 j f2) n1 n2 (by simpa using f2) hd kx
theorem AW_putI {k ci j q idx : Nat} {x : Int} (h : sk_find pc M.2.2.2.2 = some (pc0, (.putfield idx), len, nxt, [ci, j, q, 0])) (hG : G[k]? = some (.inl ci)) (kk : AW l E d mc ms M nxt ls st G (sk_uI I k j x, L, J) Q) : AW l E d mc ms M pc ls (vi x :: vr k :: st) G (I, L, J) Q := by
  intro hM
  have hA := (sk_dec hM h).2.2.1
  have hA : (sk_fok M.1.cls idx ci j q 0 && (!((sk_C ci).2.1 j).2.2.2 || (decide (M.1.name = "<init>") && decide (((sk_C ci).2.1 j).1 = M.1.cls)))) = true := hA
  rw [Bool.and_eq_true] at hA
  obtain ⟨f1, f2, f3, f4⟩ := sk_fokE hA.1
  have ht : sk_ty ci j = .int := by
    rcases f4 with ⟨e1, -⟩ | ⟨-, e1⟩ | ⟨-, e1⟩
    · exact e1
    · cases e1
    · cases e1
  refine sk_putA h hG (fun _ => ?_) (fun _ => ?_) (fun i hi => ?_) (fun k' sh' hk => sk_cell_o sh' (sk_uI_o hk) rfl rfl) kk hM
  · rw [ht]; exact ⟨rfl, rfl⟩
  · rw [ht]; simp [sk_fv, sk_isR, sk_uI, sk_up, sk_v]
  · have : (i : Int) ≠ (j : Int) := fun e => hi (Int.ofNat.inj e)
    simp [sk_fv, sk_uI, sk_up, this]
theorem sk_b01 {x : Int} (h : x = 0 ∨ x = 1) : narrow .boolean (.int (Int32.ofInt x)) = .int (Int32.ofInt x) ∧ fits .boolean (.int (Int32.ofInt x)) = true := by
  rcases h with rfl | rfl <;> exact ⟨rfl, rfl⟩
theorem AW_putZ {k ci j q idx : Nat} {x : Int} (h : sk_find pc M.2.2.2.2 = some (pc0, (.putfield idx), len, nxt, [ci, j, q, 1])) (hG : G[k]? = some (.inl ci)) (hx : x = 0 ∨ x = 1) (kk : AW l E d mc ms M nxt ls st G (sk_uI I k j x, L, J) Q) : AW l E d mc ms M pc ls (vi x :: vr k :: st) G (I, L, J) Q := by
  intro hM
  have hA := (sk_dec hM h).2.2.1
  have hA : (sk_fok M.1.cls idx ci j q 1 && (!((sk_C ci).2.1 j).2.2.2 || (decide (M.1.name = "<init>") && decide (((sk_C ci).2.1 j).1 = M.1.cls)))) = true := hA
  rw [Bool.and_eq_true] at hA
  obtain ⟨f1, f2, f3, f4⟩ := sk_fokE hA.1
  have ht : sk_ty ci j = .boolean := by
    rcases f4 with ⟨-, e1⟩ | ⟨e1, -⟩ | ⟨-, e1⟩
    · cases e1
    · exact e1
    · cases e1
  refine sk_putA h hG (fun _ => ?_) (fun _ => ?_) (fun i hi => ?_) (fun k' sh' hk => sk_cell_o sh' (sk_uI_o hk) rfl rfl) kk hM
  · rw [ht]; exact sk_b01 hx
  · rw [ht]; simp [sk_fv, sk_isR, sk_uI, sk_up, sk_v]
  · have : (i : Int) ≠ (j : Int) := fun e => hi (Int.ofNat.inj e)
    simp [sk_fv, sk_uI, sk_up, this]
theorem AW_putR {k ci j q idx x : Nat} (h : sk_find pc M.2.2.2.2 = some (pc0, (.putfield idx), len, nxt, [ci, j, q, 3])) (hG : G[k]? = some (.inl ci)) (kk : AW l E d mc ms M nxt ls st G (I, L, sk_uR J k j (some x)) Q) : AW l E d mc ms M pc ls (vr x :: vr k :: st) G (I, L, J) Q := by
  intro hM
  have hA := (sk_dec hM h).2.2.1
  have hA : (sk_fok M.1.cls idx ci j q 3 && (!((sk_C ci).2.1 j).2.2.2 || (decide (M.1.name = "<init>") && decide (((sk_C ci).2.1 j).1 = M.1.cls)))) = true := hA
  rw [Bool.and_eq_true] at hA
  obtain ⟨f1, f2, f3, f4⟩ := sk_fokE hA.1
  have ht : sk_isR (sk_ty ci j) = true := by
    rcases f4 with ⟨-, e1⟩ | ⟨-, e1⟩ | ⟨e1, -⟩
    · cases e1
    · cases e1
    · exact e1
  refine sk_putA h hG (fun _ => ?_) (fun _ => ?_) (fun i hi => ?_) (fun k' sh' hk => sk_cell_o sh' rfl rfl (sk_uR_o hk)) kk hM
  · generalize sk_ty ci j = ty at ht
    cases ty <;> first | exact ⟨rfl, rfl⟩ | cases ht
  · simp [sk_fv, ht, sk_uR, sk_upR, sk_v]
  · have : (i : Int) ≠ (j : Int) := fun e => hi (Int.ofNat.inj e)
    simp [sk_fv, sk_uR, sk_upR, this]
/-! arrays -/
theorem sk_cn (a : Int) (h0 : 0 ≤ a) {n : Nat} (h : a < n) (hn : n < 2147483648) : ((Int32.ofInt a).toNatClampNeg : Int) = a := sk_nat h0 (by omega)
theorem AW_iald {k n : Nat} {i : Int} (h : sk_find pc M.2.2.2.2 = some (pc0, .iaload, len, nxt, aux)) (hG : G[k]? = some (.inr (0, n))) (hi : 0 ≤ i ∧ i < n) (hn : n < 2147483648) (kk : AW l E d mc ms M nxt ls (vi (I k i) :: st) G (I, L, J) Q) : AW l E d mc ms M pc ls (vi i :: vr k :: st) G (I, L, J) Q := by
  intro hM p e R s m args below meth c H locs cells slots Qf ar hF hR hl hc hs hfin
  obtain ⟨hd, rfl, hA, hlen⟩ := sk_dec hM h
  obtain rfl : 1 = len := hlen.resolve_left (by simp [sk_il])
  have k1 := kk hM p e R s m args below meth c H locs cells slots Qf ar hF hR hl hc hs hfin
  show W p l e R s m args below meth c H locs cells slots Qf (F0 m pc ar (.int (Int32.ofInt i) :: sk_v E (vr k) :: st.map (sk_v E)))
  rw [sk_vr hG hR.2.1]
  refine va_iald hF.1 hF.2.1 hF.2.2.2.2.2.2.2.2.1.1 hR.1 k 0 (sk_w_at hG) rfl (sk_vin hi.1 hi.2 hn) hd ?_
  dsimp only
  rw [sk_cn i hi.1 hi.2 hn]
  exact k1
theorem AW_zald {k n : Nat} {i : Int} (h : sk_find pc M.2.2.2.2 = some (pc0, .baload, len, nxt, aux)) (hG : G[k]? = some (.inr (1, n))) (hi : 0 ≤ i ∧ i < n) (hn : n < 2147483648) (kk : AW l E d mc ms M nxt ls (vi (I k i) :: st) G (I, L, J) Q) : AW l E d mc ms M pc ls (vi i :: vr k :: st) G (I, L, J) Q := by
  intro hM p e R s m args below meth c H locs cells slots Qf ar hF hR hl hc hs hfin
  obtain ⟨hd, rfl, hA, hlen⟩ := sk_dec hM h
  obtain rfl : 1 = len := hlen.resolve_left (by simp [sk_il])
  have k1 := kk hM p e R s m args below meth c H locs cells slots Qf ar hF hR hl hc hs hfin
  show W p l e R s m args below meth c H locs cells slots Qf (F0 m pc ar (.int (Int32.ofInt i) :: sk_v E (vr k) :: st.map (sk_v E)))
  rw [sk_vr hG hR.2.1]
  refine va_zald hF.1 hF.2.1 hF.2.2.2.2.2.2.2.2.1.1 hR.1 k 1 (sk_w_at hG) rfl (sk_vin hi.1 hi.2 hn) hd ?_
  dsimp only
  rw [sk_cn i hi.1 hi.2 hn]
  exact k1
theorem AW_lald {k n : Nat} {i : Int} (h : sk_find pc M.2.2.2.2 = some (pc0, .laload, len, nxt, aux)) (hG : G[k]? = some (.inr (2, n))) (hi : 0 ≤ i ∧ i < n) (hn : n < 2147483648) (kk : AW l E d mc ms M nxt ls (vl (L k i) :: st) G (I, L, J) Q) : AW l E d mc ms M pc ls (vi i :: vr k :: st) G (I, L, J) Q := by
  intro hM p e R s m args below meth c H locs cells slots Qf ar hF hR hl hc hs hfin
  obtain ⟨hd, rfl, hA, hlen⟩ := sk_dec hM h
  obtain rfl : 1 = len := hlen.resolve_left (by simp [sk_il])
  have k1 := kk hM p e R s m args below meth c H locs cells slots Qf ar hF hR hl hc hs hfin
  show W p l e R s m args below meth c H locs cells slots Qf (F0 m pc ar (.int (Int32.ofInt i) :: sk_v E (vr k) :: st.map (sk_v E)))
  rw [sk_vr hG hR.2.1]
  refine va_lald hF.1 hF.2.1 hF.2.2.2.2.2.2.2.2.1.1 hR.1 k 2 (sk_w_at hG) rfl (sk_vin hi.1 hi.2 hn) hd ?_
  dsimp only
  rw [sk_cn i hi.1 hi.2 hn]
  exact k1
theorem AW_aald {k n : Nat} {i : Int} {r : Nat} (h : sk_find pc M.2.2.2.2 = some (pc0, .aaload, len, nxt, aux)) (hG : G[k]? = some (.inr (3, n))) (hi : 0 ≤ i ∧ i < n) (hn : n < 2147483648) (hr : J k i = some r) (kk : AW l E d mc ms M nxt ls (vr r :: st) G (I, L, J) Q) : AW l E d mc ms M pc ls (vi i :: vr k :: st) G (I, L, J) Q := by
  intro hM p e R s m args below meth c H locs cells slots Qf ar hF hR hl hc hs hfin
  obtain ⟨hd, rfl, hA, hlen⟩ := sk_dec hM h
  obtain rfl : 1 = len := hlen.resolve_left (by simp [sk_il])
  have k1 := kk hM p e R s m args below meth c H locs cells slots Qf ar hF hR hl hc hs hfin
  show W p l e R s m args below meth c H locs cells slots Qf (F0 m pc ar (.int (Int32.ofInt i) :: sk_v E (vr k) :: st.map (sk_v E)))
  rw [sk_vr hG hR.2.1]
  refine va_aldq hF.1 hF.2.1 hF.2.2.2.2.2.2.2.2.1.1 hR.1 k 3 (sk_w_at hG) rfl (sk_vin hi.1 hi.2 hn) hd ?_
  dsimp only
  rw [sk_cn i hi.1 hi.2 hn, hr]
  exact k1
theorem AW_iast {k n : Nat} {i x : Int} (h : sk_find pc M.2.2.2.2 = some (pc0, .iastore, len, nxt, aux)) (hG : G[k]? = some (.inr (0, n))) (hi : 0 ≤ i ∧ i < n) (hn : n < 2147483648) (kk : AW l E d mc ms M nxt ls st G (sk_uI I k i x, L, J) Q) : AW l E d mc ms M pc ls (vi x :: vi i :: vr k :: st) G (I, L, J) Q := by
  intro hM p e R s m args below meth c H locs cells slots Qf ar hF hR hl hc hs hfin
  obtain ⟨hd, rfl, hA, hlen⟩ := sk_dec hM h
  obtain rfl : 1 = len := hlen.resolve_left (by simp [sk_il])
  show W p l e R s m args below meth c H locs cells slots Qf (F0 m pc ar (.int (Int32.ofInt x) :: .int (Int32.ofInt i) :: sk_v E (vr k) :: st.map (sk_v E)))
  rw [sk_vr hG hR.2.1]
  refine va_iast hF.1 hF.2.1 hF.2.2.2.2.2.2.2.2.1.1 hR.1 (sk_w_D E G (I, L, J)) hR.2.2 k 0 (sk_w_at hG) rfl (sk_vin hi.1 hi.2 hn) hd (fun H1 locs1 hP1 _ hS1 => ?_)
  rw [sk_w_set (σ' := (sk_uI I k i x, L, J)) hG ?_ (fun k' sh' hk => sk_cell_o sh' (sk_uI_o hk) rfl rfl)] at hP1
  · exact kk hM p e R s m args below meth c H1 locs1 cells slots Qf ar hF ⟨hP1, hR.2.1, hS1⟩ hl hc hs hfin
  · show Sum.inl _ = _
    congr 3
    show Sum.inl _ = _
    congr 1
    funext j
    have := sk_cn i hi.1 hi.2 hn
    simp only [sk_uI_s, sk_up, upd]
    by_cases hj : (j : Int) = i
    · rw [if_pos hj, if_pos (by omega)]
    · rw [if_neg hj, if_neg (by omega)]
theorem AW_zast {k n : Nat} {i x : Int} (h : sk_find pc M.2.2.2.2 = some (pc0, .bastore, len, nxt, aux)) (hG : G[k]? = some (.inr (1, n))) (hi : 0 ≤ i ∧ i < n) (hn : n < 2147483648) (hx : x = 0 ∨ x = 1) (kk : AW l E d mc ms M nxt ls st G (sk_uI I k i x, L, J) Q) : AW l E d mc ms M pc ls (vi x :: vi i :: vr k :: st) G (I, L, J) Q := by
  intro hM p e R s m args below meth c H locs cells slots Qf ar hF hR hl hc hs hfin
  obtain ⟨hd, rfl, hA, hlen⟩ := sk_dec hM h
  obtain rfl : 1 = len := hlen.resolve_left (by simp [sk_il])
  show W p l e R s m args below meth c H locs cells slots Qf (F0 m pc ar (.int (Int32.ofInt x) :: .int (Int32.ofInt i) :: sk_v E (vr k) :: st.map (sk_v E)))
  rw [sk_vr hG hR.2.1]
  refine va_zast hF.1 hF.2.1 hF.2.2.2.2.2.2.2.2.1.1 hR.1 (sk_w_D E G (I, L, J)) hR.2.2 k 1 (sk_w_at hG) rfl (sk_vin hi.1 hi.2 hn) hd (fun H1 locs1 hP1 _ hS1 => ?_)
  have hxn : vp_nar .boolean (Int32.ofInt x) = Int32.ofInt x := by rcases hx with rfl | rfl <;> rfl
  rw [hxn] at hP1
  rw [sk_w_set (σ' := (sk_uI I k i x, L, J)) hG ?_ (fun k' sh' hk => sk_cell_o sh' (sk_uI_o hk) rfl rfl)] at hP1
  · exact kk hM p e R s m args below meth c H1 locs1 cells slots Qf ar hF ⟨hP1, hR.2.1, hS1⟩ hl hc hs hfin
  · show Sum.inl _ = _
    congr 3
    show Sum.inl _ = _
    congr 1
    funext j
    have := sk_cn i hi.1 hi.2 hn
    simp only [sk_uI_s, sk_up, upd]
    by_cases hj : (j : Int) = i
    · rw [if_pos hj, if_pos (by omega)]
    · rw [if_neg hj, if_neg (by omega)]
theorem AW_last {k n : Nat} {i : Int} {x : Int64} (h : sk_find pc M.2.2.2.2 = some (pc0, .lastore, len, nxt, aux)) (hG : G[k]? = some (.inr (2, n))) (hi : 0 ≤ i ∧ i < n) (hn : n < 2147483648) (kk : AW l E d mc ms M nxt ls st G (I, sk_uL L k i x, J) Q) : AW l E d mc ms M pc ls (vl x :: vi i :: vr k :: st) G (I, L, J) Q := by
  intro hM p e R s m args below meth c H locs cells slots Qf ar hF hR hl hc hs hfin
  obtain ⟨hd, rfl, hA, hlen⟩ := sk_dec hM h
  obtain rfl : 1 = len := hlen.resolve_left (by simp [sk_il])
  show W p l e R s m args below meth c H locs cells slots Qf (F0 m pc ar (.long x :: .int (Int32.ofInt i) :: sk_v E (vr k) :: st.map (sk_v E)))
  rw [sk_vr hG hR.2.1]
  refine va_last hF.1 hF.2.1 hF.2.2.2.2.2.2.2.2.1.1 hR.1 (sk_w_D E G (I, L, J)) hR.2.2 k 2 (sk_w_at hG) rfl (sk_vin hi.1 hi.2 hn) hd (fun H1 locs1 hP1 _ hS1 => ?_)
  rw [sk_w_set (σ' := (I, sk_uL L k i x, J)) hG ?_ (fun k' sh' hk => sk_cell_o sh' rfl (sk_uL_o hk) rfl)] at hP1
  · exact kk hM p e R s m args below meth c H1 locs1 cells slots Qf ar hF ⟨hP1, hR.2.1, hS1⟩ hl hc hs hfin
  · show Sum.inl _ = _
    congr 3
    show Sum.inr (Sum.inl _) = _
    congr 2
    funext j
    have := sk_cn i hi.1 hi.2 hn
    simp only [sk_uL_s, sk_upL, vp_updL]
    by_cases hj : (j : Int) = i
    · rw [if_pos hj, if_pos (by omega)]
    · rw [if_neg hj, if_neg (by omega)]
theorem AW_alen {σ : sk_St} {k tc n : Nat} (h : sk_find pc M.2.2.2.2 = some (pc0, .arraylength, len, nxt, aux)) (hG : G[k]? = some (.inr (tc, n))) (htc : Nat.blt tc 4 = true) (kk : AW l E d mc ms M nxt ls (vi (n : Int) :: st) G σ Q) : AW l E d mc ms M pc ls (vr k :: st) G σ Q := by
  intro hM p e R s m args below meth c H locs cells slots Qf ar hF hR hl hc hs hfin
  obtain ⟨hd, rfl, hA, hlen⟩ := sk_dec hM h
  obtain rfl : 1 = len := hlen.resolve_left (by simp [sk_il])
  have k1 := kk hM p e R s m args below meth c H locs cells slots Qf ar hF hR hl hc hs hfin
  show W p l e R s m args below meth c H locs cells slots Qf (F0 m pc ar (sk_v E (vr k) :: st.map (sk_v E)))
  rw [sk_vr hG hR.2.1]
  have ht : ∃ ty, (sk_tys E)[tc]? = some (E.2.2.1 tc, ty) := by
    rw [Nat.blt_eq] at htc
    rcases (show tc = 0 ∨ tc = 1 ∨ tc = 2 ∨ tc = 3 by omega) with rfl | rfl | rfl | rfl <;> exact ⟨_, rfl⟩
  obtain ⟨ty, ht⟩ := ht
  exact va_alen hF.1 hF.2.1 hF.2.2.2.2.2.2.2.2.1.1 hR.1 k tc (sk_w_at hG) ht (v := Int32.ofInt (n : Int)) (Int32.ofInt_eq_ofNat ▸ rfl) hd k1
end SKH
