/-! ===== both objects are made ===== -/
def sr_Z : sk_SI := fun _ _ => 0
def sr_ZL : sk_SL := fun _ _ => 0
def sr_N : sk_SR := fun _ _ => none
def sr_I8 : sk_SI := sk_fil 8 64 (-1) sr_Z
def sr_J1 : sk_SR := fun k j => if k < 59 then sk_J 9 19 19 9 9 9 k j else none
theorem sr_nIz {I : sk_SI} {n : Nat} (h : I n = fun _ => 0) : sk_nI I n = I := by
  funext k
  unfold sk_nI
  by_cases e : k = n
  · subst e; rw [if_pos rfl, h]
  · rw [if_neg e]
theorem sr_nLz {I : sk_SL} {n : Nat} (h : I n = fun _ => 0) : sk_nL I n = I := by
  funext k
  unfold sk_nL
  by_cases e : k = n
  · subst e; rw [if_pos rfl, h]
  · rw [if_neg e]
theorem sr_nJz {I : sk_SR} {n : Nat} (h : I n = fun _ => none) : sk_nJ I n = I := by
  funext k
  unfold sk_nJ
  by_cases e : k = n
  · subst e; rw [if_pos rfl, h]
  · rw [if_neg e]
section SKM1
variable {l : Launch} {E : sk_En} {d : Nat} {M : sk_M} {pc pc0 len nxt : Nat} {aux : List Nat} {ls : List (Option sk_V)} {st : List sk_V} {G : List sk_Sh} {I : sk_SI} {L : sk_SL} {J : sk_SR} {Q : Option sk_V → List sk_Sh → sk_St → Prop}
theorem AW_new0 {ci q1 q2 q3 idx n N mc0 ms0 : Nat} (mc ms : Nat) (G' : List sk_Sh) (h : sk_find pc M.2.2.2.2 = some (pc0, (.new idx), len, nxt, [ci, q1, q2, q3])) (hn : G.length = n) (h1 : Nat.blt n 1000 = true) (hG' : G ++ [.inl ci] = G') (hN : (sk_C ci).2.2 = N) (hmc : mc0 = mc + 1) (hms : ms0 = ms + N) (hI : I n = fun _ => 0) (hL : L n = fun _ => 0) (hJ : J n = fun _ => none) (k : AW l E d mc ms M nxt ls (vr n :: st) G' (I, L, J) Q) : AW l E d mc0 ms0 M pc ls st G (I, L, J) Q := by
  subst hn hG' hmc hms
  have h1 : G.length < 1000 := by simpa using h1
  refine AW_new h h1 hN ?_
  rw [sr_nIz hI, sr_nLz hL, sr_nJz hJ]
  exact k
theorem AW_newa0 {at' : ArrayType} {tc z n mc0 ms0 : Nat} {zz : Int} (mc ms : Nat) (G' : List sk_Sh) (h : sk_find pc M.2.2.2.2 = some (pc0, (.newarray at'), len, nxt, aux)) (hzz : zz = ((z : Nat) : Int)) (hat : newarray.typeOf at' = .int ∧ tc = 0 ∨ newarray.typeOf at' = .boolean ∧ tc = 1 ∨ newarray.typeOf at' = .long ∧ tc = 2) (hw : Cond.arrayClass (newarray.typeOf at') ∈ sk_gw) (hz : z ≤ 1000000) (hn : G.length = n) (h1 : Nat.blt n 1000 = true) (hG' : G ++ [.inr (tc, z)] = G') (hmc : mc0 = mc + 1) (hms : ms0 = ms + z) (hI : I n = fun _ => 0) (hL : L n = fun _ => 0) (hJ : J n = fun _ => none) (k : AW l E d mc ms M nxt ls (vr n :: st) G' (I, L, J) Q) : AW l E d mc0 ms0 M pc ls (vi zz :: st) G (I, L, J) Q := by
  subst hn hG' hmc hms hzz
  have h1 : G.length < 1000 := by simpa using h1
  refine AW_newa h hat hw hz h1 ?_
  rw [sr_nIz hI, sr_nLz hL, sr_nJz hJ]
  exact k
theorem AW_newq0 {idx z n mc0 ms0 : Nat} {zz : Int} (mc ms : Nat) (G' : List sk_Sh) (h : sk_find pc M.2.2.2.2 = some (pc0, (.anewarray idx), len, nxt, aux)) (hzz : zz = ((z : Nat) : Int)) (hw : Cond.classLink M.1.cls idx "java/lang/String" ∈ sk_gw) (hz : z ≤ 1000000) (hn : G.length = n) (h1 : Nat.blt n 1000 = true) (hG' : G ++ [.inr (3, z)] = G') (hmc : mc0 = mc + 1) (hms : ms0 = ms + z) (hI : I n = fun _ => 0) (hL : L n = fun _ => 0) (hJ : J n = fun _ => none) (k : AW l E d mc ms M nxt ls (vr n :: st) G' (I, L, J) Q) : AW l E d mc0 ms0 M pc ls (vi zz :: st) G (I, L, J) Q := by
  subst hn hG' hmc hms hzz
  have h1 : G.length < 1000 := by simpa using h1
  refine AW_newq h hw hz h1 ?_
  rw [sr_nIz hI, sr_nLz hL, sr_nJz hJ]
  exact k
/-- another heap that holds the same cells -/
theorem AW_cong {mc ms : Nat} {σ σ' : sk_St} (h : sk_w E G σ = sk_w E G σ') (k : AW l E d mc ms M pc ls st G σ' Q) : AW l E d mc ms M pc ls st G σ Q := by
  intro hM p e R s m args below meth c H locs cells slots Qf ar hF hR hl hc hs hfin
  refine k hM p e R s m args below meth c H locs cells slots Qf ar hF ?_ hl hc hs hfin
  unfold sk_R at hR ⊢
  rw [← h]
  exact hR
theorem sr_w_eq {J' : sk_SR} {n : Nat} (hN : ∀ k sh, (sk_G.take n)[k]? = some sh → (∃ ci, sh = .inl ci ∧ (sk_C ci).2.2 ≤ 72) ∨ (∃ x, sh = .inr x ∧ (x.1 ≠ 3 ∨ ∀ j : Nat, J' k j = J k j))) (hJ : ∀ k, k < 100 → ∀ j, j < 72 → k < n → J' k ((j : Nat) : Int) = J k j) : sk_w E (sk_G.take n) (I, L, J') = sk_w E (sk_G.take n) (I, L, J) := by
  apply List.ext_getElem?
  intro k
  rw [sk_w_get, sk_w_get]
  cases hg : (sk_G.take n)[k]? with
  | none => rfl
  | some sh =>
    have hk : k < n ∧ k < 100 := by
      have := (List.getElem?_eq_some_iff.mp hg).1
      rw [List.length_take] at this
      have e : sk_G.length = 100 := rfl
      omega
    have : sk_cell E (I, L, J') k sh = sk_cell E (I, L, J) k sh := by
      rcases hN k sh hg with ⟨ci, rfl, hc⟩ | ⟨x, rfl, hx⟩
      · unfold sk_cell
        refine congrArg _ (congrArg _ (List.map_congr_left (fun j hj => ?_)))
        have hj' : j < 72 := by
          have := List.mem_range.mp hj
          omega
        unfold sk_fv
        rw [show (I, L, J').2.2 k (j : Int) = (I, L, J).2.2 k (j : Int) from hJ k hk.2 j hj' hk.1]
      · have hp : sk_pay E (I, L, J') k x.1 = sk_pay E (I, L, J) k x.1 := by
          unfold sk_pay
          by_cases e2 : x.1 = 2
          · rw [if_pos e2, if_pos e2]
          · rw [if_neg e2, if_neg e2]
            by_cases e3 : x.1 = 3
            · rw [if_pos e3, if_pos e3]
              have hx := hx.resolve_left (fun z => z e3)
              have : (fun j : Nat => ((I, L, J').2.2 k (j : Int)).map (sk_ad E)) = fun j : Nat => ((I, L, J).2.2 k (j : Int)).map (sk_ad E) := by
                funext j
                exact congrArg _ (hx j)
              rw [this]
            · rw [if_neg e3, if_neg e3]
        show Sum.inl (E.2.2.1 x.1, x.2, sk_pay E (I, L, J') k x.1) = Sum.inl (E.2.2.1 x.1, x.2, sk_pay E (I, L, J) k x.1)
        rw [hp]
    rw [Option.map_some, Option.map_some, this]
theorem c_fill8 (L : sk_SL) (J : sk_SR) (I : sk_SI) (hq : Q none (sk_G.take 9) (sk_fil 8 64 (-1) I, L, J)) : AW l E d 0 0 mJ7_fill_53178 0 [some (vr 8), some (vi (-1)), none, none] [] (sk_G.take 9) (I, L, J) Q := by
  have lp : ∀ (k : Nat) (i : Int), 0 ≤ i → i + k = 64 → AW l E d 0 0 mJ7_fill_53178 7 [some (vr 8), some (vi (-1)), some (vi i), some (vi 64)] [vi 64, vi i] (sk_G.take 9) (sk_fil 8 i (-1) I, L, J) Q := by
    intro k
    induction k with
    | zero =>
      intro i i0 hi
      have : i = 64 := by omega
      subst this
      refine AW_icge rfl (fun g => ?_) (fun g => by omega)
      exact AW_vret rfl rfl hq
    | succ k ih =>
      intro i i0 hi
      have ih2 := ih (i + 1) (by omega) (by omega)
      rw [← sk_fil_1 8 i (-1) I i0] at ih2
      refine AW_icge rfl (fun g => by omega) (fun g => ?_) (by unfold sk_in; omega)
      refine AW_run 80 rfl ?_
      refine AW_iast rfl rfl ⟨by omega, by omega⟩ (by decide) ?_
      refine AW_run 80 rfl ?_
      exact ih2
  have lp := lp 64 0 (by omega) (by omega)
  rw [sk_fil_0] at lp
  refine AW_run 80 rfl ?_
  exact lp
end SKM1
section SKM2
variable {l : Launch} {E : sk_En} {Q : Option sk_V → List sk_Sh → sk_St → Prop}
set_option maxRecDepth 100000 in
set_option maxHeartbeats 8000000 in
theorem c_K_init (hq : ∀ J' : sk_SR, (∀ k, k < 100 → ∀ j, j < 72 → k < 59 → J' k ((j : Nat) : Int) = sr_J1 k j) → Q none (sk_G.take 59) (sr_I8, sr_ZL, J')) : AW l E 100 58 24348 mX9_init 0 [some (vr 0)] [] (sk_G.take 1) (sr_Z, sr_ZL, sr_N) Q := by
  refine AW_run 80 rfl ?_
  refine AW_objI rfl kw_oX9 kw_oi kw_oc rfl (by omega) rfl ?_
  refine AW_run 80 rfl ?_
  refine AW_new0 57 24346 (sk_G.take 2) (n := 1) (N := 2) rfl rfl rfl rfl rfl rfl rfl rfl rfl rfl ?_
  refine AW_run 80 rfl ?_
  refine AW_callI (M' := mX4_init) (d' := 99) (mc' := 1) (ms' := 1200) (mc := 56) (ms := 23146) rfl kkX9_11 lcX4_init rfl rfl rfl rfl (by omega) rfl rfl ?_
  refine AW_run 80 rfl ?_
  refine AW_objI rfl kw_oX4 kw_oi kw_oc rfl (by omega) rfl ?_
  refine AW_run 80 rfl ?_
  refine AW_max rfl kw_pX4_9 (by omega) rfl (by unfold sk_in; omega) (by unfold sk_in; omega) ?_
  refine AW_top (b := 1200) (by decide) ?_
  refine AW_newa0 0 0 (sk_G.take 3) (n := 2) (z := 1200) (tc := 0) rfl rfl (Or.inl ⟨rfl, rfl⟩) kw_aint (by decide) rfl rfl rfl rfl rfl rfl rfl rfl ?_
  refine AW_run 80 rfl ?_
  refine AW_vret rfl rfl ?_
  refine AW_run 80 rfl ?_
  refine AW_new0 55 23144 (sk_G.take 4) (n := 3) (N := 2) rfl rfl rfl rfl rfl rfl rfl rfl rfl rfl ?_
  refine AW_run 80 rfl ?_
  refine AW_callI (M' := mX4_init) (d' := 99) (mc' := 1) (ms' := 400) (mc := 54) (ms := 22744) rfl kkX9_11 lcX4_init rfl rfl rfl rfl (by omega) rfl rfl ?_
  refine AW_run 80 rfl ?_
  refine AW_objI rfl kw_oX4 kw_oi kw_oc rfl (by omega) rfl ?_
  refine AW_run 80 rfl ?_
  refine AW_max rfl kw_pX4_9 (by omega) rfl (by unfold sk_in; omega) (by unfold sk_in; omega) ?_
  refine AW_top (b := 400) (by decide) ?_
  refine AW_newa0 0 0 (sk_G.take 5) (n := 4) (z := 400) (tc := 0) rfl rfl (Or.inl ⟨rfl, rfl⟩) kw_aint (by decide) rfl rfl rfl rfl rfl rfl rfl rfl ?_
  refine AW_run 80 rfl ?_
  refine AW_vret rfl rfl ?_
  refine AW_run 80 rfl ?_
  refine AW_new0 53 22742 (sk_G.take 6) (n := 5) (N := 2) rfl rfl rfl rfl rfl rfl rfl rfl rfl rfl ?_
  refine AW_run 80 rfl ?_
  refine AW_callI (M' := mX4_init) (d' := 99) (mc' := 1) (ms' := 3000) (mc := 52) (ms := 19742) rfl kkX9_11 lcX4_init rfl rfl rfl rfl (by omega) rfl rfl ?_
  refine AW_run 80 rfl ?_
  refine AW_objI rfl kw_oX4 kw_oi kw_oc rfl (by omega) rfl ?_
  refine AW_run 80 rfl ?_
  refine AW_max rfl kw_pX4_9 (by omega) rfl (by unfold sk_in; omega) (by unfold sk_in; omega) ?_
  refine AW_top (b := 3000) (by decide) ?_
  refine AW_newa0 0 0 (sk_G.take 7) (n := 6) (z := 3000) (tc := 0) rfl rfl (Or.inl ⟨rfl, rfl⟩) kw_aint (by decide) rfl rfl rfl rfl rfl rfl rfl rfl ?_
  refine AW_run 80 rfl ?_
  refine AW_vret rfl rfl ?_
  refine AW_run 80 rfl ?_
  refine AW_new0 51 19741 (sk_G.take 8) (n := 7) (N := 1) rfl rfl rfl rfl rfl rfl rfl rfl rfl rfl ?_
  refine AW_run 80 rfl ?_
  refine AW_callI (M' := mX5_init) (d' := 99) (mc' := 1) (ms' := 64) (mc := 50) (ms := 19677) rfl kkX9_26 lcX5_init rfl rfl rfl rfl (by omega) rfl rfl ?_
  refine AW_run 80 rfl ?_
  refine AW_objI rfl kw_oX5 kw_oi kw_oc rfl (by omega) rfl ?_
  refine AW_run 80 rfl ?_
  refine AW_newa0 0 0 (sk_G.take 9) (n := 8) (z := 64) (tc := 0) rfl rfl (Or.inl ⟨rfl, rfl⟩) kw_aint (by decide) rfl rfl rfl rfl rfl rfl rfl rfl ?_
  refine AW_run 80 rfl ?_
  refine AW_callS (M' := mJ7_fill_53178) (d' := 98) (mc' := 0) (ms' := 0) (mc := 0) (ms := 0) rfl kkX5_15 lcJ7_fill_53178 rfl rfl rfl (by omega) rfl rfl ?_
  refine c_fill8 _ _ _ ?_
  refine AW_vret rfl rfl ?_
  refine AW_run 80 rfl ?_
  refine AW_new0 49 19665 (sk_G.take 10) (n := 9) (N := 12) rfl rfl rfl rfl rfl rfl rfl rfl rfl rfl ?_
  refine AW_run 80 rfl ?_
  refine AW_callIN (M' := mX2_init) (d' := 99) (mc' := 9) (ms' := 1440) (mc := 40) (ms := 18225) rfl kkX9_33 lcX2_init rfl rfl rfl rfl (by omega) rfl rfl ?_
  refine AW_run 80 rfl ?_
  refine AW_objI rfl kw_oX2 kw_oi kw_oc rfl (by omega) rfl ?_
  refine AW_run 80 rfl ?_
  refine AW_newa0 8 1420 (sk_G.take 11) (n := 10) (z := 20) (tc := 0) rfl rfl (Or.inl ⟨rfl, rfl⟩) kw_aint (by decide) rfl rfl rfl rfl rfl rfl rfl rfl ?_
  refine AW_run 80 rfl ?_
  refine AW_newa0 7 1400 (sk_G.take 12) (n := 11) (z := 20) (tc := 0) rfl rfl (Or.inl ⟨rfl, rfl⟩) kw_aint (by decide) rfl rfl rfl rfl rfl rfl rfl rfl ?_
  refine AW_run 80 rfl ?_
  refine AW_newa0 6 1200 (sk_G.take 13) (n := 12) (z := 200) (tc := 0) rfl rfl (Or.inl ⟨rfl, rfl⟩) kw_aint (by decide) rfl rfl rfl rfl rfl rfl rfl rfl ?_
  refine AW_run 80 rfl ?_
  refine AW_newa0 5 1000 (sk_G.take 14) (n := 13) (z := 200) (tc := 0) rfl rfl (Or.inl ⟨rfl, rfl⟩) kw_aint (by decide) rfl rfl rfl rfl rfl rfl rfl rfl ?_
  refine AW_run 80 rfl ?_
  refine AW_newa0 4 800 (sk_G.take 15) (n := 14) (z := 200) (tc := 0) rfl rfl (Or.inl ⟨rfl, rfl⟩) kw_aint (by decide) rfl rfl rfl rfl rfl rfl rfl rfl ?_
  refine AW_run 80 rfl ?_
  refine AW_newa0 3 600 (sk_G.take 16) (n := 15) (z := 200) (tc := 0) rfl rfl (Or.inl ⟨rfl, rfl⟩) kw_aint (by decide) rfl rfl rfl rfl rfl rfl rfl rfl ?_
  refine AW_run 80 rfl ?_
  refine AW_newa0 2 400 (sk_G.take 17) (n := 16) (z := 200) (tc := 0) rfl rfl (Or.inl ⟨rfl, rfl⟩) kw_aint (by decide) rfl rfl rfl rfl rfl rfl rfl rfl ?_
  refine AW_run 80 rfl ?_
  refine AW_newa0 1 200 (sk_G.take 18) (n := 17) (z := 200) (tc := 0) rfl rfl (Or.inl ⟨rfl, rfl⟩) kw_aint (by decide) rfl rfl rfl rfl rfl rfl rfl rfl ?_
  refine AW_run 80 rfl ?_
  refine AW_newa0 0 0 (sk_G.take 19) (n := 18) (z := 200) (tc := 0) rfl rfl (Or.inl ⟨rfl, rfl⟩) kw_aint (by decide) rfl rfl rfl rfl rfl rfl rfl rfl ?_
  refine AW_run 80 rfl ?_
  refine AW_vret rfl rfl ?_
  refine AW_run 80 rfl ?_
  refine AW_new0 39 18213 (sk_G.take 20) (n := 19) (N := 12) rfl rfl rfl rfl rfl rfl rfl rfl rfl rfl ?_
  refine AW_run 80 rfl ?_
  refine AW_callIN (M' := mX2_init) (d' := 99) (mc' := 9) (ms' := 1440) (mc := 30) (ms := 16773) rfl kkX9_33 lcX2_init rfl rfl rfl rfl (by omega) rfl rfl ?_
  refine AW_run 80 rfl ?_
  refine AW_objI rfl kw_oX2 kw_oi kw_oc rfl (by omega) rfl ?_
  refine AW_run 80 rfl ?_
  refine AW_newa0 8 1420 (sk_G.take 21) (n := 20) (z := 20) (tc := 0) rfl rfl (Or.inl ⟨rfl, rfl⟩) kw_aint (by decide) rfl rfl rfl rfl rfl rfl rfl rfl ?_
  refine AW_run 80 rfl ?_
  refine AW_newa0 7 1400 (sk_G.take 22) (n := 21) (z := 20) (tc := 0) rfl rfl (Or.inl ⟨rfl, rfl⟩) kw_aint (by decide) rfl rfl rfl rfl rfl rfl rfl rfl ?_
  refine AW_run 80 rfl ?_
  refine AW_newa0 6 1200 (sk_G.take 23) (n := 22) (z := 200) (tc := 0) rfl rfl (Or.inl ⟨rfl, rfl⟩) kw_aint (by decide) rfl rfl rfl rfl rfl rfl rfl rfl ?_
  refine AW_run 80 rfl ?_
  refine AW_newa0 5 1000 (sk_G.take 24) (n := 23) (z := 200) (tc := 0) rfl rfl (Or.inl ⟨rfl, rfl⟩) kw_aint (by decide) rfl rfl rfl rfl rfl rfl rfl rfl ?_
  refine AW_run 80 rfl ?_
  refine AW_newa0 4 800 (sk_G.take 25) (n := 24) (z := 200) (tc := 0) rfl rfl (Or.inl ⟨rfl, rfl⟩) kw_aint (by decide) rfl rfl rfl rfl rfl rfl rfl rfl ?_
  refine AW_run 80 rfl ?_
  refine AW_newa0 3 600 (sk_G.take 26) (n := 25) (z := 200) (tc := 0) rfl rfl (Or.inl ⟨rfl, rfl⟩) kw_aint (by decide) rfl rfl rfl rfl rfl rfl rfl rfl ?_
  refine AW_run 80 rfl ?_
  refine AW_newa0 2 400 (sk_G.take 27) (n := 26) (z := 200) (tc := 0) rfl rfl (Or.inl ⟨rfl, rfl⟩) kw_aint (by decide) rfl rfl rfl rfl rfl rfl rfl rfl ?_
  refine AW_run 80 rfl ?_
  refine AW_newa0 1 200 (sk_G.take 28) (n := 27) (z := 200) (tc := 0) rfl rfl (Or.inl ⟨rfl, rfl⟩) kw_aint (by decide) rfl rfl rfl rfl rfl rfl rfl rfl ?_
  refine AW_run 80 rfl ?_
  refine AW_newa0 0 0 (sk_G.take 29) (n := 28) (z := 200) (tc := 0) rfl rfl (Or.inl ⟨rfl, rfl⟩) kw_aint (by decide) rfl rfl rfl rfl rfl rfl rfl rfl ?_
  refine AW_run 80 rfl ?_
  refine AW_vret rfl rfl ?_
  refine AW_run 80 rfl ?_
  refine AW_new0 29 16766 (sk_G.take 30) (n := 29) (N := 7) rfl rfl rfl rfl rfl rfl rfl rfl rfl rfl ?_
  refine AW_run 80 rfl ?_
  refine AW_callI (M' := mX3_init) (d' := 99) (mc' := 4) (ms' := 2605) (mc := 25) (ms := 14161) rfl kkX9_43 lcX3_init rfl rfl rfl rfl (by omega) rfl rfl ?_
  refine AW_run 80 rfl ?_
  refine AW_objI rfl kw_oX3 kw_oi kw_oc rfl (by omega) rfl ?_
  refine AW_run 80 rfl ?_
  refine AW_new0 3 2602 (sk_G.take 31) (n := 30) (N := 3) rfl rfl rfl rfl rfl rfl rfl rfl rfl rfl ?_
  refine AW_run 80 rfl ?_
  refine AW_callIN (M' := mX8_init) (d' := 98) (mc' := 2) (ms' := 2402) (mc := 1) (ms := 200) rfl kkX3_11 lcX8_init rfl rfl rfl rfl (by omega) rfl rfl ?_
  refine AW_run 80 rfl ?_
  refine AW_objI rfl kw_oX8 kw_oi kw_oc rfl (by omega) rfl ?_
  refine AW_run 80 rfl ?_
  refine AW_newa0 1 1201 (sk_G.take 32) (n := 31) (z := 1201) (tc := 0) rfl rfl (Or.inl ⟨rfl, rfl⟩) kw_aint (by decide) rfl rfl rfl rfl rfl rfl rfl rfl ?_
  refine AW_run 80 rfl ?_
  refine AW_newa0 0 0 (sk_G.take 33) (n := 32) (z := 1201) (tc := 0) rfl rfl (Or.inl ⟨rfl, rfl⟩) kw_aint (by decide) rfl rfl rfl rfl rfl rfl rfl rfl ?_
  refine AW_run 80 rfl ?_
  refine AW_vret rfl rfl ?_
  refine AW_run 80 rfl ?_
  refine AW_newa0 0 0 (sk_G.take 34) (n := 33) (z := 200) (tc := 0) rfl rfl (Or.inl ⟨rfl, rfl⟩) kw_aint (by decide) rfl rfl rfl rfl rfl rfl rfl rfl ?_
  refine AW_run 80 rfl ?_
  refine AW_vret rfl rfl ?_
  refine AW_run 80 rfl ?_
  refine AW_new0 24 14147 (sk_G.take 35) (n := 34) (N := 14) rfl rfl rfl rfl rfl rfl rfl rfl rfl rfl ?_
  refine AW_run 80 rfl ?_
  refine AW_callI (M' := mX6_init) (d' := 99) (mc' := 13) (ms' := 8507) (mc := 11) (ms := 5640) rfl kkX9_52 lcX6_init rfl rfl rfl rfl (by omega) rfl rfl ?_
  refine AW_run 80 rfl ?_
  refine AW_objI rfl kw_oX6 kw_oi kw_oc rfl (by omega) rfl ?_
  refine AW_run 80 rfl ?_
  refine AW_new0 12 8501 (sk_G.take 36) (n := 35) (N := 6) rfl rfl rfl rfl rfl rfl rfl rfl rfl rfl ?_
  refine AW_run 80 rfl ?_
  refine AW_callIN (M' := mX1_init) (d' := 98) (mc' := 5) (ms' := 2400) (mc := 7) (ms := 6101) rfl kkX6_11 lcX1_init rfl rfl rfl rfl (by omega) rfl rfl ?_
  refine AW_run 80 rfl ?_
  refine AW_objI rfl kw_oX1 kw_oi kw_oc rfl (by omega) rfl ?_
  refine AW_run 80 rfl ?_
  refine AW_newa0 4 1920 (sk_G.take 37) (n := 36) (z := 480) (tc := 0) rfl rfl (Or.inl ⟨rfl, rfl⟩) kw_aint (by decide) rfl rfl rfl rfl rfl rfl rfl rfl ?_
  refine AW_run 80 rfl ?_
  refine AW_newa0 3 1440 (sk_G.take 38) (n := 37) (z := 480) (tc := 0) rfl rfl (Or.inl ⟨rfl, rfl⟩) kw_aint (by decide) rfl rfl rfl rfl rfl rfl rfl rfl ?_
  refine AW_run 80 rfl ?_
  refine AW_newa0 2 960 (sk_G.take 39) (n := 38) (z := 480) (tc := 0) rfl rfl (Or.inl ⟨rfl, rfl⟩) kw_aint (by decide) rfl rfl rfl rfl rfl rfl rfl rfl ?_
  refine AW_run 80 rfl ?_
  refine AW_newa0 1 480 (sk_G.take 40) (n := 39) (z := 480) (tc := 0) rfl rfl (Or.inl ⟨rfl, rfl⟩) kw_aint (by decide) rfl rfl rfl rfl rfl rfl rfl rfl ?_
  refine AW_run 80 rfl ?_
  refine AW_newa0 0 0 (sk_G.take 41) (n := 40) (z := 480) (tc := 0) rfl rfl (Or.inl ⟨rfl, rfl⟩) kw_aint (by decide) rfl rfl rfl rfl rfl rfl rfl rfl ?_
  refine AW_run 80 rfl ?_
  refine AW_vret rfl rfl ?_
  refine AW_run 80 rfl ?_
  refine AW_newa0 6 6097 (sk_G.take 42) (n := 41) (z := 4) (tc := 0) rfl rfl (Or.inl ⟨rfl, rfl⟩) kw_aint (by decide) rfl rfl rfl rfl rfl rfl rfl rfl ?_
  refine AW_run 80 rfl ?_
  refine AW_newa0 5 6076 (sk_G.take 43) (n := 42) (z := 21) (tc := 0) rfl rfl (Or.inl ⟨rfl, rfl⟩) kw_aint (by decide) rfl rfl rfl rfl rfl rfl rfl rfl ?_
  refine AW_run 80 rfl ?_
  refine AW_newa0 4 6055 (sk_G.take 44) (n := 43) (z := 21) (tc := 0) rfl rfl (Or.inl ⟨rfl, rfl⟩) kw_aint (by decide) rfl rfl rfl rfl rfl rfl rfl rfl ?_
  refine AW_run 80 rfl ?_
  refine AW_newa0 3 6047 (sk_G.take 45) (n := 44) (z := 8) (tc := 0) rfl rfl (Or.inl ⟨rfl, rfl⟩) kw_aint (by decide) rfl rfl rfl rfl rfl rfl rfl rfl ?_
  refine AW_run 80 rfl ?_
  refine AW_new0 2 6042 (sk_G.take 46) (n := 45) (N := 5) rfl rfl rfl rfl rfl rfl rfl rfl rfl rfl ?_
  refine AW_run 80 rfl ?_
  refine AW_callI (M' := mX7_init) (d' := 98) (mc' := 2) (ms' := 6042) (mc := 0) (ms := 0) rfl kkX6_44 lcX7_init rfl rfl rfl rfl (by omega) rfl rfl ?_
  refine AW_run 80 rfl ?_
  refine AW_objI rfl kw_oX7 kw_oi kw_oc rfl (by omega) rfl ?_
  refine AW_run 80 rfl ?_
  refine AW_newa0 1 3021 (sk_G.take 47) (n := 46) (z := 3021) (tc := 0) rfl rfl (Or.inl ⟨rfl, rfl⟩) kw_aint (by decide) rfl rfl rfl rfl rfl rfl rfl rfl ?_
  refine AW_run 80 rfl ?_
  refine AW_newa0 0 0 (sk_G.take 48) (n := 47) (z := 3021) (tc := 0) rfl rfl (Or.inl ⟨rfl, rfl⟩) kw_aint (by decide) rfl rfl rfl rfl rfl rfl rfl rfl ?_
  refine AW_run 80 rfl ?_
  refine AW_vret rfl rfl ?_
  refine AW_run 80 rfl ?_
  refine AW_vret rfl rfl ?_
  refine AW_run 80 rfl ?_
  refine AW_new0 10 5624 (sk_G.take 49) (n := 48) (N := 16) rfl rfl rfl rfl rfl rfl rfl rfl rfl rfl ?_
  refine AW_run 80 rfl ?_
  refine AW_callI (M' := mX0_init) (d' := 99) (mc' := 10) (ms' := 5624) (mc := 0) (ms := 0) rfl kkX9_61 lcX0_init rfl rfl rfl rfl (by omega) rfl rfl ?_
  refine AW_run 80 rfl ?_
  refine AW_objI rfl kw_oX0 kw_oi kw_oc rfl (by omega) rfl ?_
  refine AW_run 80 rfl ?_
  refine AW_newa0 9 5324 (sk_G.take 50) (n := 49) (z := 300) (tc := 0) rfl rfl (Or.inl ⟨rfl, rfl⟩) kw_aint (by decide) rfl rfl rfl rfl rfl rfl rfl rfl ?_
  refine AW_run 80 rfl ?_
  refine AW_newa0 8 2924 (sk_G.take 51) (n := 50) (z := 2400) (tc := 2) rfl rfl (Or.inr (Or.inr ⟨rfl, rfl⟩)) kw_along (by decide) rfl rfl rfl rfl rfl rfl rfl rfl ?_
  refine AW_run 80 rfl ?_
  refine AW_newa0 7 2624 (sk_G.take 52) (n := 51) (z := 300) (tc := 0) rfl rfl (Or.inl ⟨rfl, rfl⟩) kw_aint (by decide) rfl rfl rfl rfl rfl rfl rfl rfl ?_
  refine AW_run 80 rfl ?_
  refine AW_newa0 6 2324 (sk_G.take 53) (n := 52) (z := 300) (tc := 1) rfl rfl (Or.inr (Or.inl ⟨rfl, rfl⟩)) kw_aboolean (by decide) rfl rfl rfl rfl rfl rfl rfl rfl ?_
  refine AW_run 80 rfl ?_
  refine AW_newa0 5 824 (sk_G.take 54) (n := 53) (z := 1500) (tc := 2) rfl rfl (Or.inr (Or.inr ⟨rfl, rfl⟩)) kw_along (by decide) rfl rfl rfl rfl rfl rfl rfl rfl ?_
  refine AW_run 80 rfl ?_
  refine AW_newa0 4 524 (sk_G.take 55) (n := 54) (z := 300) (tc := 0) rfl rfl (Or.inl ⟨rfl, rfl⟩) kw_aint (by decide) rfl rfl rfl rfl rfl rfl rfl rfl ?_
  refine AW_run 80 rfl ?_
  refine AW_newa0 3 504 (sk_G.take 56) (n := 55) (z := 20) (tc := 0) rfl rfl (Or.inl ⟨rfl, rfl⟩) kw_aint (by decide) rfl rfl rfl rfl rfl rfl rfl rfl ?_
  refine AW_run 80 rfl ?_
  refine AW_newa0 2 400 (sk_G.take 57) (n := 56) (z := 104) (tc := 2) rfl rfl (Or.inr (Or.inr ⟨rfl, rfl⟩)) kw_along (by decide) rfl rfl rfl rfl rfl rfl rfl rfl ?_
  refine AW_run 80 rfl ?_
  refine AW_newa0 1 200 (sk_G.take 58) (n := 57) (z := 200) (tc := 0) rfl rfl (Or.inl ⟨rfl, rfl⟩) kw_aint (by decide) rfl rfl rfl rfl rfl rfl rfl rfl ?_
  refine AW_run 80 rfl ?_
  refine AW_newa0 0 0 (sk_G.take 59) (n := 58) (z := 200) (tc := 0) rfl rfl (Or.inl ⟨rfl, rfl⟩) kw_aint (by decide) rfl rfl rfl rfl rfl rfl rfl rfl ?_
  refine AW_run 80 rfl ?_
  refine AW_vret rfl rfl ?_
  refine AW_run 80 rfl ?_
  refine AW_vret rfl rfl ?_
  exact hq _ (by decide +kernel)
def sr_I : sk_SI := sk_fil 61 64 (-1) sr_I8
theorem sr_words {f : Int → Option Nat} (hf : f = sk_upR (sk_upR (sk_upR (sk_upR (sk_upR (sk_upR (sk_upR (sk_upR (sk_upR (sk_upR (sk_upR (sk_upR (sk_upR (sk_upR (sk_upR (sk_upR (fun _ => none) 0 (some 1001)) 1 (some 1002)) 2 (some 1003)) 3 (some 1004)) 4 (some 1005)) 5 (some 1006)) 6 (some 1007)) 7 (some 1008)) 8 (some 1009)) 9 (some 1010)) 10 (some 1011)) 11 (some 1012)) 12 (some 1013)) 13 (some 1014)) 14 (some 1015)) 15 (some 1016)) (j : Nat) : f j = sk_J 9 19 19 9 9 9 75 j := by
  have small : ∀ j, j < 16 → sk_upR (sk_upR (sk_upR (sk_upR (sk_upR (sk_upR (sk_upR (sk_upR (sk_upR (sk_upR (sk_upR (sk_upR (sk_upR (sk_upR (sk_upR (sk_upR (fun _ => none) 0 (some 1001)) 1 (some 1002)) 2 (some 1003)) 3 (some 1004)) 4 (some 1005)) 5 (some 1006)) 6 (some 1007)) 7 (some 1008)) 8 (some 1009)) 9 (some 1010)) 10 (some 1011)) 11 (some 1012)) 12 (some 1013)) 13 (some 1014)) 14 (some 1015)) 15 (some 1016) ((j : Nat) : Int) = sk_J 9 19 19 9 9 9 75 j := by decide +kernel
  by_cases h : j < 16
  · rw [hf]; exact small j h
  · have e : sk_J 9 19 19 9 9 9 75 j = none := by
      show (bif decide (0 ≤ (j : Int) ∧ (j : Int) < 16) then some (1001 + (j : Int).toNat) else none) = none
      rw [decide_eq_false (by omega)]
      rfl
    rw [e, hf]
    unfold sk_upR
    rw [if_neg (by omega), if_neg (by omega), if_neg (by omega), if_neg (by omega), if_neg (by omega), if_neg (by omega), if_neg (by omega), if_neg (by omega), if_neg (by omega), if_neg (by omega), if_neg (by omega), if_neg (by omega), if_neg (by omega), if_neg (by omega), if_neg (by omega), if_neg (by omega)]
def sr_ck (k : Nat) : Option sk_Sh → Bool
  | some (Sum.inl ci) => decide ((sk_C ci).2.2 ≤ 72)
  | some (Sum.inr x) => decide (x.1 ≠ 3 ∨ k = 75)
  | none => false
theorem sr_hN : ∀ k sh, sk_G[k]? = some sh → (∃ ci, sh = .inl ci ∧ (sk_C ci).2.2 ≤ 72) ∨ (∃ x, sh = .inr x ∧ (x.1 ≠ 3 ∨ k = 75)) := by
  have : ∀ k, k < 100 → sr_ck k sk_G[k]? = true := by decide +kernel
  intro k sh h
  have hk : k < 100 := (List.getElem?_eq_some_iff.mp h).1
  have := this k hk
  rw [h] at this
  cases sh with
  | inl ci => exact Or.inl ⟨ci, rfl, of_decide_eq_true this⟩
  | inr x => exact Or.inr ⟨x, rfl, of_decide_eq_true this⟩
theorem sr_take {n k : Nat} {sh : sk_Sh} (h : (sk_G.take n)[k]? = some sh) : sk_G[k]? = some sh ∧ k < n := by
  rw [List.getElem?_take] at h
  by_cases hk : k < n
  · rw [if_pos hk] at h
    exact ⟨h, hk⟩
  · rw [if_neg hk] at h
    cases h
theorem c_M_rules (hq : Q none sk_G (sr_I, sr_ZL, sk_J 9 19 19 9 9 9)) : AW l E 100 0 0 mX10_init 445 [some (vr 59), some (vi 0)] [vi 64, vi 0] sk_G (sr_I8, sr_ZL, sk_J 9 19 19 9 9 9) Q := by
  have lp : ∀ (k : Nat) (i : Int), 0 ≤ i → i + k = 64 → AW l E 100 0 0 mX10_init 445 [some (vr 59), some (vi i)] [vi 64, vi i] sk_G (sk_fil 61 i (-1) sr_I8, sr_ZL, sk_J 9 19 19 9 9 9) Q := by
    intro k
    induction k with
    | zero =>
      intro i i0 hi
      have : i = 64 := by omega
      subst this
      refine AW_icge rfl (fun g => ?_) (fun g => by omega)
      exact AW_vret rfl rfl hq
    | succ k ih =>
      intro i i0 hi
      have ih2 := ih (i + 1) (by omega) (by omega)
      rw [← sk_fil_1 61 i (-1) sr_I8 i0] at ih2
      refine AW_icge rfl (fun g => by omega) (fun g => ?_) (by unfold sk_in; omega)
      refine AW_run 80 rfl ?_
      refine AW_iast rfl rfl ⟨by omega, by omega⟩ (by decide) ?_
      refine AW_run 80 rfl ?_
      exact ih2
  have lp := lp 64 0 (by omega) (by omega)
  rw [sk_fil_0] at lp
  exact lp
set_option maxRecDepth 100000 in
set_option maxHeartbeats 8000000 in
theorem c_M_init (hq : Q none sk_G (sr_I, sr_ZL, sk_J 9 19 19 9 9 9)) : AW l E 100 40 53370 mX10_init 0 [some (vr 59), none] [] (sk_G.take 60) (sr_I8, sr_ZL, sr_J1) Q := by
  refine AW_run 80 rfl ?_
  refine AW_objI rfl kw_oX10 kw_oi kw_oc rfl (by omega) rfl ?_
  refine AW_run 80 rfl ?_
  refine AW_newa0 39 52170 (sk_G.take 61) (n := 60) (z := 1200) (tc := 0) rfl rfl (Or.inl ⟨rfl, rfl⟩) kw_aint (by decide) rfl rfl rfl rfl rfl rfl rfl rfl ?_
  refine AW_run 80 rfl ?_
  refine AW_newa0 38 52106 (sk_G.take 62) (n := 61) (z := 64) (tc := 0) rfl rfl (Or.inl ⟨rfl, rfl⟩) kw_aint (by decide) rfl rfl rfl rfl rfl rfl rfl rfl ?_
  refine AW_run 80 rfl ?_
  refine AW_newa0 37 51706 (sk_G.take 63) (n := 62) (z := 400) (tc := 0) rfl rfl (Or.inl ⟨rfl, rfl⟩) kw_aint (by decide) rfl rfl rfl rfl rfl rfl rfl rfl ?_
  refine AW_run 80 rfl ?_
  refine AW_newa0 36 51704 (sk_G.take 64) (n := 63) (z := 2) (tc := 0) rfl rfl (Or.inl ⟨rfl, rfl⟩) kw_aint (by decide) rfl rfl rfl rfl rfl rfl rfl rfl ?_
  refine AW_run 80 rfl ?_
  refine AW_newa0 35 51664 (sk_G.take 65) (n := 64) (z := 40) (tc := 0) rfl rfl (Or.inl ⟨rfl, rfl⟩) kw_aint (by decide) rfl rfl rfl rfl rfl rfl rfl rfl ?_
  refine AW_run 80 rfl ?_
  refine AW_newa0 34 51624 (sk_G.take 66) (n := 65) (z := 40) (tc := 0) rfl rfl (Or.inl ⟨rfl, rfl⟩) kw_aint (by decide) rfl rfl rfl rfl rfl rfl rfl rfl ?_
  refine AW_run 80 rfl ?_
  refine AW_newa0 33 51622 (sk_G.take 67) (n := 66) (z := 2) (tc := 0) rfl rfl (Or.inl ⟨rfl, rfl⟩) kw_aint (by decide) rfl rfl rfl rfl rfl rfl rfl rfl ?_
  refine AW_run 80 rfl ?_
  refine AW_newa0 32 51222 (sk_G.take 68) (n := 67) (z := 400) (tc := 0) rfl rfl (Or.inl ⟨rfl, rfl⟩) kw_aint (by decide) rfl rfl rfl rfl rfl rfl rfl rfl ?_
  refine AW_run 80 rfl ?_
  refine AW_newa0 31 50822 (sk_G.take 69) (n := 68) (z := 400) (tc := 0) rfl rfl (Or.inl ⟨rfl, rfl⟩) kw_aint (by decide) rfl rfl rfl rfl rfl rfl rfl rfl ?_
  refine AW_run 80 rfl ?_
  refine AW_newa0 30 50422 (sk_G.take 70) (n := 69) (z := 400) (tc := 0) rfl rfl (Or.inl ⟨rfl, rfl⟩) kw_aint (by decide) rfl rfl rfl rfl rfl rfl rfl rfl ?_
  refine AW_run 80 rfl ?_
  refine AW_newa0 29 50022 (sk_G.take 71) (n := 70) (z := 400) (tc := 0) rfl rfl (Or.inl ⟨rfl, rfl⟩) kw_aint (by decide) rfl rfl rfl rfl rfl rfl rfl rfl ?_
  refine AW_run 80 rfl ?_
  refine AW_newa0 28 49622 (sk_G.take 72) (n := 71) (z := 400) (tc := 0) rfl rfl (Or.inl ⟨rfl, rfl⟩) kw_aint (by decide) rfl rfl rfl rfl rfl rfl rfl rfl ?_
  refine AW_run 80 rfl ?_
  refine AW_newa0 27 49222 (sk_G.take 73) (n := 72) (z := 400) (tc := 0) rfl rfl (Or.inl ⟨rfl, rfl⟩) kw_aint (by decide) rfl rfl rfl rfl rfl rfl rfl rfl ?_
  refine AW_run 80 rfl ?_
  refine AW_newa0 26 48822 (sk_G.take 74) (n := 73) (z := 400) (tc := 0) rfl rfl (Or.inl ⟨rfl, rfl⟩) kw_aint (by decide) rfl rfl rfl rfl rfl rfl rfl rfl ?_
  refine AW_run 80 rfl ?_
  refine AW_newa0 25 48820 (sk_G.take 75) (n := 74) (z := 2) (tc := 0) rfl rfl (Or.inl ⟨rfl, rfl⟩) kw_aint (by decide) rfl rfl rfl rfl rfl rfl rfl rfl ?_
  refine AW_run 80 rfl ?_
  refine AW_newq0 24 48804 (sk_G.take 76) (n := 75) (z := 16) rfl rfl kw_sX10_55 (by decide) rfl rfl rfl rfl rfl rfl rfl rfl ?_
  refine AW_run 80 rfl ?_
  refine AW_ldcS (x := 1) rfl rfl ⟨rfl, rfl⟩ ?_
  refine AW_aast (x := 1) rfl rfl ⟨by omega, by omega⟩ (by decide) (by decide) ?_
  refine AW_run 80 rfl ?_
  refine AW_ldcS (x := 2) rfl rfl ⟨rfl, rfl⟩ ?_
  refine AW_aast (x := 2) rfl rfl ⟨by omega, by omega⟩ (by decide) (by decide) ?_
  refine AW_run 80 rfl ?_
  refine AW_ldcS (x := 3) rfl rfl ⟨rfl, rfl⟩ ?_
  refine AW_aast (x := 3) rfl rfl ⟨by omega, by omega⟩ (by decide) (by decide) ?_
  refine AW_run 80 rfl ?_
  refine AW_ldcS (x := 4) rfl rfl ⟨rfl, rfl⟩ ?_
  refine AW_aast (x := 4) rfl rfl ⟨by omega, by omega⟩ (by decide) (by decide) ?_
  refine AW_run 80 rfl ?_
  refine AW_ldcS (x := 5) rfl rfl ⟨rfl, rfl⟩ ?_
  refine AW_aast (x := 5) rfl rfl ⟨by omega, by omega⟩ (by decide) (by decide) ?_
  refine AW_run 80 rfl ?_
  refine AW_ldcS (x := 6) rfl rfl ⟨rfl, rfl⟩ ?_
  refine AW_aast (x := 6) rfl rfl ⟨by omega, by omega⟩ (by decide) (by decide) ?_
  refine AW_run 80 rfl ?_
  refine AW_ldcS (x := 7) rfl rfl ⟨rfl, rfl⟩ ?_
  refine AW_aast (x := 7) rfl rfl ⟨by omega, by omega⟩ (by decide) (by decide) ?_
  refine AW_run 80 rfl ?_
  refine AW_ldcS (x := 8) rfl rfl ⟨rfl, rfl⟩ ?_
  refine AW_aast (x := 8) rfl rfl ⟨by omega, by omega⟩ (by decide) (by decide) ?_
  refine AW_run 80 rfl ?_
  refine AW_ldcS (x := 9) rfl rfl ⟨rfl, rfl⟩ ?_
  refine AW_aast (x := 9) rfl rfl ⟨by omega, by omega⟩ (by decide) (by decide) ?_
  refine AW_run 80 rfl ?_
  refine AW_ldcS (x := 10) rfl rfl ⟨rfl, rfl⟩ ?_
  refine AW_aast (x := 10) rfl rfl ⟨by omega, by omega⟩ (by decide) (by decide) ?_
  refine AW_run 80 rfl ?_
  refine AW_ldcS (x := 11) rfl rfl ⟨rfl, rfl⟩ ?_
  refine AW_aast (x := 11) rfl rfl ⟨by omega, by omega⟩ (by decide) (by decide) ?_
  refine AW_run 80 rfl ?_
  refine AW_ldcS (x := 12) rfl rfl ⟨rfl, rfl⟩ ?_
  refine AW_aast (x := 12) rfl rfl ⟨by omega, by omega⟩ (by decide) (by decide) ?_
  refine AW_run 80 rfl ?_
  refine AW_ldcS (x := 13) rfl rfl ⟨rfl, rfl⟩ ?_
  refine AW_aast (x := 13) rfl rfl ⟨by omega, by omega⟩ (by decide) (by decide) ?_
  refine AW_run 80 rfl ?_
  refine AW_ldcS (x := 14) rfl rfl ⟨rfl, rfl⟩ ?_
  refine AW_aast (x := 14) rfl rfl ⟨by omega, by omega⟩ (by decide) (by decide) ?_
  refine AW_run 80 rfl ?_
  refine AW_ldcS (x := 15) rfl rfl ⟨rfl, rfl⟩ ?_
  refine AW_aast (x := 15) rfl rfl ⟨by omega, by omega⟩ (by decide) (by decide) ?_
  refine AW_run 80 rfl ?_
  refine AW_ldcS (x := 16) rfl rfl ⟨rfl, rfl⟩ ?_
  refine AW_aast (x := 16) rfl rfl ⟨by omega, by omega⟩ (by decide) (by decide) ?_
  refine AW_run 80 rfl ?_
  refine AW_newa0 23 48604 (sk_G.take 77) (n := 76) (z := 200) (tc := 0) rfl rfl (Or.inl ⟨rfl, rfl⟩) kw_aint (by decide) rfl rfl rfl rfl rfl rfl rfl rfl ?_
  refine AW_run 80 rfl ?_
  refine AW_newa0 22 45504 (sk_G.take 78) (n := 77) (z := 3100) (tc := 0) rfl rfl (Or.inl ⟨rfl, rfl⟩) kw_aint (by decide) rfl rfl rfl rfl rfl rfl rfl rfl ?_
  refine AW_run 80 rfl ?_
  refine AW_newa0 21 42404 (sk_G.take 79) (n := 78) (z := 3100) (tc := 0) rfl rfl (Or.inl ⟨rfl, rfl⟩) kw_aint (by decide) rfl rfl rfl rfl rfl rfl rfl rfl ?_
  refine AW_run 80 rfl ?_
  refine AW_newa0 20 39304 (sk_G.take 80) (n := 79) (z := 3100) (tc := 0) rfl rfl (Or.inl ⟨rfl, rfl⟩) kw_aint (by decide) rfl rfl rfl rfl rfl rfl rfl rfl ?_
  refine AW_run 80 rfl ?_
  refine AW_newa0 19 36204 (sk_G.take 81) (n := 80) (z := 3100) (tc := 0) rfl rfl (Or.inl ⟨rfl, rfl⟩) kw_aint (by decide) rfl rfl rfl rfl rfl rfl rfl rfl ?_
  refine AW_run 80 rfl ?_
  refine AW_newa0 18 33104 (sk_G.take 82) (n := 81) (z := 3100) (tc := 0) rfl rfl (Or.inl ⟨rfl, rfl⟩) kw_aint (by decide) rfl rfl rfl rfl rfl rfl rfl rfl ?_
  refine AW_run 80 rfl ?_
  refine AW_newa0 17 33100 (sk_G.take 83) (n := 82) (z := 4) (tc := 0) rfl rfl (Or.inl ⟨rfl, rfl⟩) kw_aint (by decide) rfl rfl rfl rfl rfl rfl rfl rfl ?_
  refine AW_run 80 rfl ?_
  refine AW_newa0 16 32500 (sk_G.take 84) (n := 83) (z := 600) (tc := 0) rfl rfl (Or.inl ⟨rfl, rfl⟩) kw_aint (by decide) rfl rfl rfl rfl rfl rfl rfl rfl ?_
  refine AW_run 80 rfl ?_
  refine AW_newa0 15 31900 (sk_G.take 85) (n := 84) (z := 600) (tc := 0) rfl rfl (Or.inl ⟨rfl, rfl⟩) kw_aint (by decide) rfl rfl rfl rfl rfl rfl rfl rfl ?_
  refine AW_run 80 rfl ?_
  refine AW_newa0 14 31300 (sk_G.take 86) (n := 85) (z := 600) (tc := 0) rfl rfl (Or.inl ⟨rfl, rfl⟩) kw_aint (by decide) rfl rfl rfl rfl rfl rfl rfl rfl ?_
  refine AW_run 80 rfl ?_
  refine AW_newa0 13 30700 (sk_G.take 87) (n := 86) (z := 600) (tc := 0) rfl rfl (Or.inl ⟨rfl, rfl⟩) kw_aint (by decide) rfl rfl rfl rfl rfl rfl rfl rfl ?_
  refine AW_run 80 rfl ?_
  refine AW_newa0 12 30100 (sk_G.take 88) (n := 87) (z := 600) (tc := 0) rfl rfl (Or.inl ⟨rfl, rfl⟩) kw_aint (by decide) rfl rfl rfl rfl rfl rfl rfl rfl ?_
  refine AW_run 80 rfl ?_
  refine AW_newa0 11 30080 (sk_G.take 89) (n := 88) (z := 20) (tc := 0) rfl rfl (Or.inl ⟨rfl, rfl⟩) kw_aint (by decide) rfl rfl rfl rfl rfl rfl rfl rfl ?_
  refine AW_run 80 rfl ?_
  refine AW_newa0 10 30060 (sk_G.take 90) (n := 89) (z := 20) (tc := 0) rfl rfl (Or.inl ⟨rfl, rfl⟩) kw_aint (by decide) rfl rfl rfl rfl rfl rfl rfl rfl ?_
  refine AW_run 80 rfl ?_
  refine AW_newa0 9 26960 (sk_G.take 91) (n := 90) (z := 3100) (tc := 0) rfl rfl (Or.inl ⟨rfl, rfl⟩) kw_aint (by decide) rfl rfl rfl rfl rfl rfl rfl rfl ?_
  refine AW_run 80 rfl ?_
  refine AW_newa0 8 26660 (sk_G.take 92) (n := 91) (z := 300) (tc := 0) rfl rfl (Or.inl ⟨rfl, rfl⟩) kw_aint (by decide) rfl rfl rfl rfl rfl rfl rfl rfl ?_
  refine AW_run 80 rfl ?_
  refine AW_newa0 7 2660 (sk_G.take 93) (n := 92) (z := 24000) (tc := 0) rfl rfl (Or.inl ⟨rfl, rfl⟩) kw_aint (by decide) rfl rfl rfl rfl rfl rfl rfl rfl ?_
  refine AW_run 80 rfl ?_
  refine AW_newa0 6 2360 (sk_G.take 94) (n := 93) (z := 300) (tc := 1) rfl rfl (Or.inr (Or.inl ⟨rfl, rfl⟩)) kw_aboolean (by decide) rfl rfl rfl rfl rfl rfl rfl rfl ?_
  refine AW_run 80 rfl ?_
  refine AW_newa0 5 2060 (sk_G.take 95) (n := 94) (z := 300) (tc := 1) rfl rfl (Or.inr (Or.inl ⟨rfl, rfl⟩)) kw_aboolean (by decide) rfl rfl rfl rfl rfl rfl rfl rfl ?_
  refine AW_run 80 rfl ?_
  refine AW_newa0 4 1760 (sk_G.take 96) (n := 95) (z := 300) (tc := 1) rfl rfl (Or.inr (Or.inl ⟨rfl, rfl⟩)) kw_aboolean (by decide) rfl rfl rfl rfl rfl rfl rfl rfl ?_
  refine AW_run 80 rfl ?_
  refine AW_newa0 3 480 (sk_G.take 97) (n := 96) (z := 1280) (tc := 0) rfl rfl (Or.inl ⟨rfl, rfl⟩) kw_aint (by decide) rfl rfl rfl rfl rfl rfl rfl rfl ?_
  refine AW_run 80 rfl ?_
  refine AW_newa0 2 400 (sk_G.take 98) (n := 97) (z := 80) (tc := 0) rfl rfl (Or.inl ⟨rfl, rfl⟩) kw_aint (by decide) rfl rfl rfl rfl rfl rfl rfl rfl ?_
  refine AW_run 80 rfl ?_
  refine AW_newa0 1 200 (sk_G.take 99) (n := 98) (z := 200) (tc := 1) rfl rfl (Or.inr (Or.inl ⟨rfl, rfl⟩)) kw_aboolean (by decide) rfl rfl rfl rfl rfl rfl rfl rfl ?_
  refine AW_run 80 rfl ?_
  refine AW_newa0 0 0 (sk_G.take 100) (n := 99) (z := 200) (tc := 1) rfl rfl (Or.inr (Or.inl ⟨rfl, rfl⟩)) kw_aboolean (by decide) rfl rfl rfl rfl rfl rfl rfl rfl ?_
  refine AW_run 80 rfl ?_
  refine AW_cong (sr_w_eq (J := sk_J 9 19 19 9 9 9) (n := 100) (fun k sh hk => (sr_hN k sh (sr_take hk).1).imp id (fun ⟨x, a, b⟩ => ⟨x, a, b.imp id (fun e => by subst e; exact sr_words rfl)⟩)) (by decide +kernel)) ?_
  rw [show sk_G.take 100 = sk_G from rfl]
  exact c_M_rules hq
theorem sr_R0 : sr_R 9 19 sr_I sr_ZL := by
  have zf : ∀ c, c ≠ 8 → c ≠ 61 → sr_I c = fun _ => 0 := fun c h1 h2 => by
    unfold sr_I sr_I8
    rw [sk_fil_o h2, sk_fil_o h1]
    rfl
  have z : ∀ c j, c ≠ 8 → c ≠ 61 → sr_I c j = 0 := fun c j h1 h2 => by rw [zf c h1 h2]
  have z8 : ∀ j, sr_I 8 j = if 0 ≤ j ∧ j < 64 then -1 else 0 := fun j => by
    unfold sr_I sr_I8
    rw [sk_fil_o (by decide), sk_fil_s]
    rfl
  have z61 : ∀ j, sr_I 61 j = if 0 ≤ j ∧ j < 64 then -1 else 0 := fun j => by
    unfold sr_I sr_I8
    rw [sk_fil_s, sk_fil_o (by decide)]
    rfl
  have i1 := z 1 1 (by decide) (by decide)
  have i3 := z 3 1 (by decide) (by decide)
  have i5 := z 5 1 (by decide) (by decide)
  have i34 := z 34 8 (by decide) (by decide)
  have i48 := z 48 15 (by decide) (by decide)
  have m : ∀ j, sr_I 59 j = 0 := fun j => z 59 j (by decide) (by decide)
  refine ⟨Or.inl ⟨rfl, rfl⟩, ⟨m 0, by rw [m 25]; exact sk_in0, by rw [m 6]; exact z 29 5 (by decide) (by decide)⟩, ⟨by rw [zf 2 (by decide) (by decide), zf 60 (by decide) (by decide)], by rw [m 2]; exact i1, ⟨by omega, by omega, fun i a b => by omega⟩⟩, ⟨?_, ?_⟩, ⟨by rw [zf 62 (by decide) (by decide), zf 4 (by decide) (by decide)], by rw [m 5]; exact i3.symm, by omega, fun i a b => by omega⟩, Or.inl ⟨m 7, z 9 9 (by decide) (by decide), z 9 10 (by decide) (by decide), z 63 0 (by decide) (by decide), z 66 0 (by decide) (by decide)⟩, ⟨by rw [m 50]; exact i34, Or.inl i34, fun y => by omega⟩, ⟨by rw [m 58]; exact i5.symm, by omega, fun i a b => by omega⟩, ⟨by rw [m 59]; exact i48, Or.inl i48, fun y => by omega⟩⟩
  · funext j
    rw [z8, z61]
  · intro i a b
    rw [z8, if_pos ⟨a, b⟩]
    omega
/-- THE LAW, from its first instruction to its end -/
theorem sr_law (hL : (E.2.2.2.2.2.1 : Int) ≤ 3072) (hq : ∀ I L J, Q (some (vi 1)) sk_G (I, L, J)) : AW l E 101 100 77799 mL_law 0 [some (vr 1030), none, none, none] [] [] (sr_Z, sr_ZL, sr_N) Q := by
  have lp := sr_loop (l := l) (E := E) (Q := Q) (by omega) hq E.2.2.2.2.2.1 0 (by omega) (by omega) (by omega) hL 9 19 19 9 9 9 sr_I sr_ZL sr_R0
  refine AW_new0 99 (77799 - 9) (sk_G.take 1) (n := 0) (N := 9) rfl rfl rfl rfl rfl rfl rfl rfl rfl rfl ?_
  refine AW_run 80 rfl ?_
  refine AW_callI (M' := mX9_init) (d' := 100) (mc' := 58) (ms' := 24348) (mc := 41) (ms := 53370 + 72) rfl kkL_9 lcX9_init rfl rfl rfl rfl (by omega) rfl rfl ?_
  refine c_K_init (fun J' hJ => ?_)
  refine AW_cong (sr_w_eq (J := sr_J1) (n := 59) (fun k sh hk => (sr_hN k sh (sr_take hk).1).imp id (fun ⟨x, a, b⟩ => ⟨x, a, Or.inl (b.resolve_right (fun e => by have := (sr_take hk).2; omega))⟩)) hJ) ?_
  refine AW_run 80 rfl ?_
  refine AW_new0 40 53370 (sk_G.take 60) (n := 59) (N := 72) rfl rfl rfl rfl rfl rfl rfl rfl rfl rfl ?_
  refine AW_run 80 rfl ?_
  refine AW_callI (M' := mX10_init) (d' := 100) (mc' := 40) (ms' := 53370) (mc := 0) (ms := 0) rfl kkL_12 lcX10_init rfl rfl rfl rfl (by omega) rfl rfl ?_
  refine c_M_init ?_
  refine AW_run 80 rfl ?_
  refine AW_slen rfl ?_
  refine AW_run 80 rfl ?_
  exact lp
end SKM2
