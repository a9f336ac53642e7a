/-! ===== short forms of the rules ===== -/
section SKB
variable {l : Launch} {E : sk_En} {d mc ms : Nat} {M : sk_M} {pc pc0 len nxt idx : Nat} {aux : List Nat} {ls : List (Option sk_V)} {st : List sk_V} {G : List sk_Sh} {σ : sk_St} {Q : Option sk_V → List sk_Sh → sk_St → Prop} {off : Int} {t : Nat}
theorem AW_e1 (h : sk_find pc M.2.2.2.2 = some (pc0, (.ifCond .eq off), len, nxt, [t])) (k : AW l E d mc ms M nxt ls st G σ Q) : AW l E d mc ms M pc ls (vi 1 :: st) G σ Q := AW_ifeq h (fun z => by omega) (fun _ => k)
theorem AW_e0 (h : sk_find pc M.2.2.2.2 = some (pc0, (.ifCond .eq off), len, nxt, [t])) (k : AW l E d mc ms M t ls st G σ Q) : AW l E d mc ms M pc ls (vi 0 :: st) G σ Q := AW_ifeq h (fun _ => k) (fun z => by omega)
theorem AW_n1 (h : sk_find pc M.2.2.2.2 = some (pc0, (.ifCond .ne off), len, nxt, [t])) (k : AW l E d mc ms M t ls st G σ Q) : AW l E d mc ms M pc ls (vi 1 :: st) G σ Q := AW_ifne h (fun _ => k) (fun z => by omega)
theorem AW_n0 (h : sk_find pc M.2.2.2.2 = some (pc0, (.ifCond .ne off), len, nxt, [t])) (k : AW l E d mc ms M nxt ls st G σ Q) : AW l E d mc ms M pc ls (vi 0 :: st) G σ Q := AW_ifne h (fun z => by omega) (fun _ => k)
theorem sk_up_s {f : Int → Int} {j v : Int} : sk_up f j v j = v := by simp [sk_up]
theorem sk_up_o {f : Int → Int} {j v i : Int} (h : i ≠ j) : sk_up f j v i = f i := by simp [sk_up, h]
theorem AW_cV {M' : sk_M} {n d' k ci : Nat} {as rest : List sk_V} (h : sk_find pc M.2.2.2.2 = some (pc0, (.invokevirtual idx), len, nxt, aux)) (hL : sk_lV M.1.cls idx M') (hC : sk_lC n M') (hp : sk_pop (n + 1) st [] = some (vr k :: as, rest)) (hG : G[k]? = some (.inl ci)) (hci : (sk_C ci).1 = M'.1.cls) (hci2 : Nat.blt ci 11 = true) (hW : Nat.ble (sk_cs rest) 8 = true) (hen : Nat.ble (sk_sl (vr k :: as)).length M'.2.2.1 = true) (hd : d' + 1 ≤ d)
    (kk : AW l E d' 0 0 M' 0 (sk_en M'.2.2.1 (vr k :: as)) [] G σ (fun v G' σ' => AW l E d mc ms M nxt ls (v.toList ++ rest) G' σ' Q)) : AW l E d mc ms M pc ls st G σ Q := AW_callV h hL hC hp hG hci hci2 hW hen hd (Nat.zero_add mc).symm (Nat.zero_add ms).symm kk
theorem AW_cS {M' : sk_M} {n d' : Nat} {as rest : List sk_V} (h : sk_find pc M.2.2.2.2 = some (pc0, (.invokestatic idx), len, nxt, aux)) (hL : sk_lS M.1.cls idx M') (hC : sk_lC n M') (hp : sk_pop n st [] = some (as, rest)) (hW : Nat.ble (sk_cs rest) 8 = true) (hen : Nat.ble (sk_sl as).length M'.2.2.1 = true) (hd : d' + 1 ≤ d)
    (kk : AW l E d' 0 0 M' 0 (sk_en M'.2.2.1 as) [] G σ (fun v G' σ' => AW l E d mc ms M nxt ls (v.toList ++ rest) G' σ' Q)) : AW l E d mc ms M pc ls st G σ Q := AW_callS h hL hC hp hW hen hd (Nat.zero_add mc).symm (Nat.zero_add ms).symm kk
theorem c_within (a b : Int) (ha : sk_in a) (hb : sk_in b) (hT : 0 ≤ a → a < b → Q (some (vi 1)) G σ) (hF : ¬ (0 ≤ a ∧ a < b) → Q (some (vi 0)) G σ) : AW l E d 0 0 mX9_within 0 [some (vi a), some (vi b)] [] G σ Q := by
  refine AW_run 80 rfl ?_
  refine AW_iflt rfl (fun h => ?_) (fun h => ?_)
  · refine AW_run 80 rfl ?_
    exact AW_zret rfl rfl (Or.inl rfl) (hF (by omega))
  · refine AW_run 80 rfl ?_
    refine AW_icge rfl (fun h2 => ?_) (fun h2 => ?_)
    · refine AW_run 80 rfl ?_
      exact AW_zret rfl rfl (Or.inl rfl) (hF (by omega))
    · refine AW_run 80 rfl ?_
      exact AW_zret rfl rfl (Or.inr rfl) (hT (by omega) (by omega))
theorem AW_within {a b : Int} (h : sk_find pc M.2.2.2.2 = some (pc0, (.invokestatic idx), len, nxt, aux)) (hL : sk_lSN M.1.cls idx mX9_within) (hW : Nat.ble (sk_cs st) 8 = true) (hd : 1 ≤ d) (kT : 0 ≤ a → a < b → AW l E d mc ms M nxt ls (vi 1 :: st) G σ Q) (kF : ¬ (0 ≤ a ∧ a < b) → AW l E d mc ms M nxt ls (vi 0 :: st) G σ Q) (ha : sk_in a := by (first | assumption | (unfold sk_in; omega))) (hb : sk_in b := by (first | assumption | (unfold sk_in; omega))) : AW l E d mc ms M pc ls (vi b :: vi a :: st) G σ Q :=
  AW_callSN (d' := 0) h hL lcX9_within rfl hW rfl hd (Nat.zero_add mc).symm (Nat.zero_add ms).symm (c_within a b ha hb kT kF)
theorem AW_withinS {a b : Int} (h : sk_find pc M.2.2.2.2 = some (pc0, (.invokestatic idx), len, nxt, aux)) (hL : sk_lS M.1.cls idx mX9_within) (hW : Nat.ble (sk_cs st) 8 = true) (hd : 1 ≤ d) (kT : 0 ≤ a → a < b → AW l E d mc ms M nxt ls (vi 1 :: st) G σ Q) (kF : ¬ (0 ≤ a ∧ a < b) → AW l E d mc ms M nxt ls (vi 0 :: st) G σ Q) (ha : sk_in a := by (first | assumption | (unfold sk_in; omega))) (hb : sk_in b := by (first | assumption | (unfold sk_in; omega))) : AW l E d mc ms M pc ls (vi b :: vi a :: st) G σ Q :=
  AW_callS (d' := 0) h hL lcX9_within rfl hW rfl hd (Nat.zero_add mc).symm (Nat.zero_add ms).symm (c_within a b ha hb kT kF)
end SKB
/-! ===== Row ===== -/
section SKC1
variable {l : Launch} {E : sk_En} {d : Nat} {I : sk_SI} {L : sk_SL} {cu sp io rp tp fp : Nat} {Q : Option sk_V → List sk_Sh → sk_St → Prop}
/-- the rows of SealKeeper: tape, input, notes, with what they hold at most -/
def sk_row (r n : Nat) : Prop := (r = 1 ∧ n = 1200) ∨ (r = 3 ∧ n = 400) ∨ (r = 5 ∧ n = 3000)
theorem c_Row_add (r n : Nat) (hr : sk_row r n) (c : Int) (h0 : 0 ≤ I r 1) (h1 : I r 1 < n) (hq : Q none sk_G (sk_uI (sk_uI I (r + 1) (I r 1) c) r 1 (I r 1 + 1), L, sk_J cu sp io rp tp fp)) : AW l E (d + 1) 0 0 mX4_add 0 [some (vr r), some (vi c)] [] sk_G (I, L, sk_J cu sp io rp tp fp) Q := by
  rcases hr with ⟨rfl, rfl⟩ | ⟨rfl, rfl⟩ | ⟨rfl, rfl⟩ <;>
  · refine AW_run 80 rfl ?_
    refine AW_within rfl kkX4_25 rfl (by omega) (fun w1 w2 => ?_) (fun w3 => ?_)
    · refine AW_run 80 rfl ?_
      first | refine AW_e1 rfl ?_ | refine AW_e0 rfl ?_ | refine AW_n1 rfl ?_ | refine AW_n0 rfl ?_
      refine AW_run 80 rfl ?_
      refine AW_iast rfl rfl ⟨by omega, by omega⟩ (by decide) ?_
      refine AW_run 80 rfl ?_
      refine AW_vret rfl rfl ?_
      (try simp only [sk_uI_s, sk_uI_o, sk_up_s, sk_up_o, sk_uL_s, sk_uL_o, ne_eq, Nat.reduceEqDiff, Nat.reduceAdd, Int.reduceEq, not_false_eq_true])
      exact hq
    · omega
theorem c_Row_room (r n : Nat) (hr : sk_row r n) (m : Int) (hm : sk_in m) (h0 : 0 ≤ I r 1) (h1 : I r 1 ≤ n) (hT : m ≤ n - I r 1 → Q (some (vi 1)) sk_G (I, L, sk_J cu sp io rp tp fp)) (hF : n - I r 1 < m → Q (some (vi 0)) sk_G (I, L, sk_J cu sp io rp tp fp)) : AW l E d 0 0 mX4_hasRoomFor 0 [some (vr r), some (vi m)] [] sk_G (I, L, sk_J cu sp io rp tp fp) Q := by
  rcases hr with ⟨rfl, rfl⟩ | ⟨rfl, rfl⟩ | ⟨rfl, rfl⟩ <;>
  · refine AW_run 80 rfl ?_
    refine AW_icgt rfl (fun h => ?_) (fun h => ?_)
    · refine AW_run 80 rfl ?_
      exact AW_zret rfl rfl (Or.inl rfl) (hF (by omega))
    · refine AW_run 80 rfl ?_
      exact AW_zret rfl rfl (Or.inr rfl) (hT (by omega))
theorem c_Row_at (r n : Nat) (hr : sk_row r n) (i : Int) (hi : sk_in i) (h1 : I r 1 ≤ n) (h2 : 0 ≤ I r 1) (hT : 0 ≤ i → i < I r 1 → Q (some (vi (I (r + 1) i))) sk_G (I, L, sk_J cu sp io rp tp fp)) (hF : ¬ (0 ≤ i ∧ i < I r 1) → Q (some (vi (-1))) sk_G (I, L, sk_J cu sp io rp tp fp)) : AW l E d 0 0 mX4_at 0 [some (vr r), some (vi i)] [] sk_G (I, L, sk_J cu sp io rp tp fp) Q := by
  rcases hr with ⟨rfl, rfl⟩ | ⟨rfl, rfl⟩ | ⟨rfl, rfl⟩ <;>
  · refine AW_run 80 rfl ?_
    refine AW_iflt rfl (fun h => ?_) (fun h => ?_)
    · refine AW_run 80 rfl ?_
      exact AW_iret rfl rfl (hF (by omega))
    · refine AW_run 80 rfl ?_
      refine AW_icge rfl (fun h3 => ?_) (fun h3 => ?_)
      · refine AW_run 80 rfl ?_
        exact AW_iret rfl rfl (hF (by omega))
      · refine AW_run 80 rfl ?_
        refine AW_iald rfl rfl ⟨by omega, by omega⟩ (by decide) ?_
        refine AW_run 80 rfl ?_
        exact AW_iret rfl rfl (hT (by omega) (by omega))
theorem c_Row_cut (r n : Nat) (hr : sk_row r n) (i : Int) (hi : sk_in i) (h1 : I r 1 ≤ n) (h2 : 0 ≤ I r 1) (hq : Q none sk_G (sk_uI I r 1 (max 0 (min i (I r 1))), L, sk_J cu sp io rp tp fp)) : AW l E (d + 1) 0 0 mX4_cutTo 0 [some (vr r), some (vi i)] [] sk_G (I, L, sk_J cu sp io rp tp fp) Q := by
  rcases hr with ⟨rfl, rfl⟩ | ⟨rfl, rfl⟩ | ⟨rfl, rfl⟩ <;>
  · refine AW_run 80 rfl ?_
    refine AW_min rfl kw_pX4_29 (by omega) rfl hi (by unfold sk_in; omega) ?_
    refine AW_max rfl kw_pX4_9 (by omega) rfl sk_in0 (by unfold sk_in at *; omega) ?_
    refine AW_run 80 rfl ?_
    exact AW_vret rfl rfl hq
end SKC1
/-! ===== loops ===== -/
def sk_sum (f : Int → Int) : Nat → Int
  | 0 => 0
  | n + 1 => sk_sum f n + f n
theorem sk_sum_s (f : Int → Int) {i : Int} (h : 0 ≤ i) : sk_sum f (i + 1).toNat = sk_sum f i.toNat + f i := by
  obtain ⟨n, rfl⟩ := Int.eq_ofNat_of_zero_le h
  rw [show ((n : Int) + 1).toNat = n + 1 by omega, Int.toNat_natCast]
  rfl
theorem sk_sum_b (f : Int → Int) (h : ∀ i, 0 ≤ f i ∧ f i ≤ 1) : ∀ n : Nat, 0 ≤ sk_sum f n ∧ sk_sum f n ≤ n
  | 0 => ⟨Int.le_refl _, Int.le_refl _⟩
  | n + 1 => by
    have h1 := sk_sum_b f h n
    have h2 := h n
    show 0 ≤ sk_sum f n + f n ∧ sk_sum f n + f n ≤ ((n + 1 : Nat) : Int)
    omega
def sk_sb : List (Option sk_V) → List (Option sk_V) → Prop
  | [], _ => True
  | none :: r, _ :: q => sk_sb r q
  | some v :: r, some w :: q => v = w ∧ sk_sb r q
  | _, _ => False
theorem sk_sb_get : ∀ (a b : List (Option sk_V)), sk_sb a b → ∀ (k : Nat) (v : sk_V), a[k]? = some (some v) → b[k]? = some (some v)
  | [], _, _, k, v, h => by simp at h
  | none :: r, [], h0, _, _, _ => False.elim h0
  | none :: r, _ :: q, h0, 0, v, h => by simp at h
  | none :: r, _ :: q, h0, k + 1, v, h => by simpa using sk_sb_get r q h0 k v (by simpa using h)
  | some w :: r, [], h0, _, _, _ => False.elim h0
  | some w :: r, none :: q, h0, _, _, _ => False.elim h0
  | some w :: r, some x :: q, h0, 0, v, h => by simp at h ⊢; rw [← h0.1]; exact h
  | some w :: r, some x :: q, h0, k + 1, v, h => by simpa using sk_sb_get r q h0.2 k v (by simpa using h)
theorem AW_ls {l : Launch} {E : sk_En} {d mc ms : Nat} {M : sk_M} {pc : Nat} {ls ls' : List (Option sk_V)} {st : List sk_V} {G : List sk_Sh} {σ : sk_St} {Q : Option sk_V → List sk_Sh → sk_St → Prop} (hs : sk_sb ls' ls) (k : AW l E d mc ms M pc ls' st G σ Q) : AW l E d mc ms M pc ls st G σ Q := AW_less (sk_sb_get _ _ hs) k
