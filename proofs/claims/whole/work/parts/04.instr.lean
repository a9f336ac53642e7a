/-! ===== a rule an instruction ===== -/
def sk_and (a b : Int) : Int := (Int32.ofInt a &&& Int32.ofInt b).toInt
def sk_or (a b : Int) : Int := (Int32.ofInt a ||| Int32.ofInt b).toInt
def sk_shr (a b : Int) : Int := (Int32.ofInt a >>> (Int32.ofInt b &&& 31)).toInt
def sk_ushr (a b : Int) : Int := ((Int32.ofInt a).toUInt32 >>> ((Int32.ofInt b).toUInt32 &&& Int32.toUInt32 31)).toInt32.toInt
def sk_lshl (a : Int64) (b : Int) : Int64 := a <<< ((Int32.ofInt b).toInt64 &&& 63)
def sk_lushr (a : Int64) (b : Int) : Int64 := (a.toUInt64 >>> ((Int32.ofInt b).toInt64.toUInt64 &&& Int64.toUInt64 63)).toInt64
def sk_i2l (a : Int) : Int64 := (Int32.ofInt a).toInt64
theorem sk_oi (x : Int32) : Int32.ofInt x.toInt = x := Int32.ofInt_toInt x
theorem sk_and_of (a b : Int) : Int32.ofInt (sk_and a b) = Int32.ofInt a &&& Int32.ofInt b := sk_oi _
theorem sk_or_of (a b : Int) : Int32.ofInt (sk_or a b) = Int32.ofInt a ||| Int32.ofInt b := sk_oi _
theorem sk_shr_of (a b : Int) : Int32.ofInt (sk_shr a b) = Int32.ofInt a >>> (Int32.ofInt b &&& 31) := sk_oi _
theorem sk_ushr_of (a b : Int) : Int32.ofInt (sk_ushr a b) = ((Int32.ofInt a).toUInt32 >>> ((Int32.ofInt b).toUInt32 &&& Int32.toUInt32 31)).toInt32 := sk_oi _
theorem sk_in0 : sk_in 0 := by unfold sk_in; omega
def sk_is1 : sk_V → Bool
  | .inr (.inl _) => false
  | _ => true
theorem sk_cat1 (E : sk_En) (v : sk_V) (h : sk_is1 v = true) : (sk_v E v).category = 1 := by
  match v with
  | .inl i => rfl
  | .inr (.inl x) => cases h
  | .inr (.inr none) => rfl
  | .inr (.inr (some k)) => rfl
section SKR
variable {l : Launch} {E : sk_En} {d mc ms : Nat} {M : sk_M} {pc pc0 len nxt : Nat} {aux : List Nat} {ls : List (Option sk_V)} {st : List sk_V} {G : List sk_Sh} {σ : sk_St} {Q : Option sk_V → List sk_Sh → sk_St → Prop}
theorem AW_iconst {n : Int} (h : sk_find pc M.2.2.2.2 = some (pc0, (.iconst n), len, nxt, aux)) (k : AW l E d mc ms M nxt ls (vi n :: st) G σ Q) : AW l E d mc ms M pc ls (st) G σ Q := by
  intro hM p e R s m args below meth c H locs cells slots Qf ar hF hR hl hc hs hfin
  obtain ⟨hd, rfl, hA, hlen⟩ := sk_dec hM h
  obtain rfl : 1 = len := hlen.resolve_left (by simp [sk_il])
  have k1 := k hM p e R s m args below meth c H locs cells slots Qf ar hF hR hl hc hs hfin
  exact lv_iconst hF.1 hF.2.1 hd rfl k1
theorem AW_bipush {n : Int} (h : sk_find pc M.2.2.2.2 = some (pc0, (.bipush n), len, nxt, aux)) (k : AW l E d mc ms M nxt ls (vi n :: st) G σ Q) : AW l E d mc ms M pc ls (st) G σ Q := by
  intro hM p e R s m args below meth c H locs cells slots Qf ar hF hR hl hc hs hfin
  obtain ⟨hd, rfl, hA, hlen⟩ := sk_dec hM h
  obtain rfl : 2 = len := hlen.resolve_left (by simp [sk_il])
  have k1 := k hM p e R s m args below meth c H locs cells slots Qf ar hF hR hl hc hs hfin
  exact lv_bipush hF.1 hF.2.1 hd (of_decide_eq_true hA) k1
theorem AW_sipush {n : Int} (h : sk_find pc M.2.2.2.2 = some (pc0, (.sipush n), len, nxt, aux)) (k : AW l E d mc ms M nxt ls (vi n :: st) G σ Q) : AW l E d mc ms M pc ls (st) G σ Q := by
  intro hM p e R s m args below meth c H locs cells slots Qf ar hF hR hl hc hs hfin
  obtain ⟨hd, rfl, hA, hlen⟩ := sk_dec hM h
  obtain rfl : 3 = len := hlen.resolve_left (by simp [sk_il])
  have k1 := k hM p e R s m args below meth c H locs cells slots Qf ar hF hR hl hc hs hfin
  exact lv_sipush hF.1 hF.2.1 hd (of_decide_eq_true hA) k1
theorem AW_lconst {n : Fin 2} (h : sk_find pc M.2.2.2.2 = some (pc0, (.lconst n), len, nxt, aux)) (k : AW l E d mc ms M nxt ls (vl (Int64.ofNat (n : Nat)) :: st) G σ Q) : AW l E d mc ms M pc ls (st) G σ Q := by
  intro hM p e R s m args below meth c H locs cells slots Qf ar hF hR hl hc hs hfin
  obtain ⟨hd, rfl, hA, hlen⟩ := sk_dec hM h
  obtain rfl : 1 = len := hlen.resolve_left (by simp [sk_il])
  have k1 := k hM p e R s m args below meth c H locs cells slots Qf ar hF hR hl hc hs hfin
  exact lv_lconst hF.1 hF.2.1 hd rfl k1
theorem AW_iload_n {n : Fin 4} {a : Int} (h : sk_find pc M.2.2.2.2 = some (pc0, (.iload_n n), len, nxt, aux)) (hk : ls[(n : Nat)]? = some (some (vi a))) (k : AW l E d mc ms M nxt ls (vi a :: st) G σ Q) : AW l E d mc ms M pc ls (st) G σ Q := by
  intro hM p e R s m args below meth c H locs cells slots Qf ar hF hR hl hc hs hfin
  obtain ⟨hd, rfl, hA, hlen⟩ := sk_dec hM h
  obtain rfl : 1 = len := hlen.resolve_left (by simp [sk_il])
  have k1 := k hM p e R s m args below meth c H locs cells slots Qf ar hF hR hl hc hs hfin
  exact lv_iload_n hF.1 hF.2.1 hd rfl (sk_lget hl hk) k1
theorem AW_iload {n : Nat} {a : Int} (h : sk_find pc M.2.2.2.2 = some (pc0, (.iload n), len, nxt, aux)) (hk : ls[n]? = some (some (vi a))) (k : AW l E d mc ms M nxt ls (vi a :: st) G σ Q) : AW l E d mc ms M pc ls (st) G σ Q := by
  intro hM p e R s m args below meth c H locs cells slots Qf ar hF hR hl hc hs hfin
  obtain ⟨hd, rfl, hA, hlen⟩ := sk_dec hM h
  obtain rfl : 2 = len := hlen.resolve_left (by simp [sk_il])
  have k1 := k hM p e R s m args below meth c H locs cells slots Qf ar hF hR hl hc hs hfin
  exact lv_iload hF.1 hF.2.1 hd (sk_lget hl hk) k1
theorem AW_lload_n {n : Fin 4} {a : Int64} (h : sk_find pc M.2.2.2.2 = some (pc0, (.lload_n n), len, nxt, aux)) (hk : ls[(n : Nat)]? = some (some (vl a))) (k : AW l E d mc ms M nxt ls (vl a :: st) G σ Q) : AW l E d mc ms M pc ls (st) G σ Q := by
  intro hM p e R s m args below meth c H locs cells slots Qf ar hF hR hl hc hs hfin
  obtain ⟨hd, rfl, hA, hlen⟩ := sk_dec hM h
  obtain rfl : 1 = len := hlen.resolve_left (by simp [sk_il])
  have k1 := k hM p e R s m args below meth c H locs cells slots Qf ar hF hR hl hc hs hfin
  exact lv_lload_n hF.1 hF.2.1 hd rfl (sk_lget hl hk) k1
theorem AW_lload {n : Nat} {a : Int64} (h : sk_find pc M.2.2.2.2 = some (pc0, (.lload n), len, nxt, aux)) (hk : ls[n]? = some (some (vl a))) (k : AW l E d mc ms M nxt ls (vl a :: st) G σ Q) : AW l E d mc ms M pc ls (st) G σ Q := by
  intro hM p e R s m args below meth c H locs cells slots Qf ar hF hR hl hc hs hfin
  obtain ⟨hd, rfl, hA, hlen⟩ := sk_dec hM h
  obtain rfl : 2 = len := hlen.resolve_left (by simp [sk_il])
  have k1 := k hM p e R s m args below meth c H locs cells slots Qf ar hF hR hl hc hs hfin
  exact lv_lload hF.1 hF.2.1 hd (sk_lget hl hk) k1
theorem AW_aload_n {n : Fin 4} {a : Nat} (h : sk_find pc M.2.2.2.2 = some (pc0, (.aload_n n), len, nxt, aux)) (hk : ls[(n : Nat)]? = some (some (vr a))) (k : AW l E d mc ms M nxt ls (vr a :: st) G σ Q) : AW l E d mc ms M pc ls (st) G σ Q := by
  intro hM p e R s m args below meth c H locs cells slots Qf ar hF hR hl hc hs hfin
  obtain ⟨hd, rfl, hA, hlen⟩ := sk_dec hM h
  obtain rfl : 1 = len := hlen.resolve_left (by simp [sk_il])
  have k1 := k hM p e R s m args below meth c H locs cells slots Qf ar hF hR hl hc hs hfin
  exact lv_aload_n hF.1 hF.2.1 hd rfl (sk_lget hl hk) k1
theorem AW_aload {n : Nat} {a : Nat} (h : sk_find pc M.2.2.2.2 = some (pc0, (.aload n), len, nxt, aux)) (hk : ls[n]? = some (some (vr a))) (k : AW l E d mc ms M nxt ls (vr a :: st) G σ Q) : AW l E d mc ms M pc ls (st) G σ Q := by
  intro hM p e R s m args below meth c H locs cells slots Qf ar hF hR hl hc hs hfin
  obtain ⟨hd, rfl, hA, hlen⟩ := sk_dec hM h
  obtain rfl : 2 = len := hlen.resolve_left (by simp [sk_il])
  have k1 := k hM p e R s m args below meth c H locs cells slots Qf ar hF hR hl hc hs hfin
  exact lv_aload hF.1 hF.2.1 hd (sk_lget hl hk) k1
theorem AW_iadd {a b : Int} (h : sk_find pc M.2.2.2.2 = some (pc0, .iadd, len, nxt, aux)) (k : AW l E d mc ms M nxt ls (vi (a + b) :: st) G σ Q) : AW l E d mc ms M pc ls (vi b :: vi a :: st) G σ Q := by
  intro hM p e R s m args below meth c H locs cells slots Qf ar hF hR hl hc hs hfin
  obtain ⟨hd, rfl, hA, hlen⟩ := sk_dec hM h
  obtain rfl : 1 = len := hlen.resolve_left (by simp [sk_il])
  have k1 := k hM p e R s m args below meth c H locs cells slots Qf ar hF hR hl hc hs hfin
  exact lv_iadd hF.1 hF.2.1 hd (by rw [sk_io_add]; exact k1)
theorem AW_isub {a b : Int} (h : sk_find pc M.2.2.2.2 = some (pc0, .isub, len, nxt, aux)) (k : AW l E d mc ms M nxt ls (vi (a - b) :: st) G σ Q) : AW l E d mc ms M pc ls (vi b :: vi a :: st) G σ Q := by
  intro hM p e R s m args below meth c H locs cells slots Qf ar hF hR hl hc hs hfin
  obtain ⟨hd, rfl, hA, hlen⟩ := sk_dec hM h
  obtain rfl : 1 = len := hlen.resolve_left (by simp [sk_il])
  have k1 := k hM p e R s m args below meth c H locs cells slots Qf ar hF hR hl hc hs hfin
  exact lv_isub hF.1 hF.2.1 hd (by rw [sk_io_sub]; exact k1)
theorem AW_imul {a b : Int} (h : sk_find pc M.2.2.2.2 = some (pc0, .imul, len, nxt, aux)) (k : AW l E d mc ms M nxt ls (vi (a * b) :: st) G σ Q) : AW l E d mc ms M pc ls (vi b :: vi a :: st) G σ Q := by
  intro hM p e R s m args below meth c H locs cells slots Qf ar hF hR hl hc hs hfin
  obtain ⟨hd, rfl, hA, hlen⟩ := sk_dec hM h
  obtain rfl : 1 = len := hlen.resolve_left (by simp [sk_il])
  have k1 := k hM p e R s m args below meth c H locs cells slots Qf ar hF hR hl hc hs hfin
  exact lv_imul hF.1 hF.2.1 hd (by rw [sk_io_mul]; exact k1)
theorem AW_iand {a b : Int} (h : sk_find pc M.2.2.2.2 = some (pc0, .iand, len, nxt, aux)) (k : AW l E d mc ms M nxt ls (vi (sk_and a b) :: st) G σ Q) : AW l E d mc ms M pc ls (vi b :: vi a :: st) G σ Q := by
  intro hM p e R s m args below meth c H locs cells slots Qf ar hF hR hl hc hs hfin
  obtain ⟨hd, rfl, hA, hlen⟩ := sk_dec hM h
  obtain rfl : 1 = len := hlen.resolve_left (by simp [sk_il])
  have k1 := k hM p e R s m args below meth c H locs cells slots Qf ar hF hR hl hc hs hfin
  exact lv_iand hF.1 hF.2.1 hd (by rw [← sk_and_of]; exact k1)
theorem AW_ior {a b : Int} (h : sk_find pc M.2.2.2.2 = some (pc0, .ior, len, nxt, aux)) (k : AW l E d mc ms M nxt ls (vi (sk_or a b) :: st) G σ Q) : AW l E d mc ms M pc ls (vi b :: vi a :: st) G σ Q := by
  intro hM p e R s m args below meth c H locs cells slots Qf ar hF hR hl hc hs hfin
  obtain ⟨hd, rfl, hA, hlen⟩ := sk_dec hM h
  obtain rfl : 1 = len := hlen.resolve_left (by simp [sk_il])
  have k1 := k hM p e R s m args below meth c H locs cells slots Qf ar hF hR hl hc hs hfin
  exact lv_ior hF.1 hF.2.1 hd (by rw [← sk_or_of]; exact k1)
theorem AW_ishr {a b : Int} (h : sk_find pc M.2.2.2.2 = some (pc0, .ishr, len, nxt, aux)) (k : AW l E d mc ms M nxt ls (vi (sk_shr a b) :: st) G σ Q) : AW l E d mc ms M pc ls (vi b :: vi a :: st) G σ Q := by
  intro hM p e R s m args below meth c H locs cells slots Qf ar hF hR hl hc hs hfin
  obtain ⟨hd, rfl, hA, hlen⟩ := sk_dec hM h
  obtain rfl : 1 = len := hlen.resolve_left (by simp [sk_il])
  have k1 := k hM p e R s m args below meth c H locs cells slots Qf ar hF hR hl hc hs hfin
  exact lv_ishr hF.1 hF.2.1 hd (by rw [← sk_shr_of]; exact k1)
theorem AW_iushr {a b : Int} (h : sk_find pc M.2.2.2.2 = some (pc0, .iushr, len, nxt, aux)) (k : AW l E d mc ms M nxt ls (vi (sk_ushr a b) :: st) G σ Q) : AW l E d mc ms M pc ls (vi b :: vi a :: st) G σ Q := by
  intro hM p e R s m args below meth c H locs cells slots Qf ar hF hR hl hc hs hfin
  obtain ⟨hd, rfl, hA, hlen⟩ := sk_dec hM h
  obtain rfl : 1 = len := hlen.resolve_left (by simp [sk_il])
  have k1 := k hM p e R s m args below meth c H locs cells slots Qf ar hF hR hl hc hs hfin
  exact lv_iushr hF.1 hF.2.1 hd (sk_ushr_of a b).symm k1
theorem AW_lsub {a b : Int64} (h : sk_find pc M.2.2.2.2 = some (pc0, .lsub, len, nxt, aux)) (k : AW l E d mc ms M nxt ls (vl (a - b) :: st) G σ Q) : AW l E d mc ms M pc ls (vl b :: vl a :: st) G σ Q := by
  intro hM p e R s m args below meth c H locs cells slots Qf ar hF hR hl hc hs hfin
  obtain ⟨hd, rfl, hA, hlen⟩ := sk_dec hM h
  obtain rfl : 1 = len := hlen.resolve_left (by simp [sk_il])
  have k1 := k hM p e R s m args below meth c H locs cells slots Qf ar hF hR hl hc hs hfin
  exact lv_lsub hF.1 hF.2.1 hd k1
theorem AW_lmul {a b : Int64} (h : sk_find pc M.2.2.2.2 = some (pc0, .lmul, len, nxt, aux)) (k : AW l E d mc ms M nxt ls (vl (a * b) :: st) G σ Q) : AW l E d mc ms M pc ls (vl b :: vl a :: st) G σ Q := by
  intro hM p e R s m args below meth c H locs cells slots Qf ar hF hR hl hc hs hfin
  obtain ⟨hd, rfl, hA, hlen⟩ := sk_dec hM h
  obtain rfl : 1 = len := hlen.resolve_left (by simp [sk_il])
  have k1 := k hM p e R s m args below meth c H locs cells slots Qf ar hF hR hl hc hs hfin
  exact lv_lmul hF.1 hF.2.1 hd k1
theorem AW_land {a b : Int64} (h : sk_find pc M.2.2.2.2 = some (pc0, .land, len, nxt, aux)) (k : AW l E d mc ms M nxt ls (vl (a &&& b) :: st) G σ Q) : AW l E d mc ms M pc ls (vl b :: vl a :: st) G σ Q := by
  intro hM p e R s m args below meth c H locs cells slots Qf ar hF hR hl hc hs hfin
  obtain ⟨hd, rfl, hA, hlen⟩ := sk_dec hM h
  obtain rfl : 1 = len := hlen.resolve_left (by simp [sk_il])
  have k1 := k hM p e R s m args below meth c H locs cells slots Qf ar hF hR hl hc hs hfin
  exact lv_land hF.1 hF.2.1 hd k1
theorem AW_lor {a b : Int64} (h : sk_find pc M.2.2.2.2 = some (pc0, .lor, len, nxt, aux)) (k : AW l E d mc ms M nxt ls (vl (a ||| b) :: st) G σ Q) : AW l E d mc ms M pc ls (vl b :: vl a :: st) G σ Q := by
  intro hM p e R s m args below meth c H locs cells slots Qf ar hF hR hl hc hs hfin
  obtain ⟨hd, rfl, hA, hlen⟩ := sk_dec hM h
  obtain rfl : 1 = len := hlen.resolve_left (by simp [sk_il])
  have k1 := k hM p e R s m args below meth c H locs cells slots Qf ar hF hR hl hc hs hfin
  exact lv_lor hF.1 hF.2.1 hd k1
theorem AW_lxor {a b : Int64} (h : sk_find pc M.2.2.2.2 = some (pc0, .lxor, len, nxt, aux)) (k : AW l E d mc ms M nxt ls (vl (a ^^^ b) :: st) G σ Q) : AW l E d mc ms M pc ls (vl b :: vl a :: st) G σ Q := by
  intro hM p e R s m args below meth c H locs cells slots Qf ar hF hR hl hc hs hfin
  obtain ⟨hd, rfl, hA, hlen⟩ := sk_dec hM h
  obtain rfl : 1 = len := hlen.resolve_left (by simp [sk_il])
  have k1 := k hM p e R s m args below meth c H locs cells slots Qf ar hF hR hl hc hs hfin
  exact lv_lxor hF.1 hF.2.1 hd k1
theorem AW_lshl {a : Int64} {b : Int} (h : sk_find pc M.2.2.2.2 = some (pc0, .lshl, len, nxt, aux)) (k : AW l E d mc ms M nxt ls (vl (sk_lshl a b) :: st) G σ Q) : AW l E d mc ms M pc ls (vi b :: vl a :: st) G σ Q := by
  intro hM p e R s m args below meth c H locs cells slots Qf ar hF hR hl hc hs hfin
  obtain ⟨hd, rfl, hA, hlen⟩ := sk_dec hM h
  obtain rfl : 1 = len := hlen.resolve_left (by simp [sk_il])
  have k1 := k hM p e R s m args below meth c H locs cells slots Qf ar hF hR hl hc hs hfin
  exact lv_lshl hF.1 hF.2.1 hd rfl k1
theorem AW_lushr {a : Int64} {b : Int} (h : sk_find pc M.2.2.2.2 = some (pc0, .lushr, len, nxt, aux)) (k : AW l E d mc ms M nxt ls (vl (sk_lushr a b) :: st) G σ Q) : AW l E d mc ms M pc ls (vi b :: vl a :: st) G σ Q := by
  intro hM p e R s m args below meth c H locs cells slots Qf ar hF hR hl hc hs hfin
  obtain ⟨hd, rfl, hA, hlen⟩ := sk_dec hM h
  obtain rfl : 1 = len := hlen.resolve_left (by simp [sk_il])
  have k1 := k hM p e R s m args below meth c H locs cells slots Qf ar hF hR hl hc hs hfin
  exact lv_lushr hF.1 hF.2.1 hd rfl k1
theorem AW_i2l {a : Int} (h : sk_find pc M.2.2.2.2 = some (pc0, .i2l, len, nxt, aux)) (k : AW l E d mc ms M nxt ls (vl (sk_i2l a) :: st) G σ Q) : AW l E d mc ms M pc ls (vi a :: st) G σ Q := by
  intro hM p e R s m args below meth c H locs cells slots Qf ar hF hR hl hc hs hfin
  obtain ⟨hd, rfl, hA, hlen⟩ := sk_dec hM h
  obtain rfl : 1 = len := hlen.resolve_left (by simp [sk_il])
  have k1 := k hM p e R s m args below meth c H locs cells slots Qf ar hF hR hl hc hs hfin
  exact lv_i2l hF.1 hF.2.1 hd rfl k1
theorem AW_l2i {a : Int64} (h : sk_find pc M.2.2.2.2 = some (pc0, .l2i, len, nxt, aux)) (k : AW l E d mc ms M nxt ls (vi a.toInt32.toInt :: st) G σ Q) : AW l E d mc ms M pc ls (vl a :: st) G σ Q := by
  intro hM p e R s m args below meth c H locs cells slots Qf ar hF hR hl hc hs hfin
  obtain ⟨hd, rfl, hA, hlen⟩ := sk_dec hM h
  obtain rfl : 1 = len := hlen.resolve_left (by simp [sk_il])
  have k1 := k hM p e R s m args below meth c H locs cells slots Qf ar hF hR hl hc hs hfin
  exact lv_l2i hF.1 hF.2.1 hd (sk_oi _).symm k1
theorem AW_lcmp {a b : Int64} (h : sk_find pc M.2.2.2.2 = some (pc0, .lcmp, len, nxt, aux)) (k : AW l E d mc ms M nxt ls (vi (lg_cmp a b).toInt :: st) G σ Q) : AW l E d mc ms M pc ls (vl b :: vl a :: st) G σ Q := by
  intro hM p e R s m args below meth c H locs cells slots Qf ar hF hR hl hc hs hfin
  obtain ⟨hd, rfl, hA, hlen⟩ := sk_dec hM h
  obtain rfl : 1 = len := hlen.resolve_left (by simp [sk_il])
  have k1 := k hM p e R s m args below meth c H locs cells slots Qf ar hF hR hl hc hs hfin
  exact W.lcmp hF.1 hF.2.1 hd (by rw [← sk_oi (lg_cmp a b)]; exact k1)
theorem AW_dup {v : sk_V} (h : sk_find pc M.2.2.2.2 = some (pc0, .dup, len, nxt, aux)) (hv : sk_is1 v = true) (k : AW l E d mc ms M nxt ls (v :: v :: st) G σ Q) : AW l E d mc ms M pc ls (v :: st) G σ Q := by
  intro hM p e R s m args below meth c H locs cells slots Qf ar hF hR hl hc hs hfin
  obtain ⟨hd, rfl, hA, hlen⟩ := sk_dec hM h
  obtain rfl : 1 = len := hlen.resolve_left (by simp [sk_il])
  have k1 := k hM p e R s m args below meth c H locs cells slots Qf ar hF hR hl hc hs hfin
  exact lv_dup hF.1 hF.2.1 hd (sk_cat1 E v hv) k1
theorem AW_dup2 {v w : sk_V} (h : sk_find pc M.2.2.2.2 = some (pc0, .dup2, len, nxt, aux)) (hv : sk_is1 v = true) (hw : sk_is1 w = true) (k : AW l E d mc ms M nxt ls (v :: w :: v :: w :: st) G σ Q) : AW l E d mc ms M pc ls (v :: w :: st) G σ Q := by
  intro hM p e R s m args below meth c H locs cells slots Qf ar hF hR hl hc hs hfin
  obtain ⟨hd, rfl, hA, hlen⟩ := sk_dec hM h
  obtain rfl : 1 = len := hlen.resolve_left (by simp [sk_il])
  have k1 := k hM p e R s m args below meth c H locs cells slots Qf ar hF hR hl hc hs hfin
  exact lv_dup2_11 hF.1 hF.2.1 hd (sk_cat1 E v hv) (sk_cat1 E w hw) k1
theorem AW_dup2l {a : Int64} (h : sk_find pc M.2.2.2.2 = some (pc0, .dup2, len, nxt, aux)) (k : AW l E d mc ms M nxt ls (vl a :: vl a :: st) G σ Q) : AW l E d mc ms M pc ls (vl a :: st) G σ Q := by
  intro hM p e R s m args below meth c H locs cells slots Qf ar hF hR hl hc hs hfin
  obtain ⟨hd, rfl, hA, hlen⟩ := sk_dec hM h
  obtain rfl : 1 = len := hlen.resolve_left (by simp [sk_il])
  have k1 := k hM p e R s m args below meth c H locs cells slots Qf ar hF hR hl hc hs hfin
  exact lv_dup2_2 hF.1 hF.2.1 hd rfl k1
theorem AW_pop {v : sk_V} (h : sk_find pc M.2.2.2.2 = some (pc0, .pop, len, nxt, aux)) (hv : sk_is1 v = true) (k : AW l E d mc ms M nxt ls (st) G σ Q) : AW l E d mc ms M pc ls (v :: st) G σ Q := by
  intro hM p e R s m args below meth c H locs cells slots Qf ar hF hR hl hc hs hfin
  obtain ⟨hd, rfl, hA, hlen⟩ := sk_dec hM h
  obtain rfl : 1 = len := hlen.resolve_left (by simp [sk_il])
  have k1 := k hM p e R s m args below meth c H locs cells slots Qf ar hF hR hl hc hs hfin
  exact lv_pop hF.1 hF.2.1 hd (sk_cat1 E v hv) k1
theorem AW_goto {off : Int} {t : Nat} (h : sk_find pc M.2.2.2.2 = some (pc0, (.goto off), len, nxt, [t])) (k : AW l E d mc ms M t ls st G σ Q) : AW l E d mc ms M pc ls st G σ Q := by
  intro hM p e R s m args below meth c H locs cells slots Qf ar hF hR hl hc hs hfin
  obtain ⟨hd, rfl, hA, hlen⟩ := sk_dec hM h
  obtain rfl : 3 = len := hlen.resolve_left (by simp [sk_il])
  exact lv_goto hF.1 hF.2.1 hd (of_decide_eq_true hA) (k hM p e R s m args below meth c H locs cells slots Qf ar hF hR hl hc hs hfin)
theorem AW_ifeq {a : Int} {off : Int} {t : Nat} (h : sk_find pc M.2.2.2.2 = some (pc0, (.ifCond .eq off), len, nxt, [t])) (kt : a = 0 → AW l E d mc ms M t ls st G σ Q) (kf : ¬ (a = 0) → AW l E d mc ms M nxt ls st G σ Q) (ha : sk_in a := by (first | assumption | (unfold sk_in; omega))) : AW l E d mc ms M pc ls (vi a :: st) G σ Q := by
  intro hM p e R s m args below meth c H locs cells slots Qf ar hF hR hl hc hs hfin
  obtain ⟨hd, rfl, hA, hlen⟩ := sk_dec hM h
  obtain rfl : 3 = len := hlen.resolve_left (by simp [sk_il])
  exact lv_if_eq hF.1 hF.2.1 hd (of_decide_eq_true hA) (fun z => kt ((sk_eq_iff ha sk_in0).mp z) hM p e R s m args below meth c H locs cells slots Qf ar hF hR hl hc hs hfin) (fun z => kf (fun y => z ((sk_eq_iff ha sk_in0).mpr y)) hM p e R s m args below meth c H locs cells slots Qf ar hF hR hl hc hs hfin)
theorem AW_ifne {a : Int} {off : Int} {t : Nat} (h : sk_find pc M.2.2.2.2 = some (pc0, (.ifCond .ne off), len, nxt, [t])) (kt : a ≠ 0 → AW l E d mc ms M t ls st G σ Q) (kf : a = 0 → AW l E d mc ms M nxt ls st G σ Q) (ha : sk_in a := by (first | assumption | (unfold sk_in; omega))) : AW l E d mc ms M pc ls (vi a :: st) G σ Q := by
  intro hM p e R s m args below meth c H locs cells slots Qf ar hF hR hl hc hs hfin
  obtain ⟨hd, rfl, hA, hlen⟩ := sk_dec hM h
  obtain rfl : 3 = len := hlen.resolve_left (by simp [sk_il])
  exact lv_if_ne hF.1 hF.2.1 hd (of_decide_eq_true hA) (fun z => kt ((not_congr (sk_eq_iff ha sk_in0)).mp z) hM p e R s m args below meth c H locs cells slots Qf ar hF hR hl hc hs hfin) (fun z => kf (((sk_eq_iff ha sk_in0)).mp z) hM p e R s m args below meth c H locs cells slots Qf ar hF hR hl hc hs hfin)
theorem AW_iflt {a : Int} {off : Int} {t : Nat} (h : sk_find pc M.2.2.2.2 = some (pc0, (.ifCond .lt off), len, nxt, [t])) (kt : a < 0 → AW l E d mc ms M t ls st G σ Q) (kf : ¬ (a < 0) → AW l E d mc ms M nxt ls st G σ Q) (ha : sk_in a := by (first | assumption | (unfold sk_in; omega))) : AW l E d mc ms M pc ls (vi a :: st) G σ Q := by
  intro hM p e R s m args below meth c H locs cells slots Qf ar hF hR hl hc hs hfin
  obtain ⟨hd, rfl, hA, hlen⟩ := sk_dec hM h
  obtain rfl : 3 = len := hlen.resolve_left (by simp [sk_il])
  exact lv_if_lt hF.1 hF.2.1 hd (of_decide_eq_true hA) (fun z => kt ((sk_lt_iff ha sk_in0).mp z) hM p e R s m args below meth c H locs cells slots Qf ar hF hR hl hc hs hfin) (fun z => kf (fun y => z ((sk_lt_iff ha sk_in0).mpr y)) hM p e R s m args below meth c H locs cells slots Qf ar hF hR hl hc hs hfin)
theorem AW_ifge {a : Int} {off : Int} {t : Nat} (h : sk_find pc M.2.2.2.2 = some (pc0, (.ifCond .ge off), len, nxt, [t])) (kt : 0 ≤ a → AW l E d mc ms M t ls st G σ Q) (kf : ¬ (0 ≤ a) → AW l E d mc ms M nxt ls st G σ Q) (ha : sk_in a := by (first | assumption | (unfold sk_in; omega))) : AW l E d mc ms M pc ls (vi a :: st) G σ Q := by
  intro hM p e R s m args below meth c H locs cells slots Qf ar hF hR hl hc hs hfin
  obtain ⟨hd, rfl, hA, hlen⟩ := sk_dec hM h
  obtain rfl : 3 = len := hlen.resolve_left (by simp [sk_il])
  exact lv_if_ge hF.1 hF.2.1 hd (of_decide_eq_true hA) (fun z => kt ((sk_le_iff sk_in0 ha).mp z) hM p e R s m args below meth c H locs cells slots Qf ar hF hR hl hc hs hfin) (fun z => kf (fun y => z ((sk_le_iff sk_in0 ha).mpr y)) hM p e R s m args below meth c H locs cells slots Qf ar hF hR hl hc hs hfin)
theorem AW_ifgt {a : Int} {off : Int} {t : Nat} (h : sk_find pc M.2.2.2.2 = some (pc0, (.ifCond .gt off), len, nxt, [t])) (kt : 0 < a → AW l E d mc ms M t ls st G σ Q) (kf : ¬ (0 < a) → AW l E d mc ms M nxt ls st G σ Q) (ha : sk_in a := by (first | assumption | (unfold sk_in; omega))) : AW l E d mc ms M pc ls (vi a :: st) G σ Q := by
  intro hM p e R s m args below meth c H locs cells slots Qf ar hF hR hl hc hs hfin
  obtain ⟨hd, rfl, hA, hlen⟩ := sk_dec hM h
  obtain rfl : 3 = len := hlen.resolve_left (by simp [sk_il])
  exact lv_if_gt hF.1 hF.2.1 hd (of_decide_eq_true hA) (fun z => kt ((sk_lt_iff sk_in0 ha).mp z) hM p e R s m args below meth c H locs cells slots Qf ar hF hR hl hc hs hfin) (fun z => kf (fun y => z ((sk_lt_iff sk_in0 ha).mpr y)) hM p e R s m args below meth c H locs cells slots Qf ar hF hR hl hc hs hfin)
theorem AW_ifle {a : Int} {off : Int} {t : Nat} (h : sk_find pc M.2.2.2.2 = some (pc0, (.ifCond .le off), len, nxt, [t])) (kt : a ≤ 0 → AW l E d mc ms M t ls st G σ Q) (kf : ¬ (a ≤ 0) → AW l E d mc ms M nxt ls st G σ Q) (ha : sk_in a := by (first | assumption | (unfold sk_in; omega))) : AW l E d mc ms M pc ls (vi a :: st) G σ Q := by
  intro hM p e R s m args below meth c H locs cells slots Qf ar hF hR hl hc hs hfin
  obtain ⟨hd, rfl, hA, hlen⟩ := sk_dec hM h
  obtain rfl : 3 = len := hlen.resolve_left (by simp [sk_il])
  exact lv_if_le hF.1 hF.2.1 hd (of_decide_eq_true hA) (fun z => kt ((sk_le_iff ha sk_in0).mp z) hM p e R s m args below meth c H locs cells slots Qf ar hF hR hl hc hs hfin) (fun z => kf (fun y => z ((sk_le_iff ha sk_in0).mpr y)) hM p e R s m args below meth c H locs cells slots Qf ar hF hR hl hc hs hfin)
theorem AW_iceq {a b : Int} {off : Int} {t : Nat} (h : sk_find pc M.2.2.2.2 = some (pc0, (.if_icmp .eq off), len, nxt, [t])) (kt : a = b → AW l E d mc ms M t ls st G σ Q) (kf : ¬ (a = b) → AW l E d mc ms M nxt ls st G σ Q) (ha : sk_in a := by (first | assumption | (unfold sk_in; omega))) (hb : sk_in b := by (first | assumption | (unfold sk_in; omega))) : AW l E d mc ms M pc ls (vi b :: vi a :: st) G σ Q := by
  intro hM p e R s m args below meth c H locs cells slots Qf ar hF hR hl hc hs hfin
  obtain ⟨hd, rfl, hA, hlen⟩ := sk_dec hM h
  obtain rfl : 3 = len := hlen.resolve_left (by simp [sk_il])
  exact lv_icmp_eq hF.1 hF.2.1 hd (of_decide_eq_true hA) (fun z => kt ((sk_eq_iff ha hb).mp z) hM p e R s m args below meth c H locs cells slots Qf ar hF hR hl hc hs hfin) (fun z => kf (fun y => z ((sk_eq_iff ha hb).mpr y)) hM p e R s m args below meth c H locs cells slots Qf ar hF hR hl hc hs hfin)
theorem AW_icne {a b : Int} {off : Int} {t : Nat} (h : sk_find pc M.2.2.2.2 = some (pc0, (.if_icmp .ne off), len, nxt, [t])) (kt : a ≠ b → AW l E d mc ms M t ls st G σ Q) (kf : a = b → AW l E d mc ms M nxt ls st G σ Q) (ha : sk_in a := by (first | assumption | (unfold sk_in; omega))) (hb : sk_in b := by (first | assumption | (unfold sk_in; omega))) : AW l E d mc ms M pc ls (vi b :: vi a :: st) G σ Q := by
  intro hM p e R s m args below meth c H locs cells slots Qf ar hF hR hl hc hs hfin
  obtain ⟨hd, rfl, hA, hlen⟩ := sk_dec hM h
  obtain rfl : 3 = len := hlen.resolve_left (by simp [sk_il])
  exact lv_icmp_ne hF.1 hF.2.1 hd (of_decide_eq_true hA) (fun z => kt ((not_congr (sk_eq_iff ha hb)).mp z) hM p e R s m args below meth c H locs cells slots Qf ar hF hR hl hc hs hfin) (fun z => kf (((sk_eq_iff ha hb)).mp z) hM p e R s m args below meth c H locs cells slots Qf ar hF hR hl hc hs hfin)
theorem AW_iclt {a b : Int} {off : Int} {t : Nat} (h : sk_find pc M.2.2.2.2 = some (pc0, (.if_icmp .lt off), len, nxt, [t])) (kt : a < b → AW l E d mc ms M t ls st G σ Q) (kf : ¬ (a < b) → AW l E d mc ms M nxt ls st G σ Q) (ha : sk_in a := by (first | assumption | (unfold sk_in; omega))) (hb : sk_in b := by (first | assumption | (unfold sk_in; omega))) : AW l E d mc ms M pc ls (vi b :: vi a :: st) G σ Q := by
  intro hM p e R s m args below meth c H locs cells slots Qf ar hF hR hl hc hs hfin
  obtain ⟨hd, rfl, hA, hlen⟩ := sk_dec hM h
  obtain rfl : 3 = len := hlen.resolve_left (by simp [sk_il])
  exact lv_icmp_lt hF.1 hF.2.1 hd (of_decide_eq_true hA) (fun z => kt ((sk_lt_iff ha hb).mp z) hM p e R s m args below meth c H locs cells slots Qf ar hF hR hl hc hs hfin) (fun z => kf (fun y => z ((sk_lt_iff ha hb).mpr y)) hM p e R s m args below meth c H locs cells slots Qf ar hF hR hl hc hs hfin)
theorem AW_icge {a b : Int} {off : Int} {t : Nat} (h : sk_find pc M.2.2.2.2 = some (pc0, (.if_icmp .ge off), len, nxt, [t])) (kt : b ≤ a → AW l E d mc ms M t ls st G σ Q) (kf : ¬ (b ≤ a) → AW l E d mc ms M nxt ls st G σ Q) (ha : sk_in a := by (first | assumption | (unfold sk_in; omega))) (hb : sk_in b := by (first | assumption | (unfold sk_in; omega))) : AW l E d mc ms M pc ls (vi b :: vi a :: st) G σ Q := by
  intro hM p e R s m args below meth c H locs cells slots Qf ar hF hR hl hc hs hfin
  obtain ⟨hd, rfl, hA, hlen⟩ := sk_dec hM h
  obtain rfl : 3 = len := hlen.resolve_left (by simp [sk_il])
  exact lv_icmp_ge hF.1 hF.2.1 hd (of_decide_eq_true hA) (fun z => kt ((sk_le_iff hb ha).mp z) hM p e R s m args below meth c H locs cells slots Qf ar hF hR hl hc hs hfin) (fun z => kf (fun y => z ((sk_le_iff hb ha).mpr y)) hM p e R s m args below meth c H locs cells slots Qf ar hF hR hl hc hs hfin)
theorem AW_icgt {a b : Int} {off : Int} {t : Nat} (h : sk_find pc M.2.2.2.2 = some (pc0, (.if_icmp .gt off), len, nxt, [t])) (kt : b < a → AW l E d mc ms M t ls st G σ Q) (kf : ¬ (b < a) → AW l E d mc ms M nxt ls st G σ Q) (ha : sk_in a := by (first | assumption | (unfold sk_in; omega))) (hb : sk_in b := by (first | assumption | (unfold sk_in; omega))) : AW l E d mc ms M pc ls (vi b :: vi a :: st) G σ Q := by
  intro hM p e R s m args below meth c H locs cells slots Qf ar hF hR hl hc hs hfin
  obtain ⟨hd, rfl, hA, hlen⟩ := sk_dec hM h
  obtain rfl : 3 = len := hlen.resolve_left (by simp [sk_il])
  exact lv_icmp_gt hF.1 hF.2.1 hd (of_decide_eq_true hA) (fun z => kt ((sk_lt_iff hb ha).mp z) hM p e R s m args below meth c H locs cells slots Qf ar hF hR hl hc hs hfin) (fun z => kf (fun y => z ((sk_lt_iff hb ha).mpr y)) hM p e R s m args below meth c H locs cells slots Qf ar hF hR hl hc hs hfin)
theorem AW_icle {a b : Int} {off : Int} {t : Nat} (h : sk_find pc M.2.2.2.2 = some (pc0, (.if_icmp .le off), len, nxt, [t])) (kt : a ≤ b → AW l E d mc ms M t ls st G σ Q) (kf : ¬ (a ≤ b) → AW l E d mc ms M nxt ls st G σ Q) (ha : sk_in a := by (first | assumption | (unfold sk_in; omega))) (hb : sk_in b := by (first | assumption | (unfold sk_in; omega))) : AW l E d mc ms M pc ls (vi b :: vi a :: st) G σ Q := by
  intro hM p e R s m args below meth c H locs cells slots Qf ar hF hR hl hc hs hfin
  obtain ⟨hd, rfl, hA, hlen⟩ := sk_dec hM h
  obtain rfl : 3 = len := hlen.resolve_left (by simp [sk_il])
  exact lv_icmp_le hF.1 hF.2.1 hd (of_decide_eq_true hA) (fun z => kt ((sk_le_iff ha hb).mp z) hM p e R s m args below meth c H locs cells slots Qf ar hF hR hl hc hs hfin) (fun z => kf (fun y => z ((sk_le_iff ha hb).mpr y)) hM p e R s m args below meth c H locs cells slots Qf ar hF hR hl hc hs hfin)
end SKR
