/-! ===== the abstract machine: ints are Int, cells are numbers, the heap is three functions ===== -/
/-- a value: an int, a long, a reference (the number of its cell) -/
abbrev sk_V : Type := Int ⊕ (Int64 ⊕ Option Nat)
/-- a cell's shape: an object of a class, or an array (0 int, 1 boolean, 2 long, 3 String) of a length -/
abbrev sk_Sh : Type := Nat ⊕ (Nat × Nat)
abbrev sk_SI : Type := Nat → Int → Int
abbrev sk_SL : Type := Nat → Int → Int64
abbrev sk_SR : Type := Nat → Int → Option Nat
abbrev sk_St : Type := sk_SI × sk_SL × sk_SR
/-- an instruction: its place, itself, its length, the next place, what else is known of it -/
abbrev sk_I : Type := Nat × Instr × Nat × Nat × List Nat
/-- a method: its name, bytes, locals, answer's type, instructions in groups under their last place -/
abbrev sk_M : Type := MethodName × ByteArray × Nat × Option FieldType × List (Nat × List sk_I)
/-- where the abstract cells lie: the first cell's address, the tables' numbers, the array types' numbers, what lies outside (addresses), the Strings' byte arrays, the script -/
abbrev sk_En : Type := Nat × va_G × (Nat → ClassId) × (Nat → Nat) × (Nat → Nat) × Nat × (Nat → Int32)
abbrev vi (a : Int) : sk_V := .inl a
abbrev vl (a : Int64) : sk_V := .inr (.inl a)
abbrev vr (k : Nat) : sk_V := .inr (.inr (some k))
def sk_look (pc : Nat) : List sk_I → Option sk_I
  | [] => none
  | e :: r => bif Nat.beq pc e.1 then some e else sk_look pc r
def sk_find (pc : Nat) : List (Nat × List sk_I) → Option sk_I
  | [] => none
  | c :: r => bif Nat.ble pc c.1 then sk_look pc c.2 else sk_find pc r
def sk_ad (E : sk_En) (k : Nat) : Nat := if k < 1000 then E.1 + k else E.2.2.2.1 (k - 1000)
def sk_rv (E : sk_En) (r : Option Nat) : Value := va_rf (r.map (sk_ad E))
def sk_v (E : sk_En) : sk_V → Value
  | .inl i => .int (Int32.ofInt i)
  | .inr (.inl x) => .long x
  | .inr (.inr r) => sk_rv E r
def sk_isR : FieldType → Bool
  | .object _ => true
  | .array _ => true
  | _ => false
def sk_fv (E : sk_En) (σ : sk_St) (k : Nat) (j : Nat) (ty : FieldType) : Value := if sk_isR ty then sk_rv E (σ.2.2 k j) else .int (Int32.ofInt (σ.1 k j))
def sk_tyL : List (Nat → FieldType) := [tyX0, tyX1, tyX2, tyX3, tyX4, tyX5, tyX6, tyX7, tyX8, tyX9, tyX10]
def sk_ty (ci : Nat) : Nat → FieldType := sk_tyL.getD ci tyX0
def sk_C (ci : Nat) : vw_C := vwCl.getD ci ("", TX0, 0)
def sk_pay (E : sk_En) (σ : sk_St) (k tc : Nat) : (Nat → Int32) ⊕ (Nat → Int64) ⊕ (Nat → UInt32) ⊕ (Nat → UInt64) ⊕ (Nat → Option Nat) :=
  if tc = 2 then .inr (.inl (fun j => σ.2.1 k j)) else if tc = 3 then .inr (.inr (.inr (.inr (fun j => (σ.2.2 k j).map (sk_ad E))))) else .inl (fun j => Int32.ofInt (σ.1 k j))
def sk_cell (E : sk_En) (σ : sk_St) (k : Nat) : sk_Sh → va_E
  | .inl ci => .inr (ci, (List.range (sk_C ci).2.2).map (fun j => sk_fv E σ k j (sk_ty ci j)))
  | .inr x => .inl (E.2.2.1 x.1, x.2, sk_pay E σ k x.1)
/-- the world that the abstract heap stands for -/
def sk_w (E : sk_En) (G : List sk_Sh) (σ : sk_St) : va_W := G.mapIdx fun k sh => (E.1 + k, sk_cell E σ k sh)
def sk_A (E : sk_En) : Nat → Prop := fun q => E.1 ≤ q
def sk_tys (E : sk_En) : List (ClassId × FieldType) := [(E.2.2.1 0, .int), (E.2.2.1 1, .boolean), (E.2.2.1 2, .long), (E.2.2.1 3, .object "java/lang/String")]
/-- the good words of the tables -/
def sk_gw : List Cond := lw_tbl.filter goodWord
def sk_sx (E : sk_En) (s : State) : Prop :=
  vk_S 17 sk_len sk_byt E.2.2.2.1 E.2.2.2.2.1 (sk_A E) s s.heap ∧ (∀ (i : Nat) (q : String × Nat × String), sk_str[i]? = some q → vk_R q.1 q.2.1 q.2.2 (E.2.2.2.1 i) s) ∧ va_Z "java/lang/String" "COMPACT_STRINGS" "Z" (.int 1) (sk_A E) s s.heap ∧ (va_Z "jdk/internal/util/Preconditions" "SIOOBE_FORMATTER" "Ljava/util/function/BiFunction;" .null (sk_A E) s s.heap ∨ va_Z "jdk/internal/util/Preconditions" "SIOOBE_FORMATTER" "Ljava/util/function/BiFunction;" (.ref (E.2.2.2.1 40)) (sk_A E) s s.heap) ∧ ∀ i : Nat, E.2.2.2.2.1 i = E.2.2.2.1 (100 + i)
def sk_tx (E : sk_En) (s : State) : Prop :=
  ∀ (i : Nat) (q : String × List Int), sk_tab[i]? = some q → va_Z "SealKeeper$Reader" q.1 "[I" (.ref (E.2.2.2.1 (20 + i))) (sk_A E) s s.heap ∧ va_T .int (E.2.2.2.1 (20 + i)) 13 (fun j => .int (Int32.ofInt (q.2.getD j 0))) (sk_A E) s s.heap
def sk_xx (E : sk_En) (s : State) : Prop := va_X (E.2.2.2.1 30) E.2.2.2.2.2.1 E.2.2.2.2.2.2 s s.heap ∧ E.2.2.2.1 30 < s.heap.size ∧ E.2.2.2.1 30 < E.1
/-- what a method may take as known of its start -/
def sk_cx (E : sk_En) (s : State) : Prop :=
  va_K E.2.1 vwCl (sk_tys E) s ∧ (∀ w ∈ sk_nw, va_Nw w s) ∧ va_AO "java/lang/String" s ∧ sk_sx E s ∧ sk_tx E s ∧ sk_xx E s ∧ E.1 ≤ s.heap.size
/-- the heap holds the abstract heap -/
def sk_R (E : sk_En) (G : List sk_Sh) (σ : sk_St) (s : State) (H : Heap) (locs : List Loc) : Prop :=
  va_P E.2.1 vwCl (sk_w E G σ) H ∧ G.length ≤ 1000 ∧ va_S (sk_A E) s.heap H locs
def sk_lv (E : sk_En) : Nat → List (Option sk_V) → List (Nat × Value)
  | _, [] => []
  | i, none :: r => sk_lv E (i + 1) r
  | i, some v :: r => (i, sk_v E v) :: sk_lv E (i + 1) r
/-- the method, its frame's fixed parts, its room for d calls one within the other -/
def sk_F (E : sk_En) (d : Nat) (M : sk_M) (p : Program) (R : Room) (s : State) (m : MethodId) (args : Array Value) (meth : Method) (c : Code) : Prop :=
  p.tables.exec = Jvm.exec ∧ c.code = M.2.1 ∧ meth.sig.returnType = M.2.2.2.1 ∧ c.maxLocals = M.2.2.1 ∧ s.vm.findClass M.1.cls = some m.cls ∧ meth.locks = false ∧ meth.name = M.1.name ∧ (∀ w ∈ sk_gw, w.before args s = true) ∧ sk_cx E s ∧ d ≤ R.frames ∧ 41 * d ≤ R.locals
def sk_fok (own : String) (idx : Nat) (ci j q tc : Nat) : Bool :=
  Nat.blt ci 11 && Nat.blt j (sk_C ci).2.2 && decide (lw_tbl[q]? = some (.fieldLink own idx ((sk_C ci).2.1 j).1 ((sk_C ci).2.1 j).2.1 ((sk_C ci).2.1 j).2.2.1)) && decide (sk_ty ci j = .int ∧ tc = 0 ∨ sk_ty ci j = .boolean ∧ tc = 1 ∨ sk_isR (sk_ty ci j) = true ∧ tc = 3)
def sk_okA (y : MethodName) (pc : Nat) (aux : List Nat) : Instr → Bool
  | .goto off => match aux with | [t] => decide ((pc : Int) + off = (t : Int)) | _ => false
  | .ifCond _ off => match aux with | [t] => decide ((pc : Int) + off = (t : Int)) | _ => false
  | .if_icmp _ off => match aux with | [t] => decide ((pc : Int) + off = (t : Int)) | _ => false
  | .tableswitch d lo hi offs => match aux with | t :: ts => decide ((pc : Int) + d = (t : Int)) && decide (offs.toList.map (fun o => (pc : Int) + o) = ts.map (fun (t : Nat) => (t : Int))) && decide (hi - lo + 1 = (ts.length : Int)) | _ => false
  | .lookupswitch d ps => match aux with | t :: ts => decide ((pc : Int) + d = (t : Int)) && decide (ps.toList.map (fun o => (pc : Int) + o.2) = ts.map (fun (t : Nat) => (t : Int))) | _ => false
  | .bipush n => decide ((Int8.ofInt n).toInt32 = Int32.ofInt n)
  | .sipush n => decide ((Int16.ofInt n).toInt32 = Int32.ofInt n)
  | .getfield idx => match aux with | [ci, j, q, tc] => sk_fok y.cls idx ci j q tc | _ => false
  | .putfield idx => match aux with | [ci, j, q, tc] => sk_fok y.cls idx ci j q tc && (!((sk_C ci).2.1 j).2.2.2 || (decide (y.name = "<init>") && decide (((sk_C ci).2.1 j).1 = y.cls))) | _ => false
  | .getstatic idx => match aux with | [x, q] => decide (lw_tbl[q]? = some (.fieldLink y.cls idx "SealKeeper$Reader" (sk_tab.getD x ("", [])).1 "[I")) && Nat.blt x 3 | _ => false
  | .new idx => match aux with | [ci, q1, q2, q3] => Nat.blt ci 11 && decide (lw_tbl[q1]? = some (.classLink y.cls idx (sk_C ci).1)) && decide (lw_tbl[q2]? = some (.instantiable (sk_C ci).1 (sk_C ci).2.2)) && decide (lw_tbl[q3]? = some (.initialized (sk_C ci).1)) | _ => false
  | .ldc idx => match aux with | [x, q] => decide (sk_str[x]?.map (fun t => (t.1, t.2.1)) = some (y.cls, idx)) || (Nat.beq x 99 && decide (lw_tbl[q]? = some (.constant y.cls idx 1000000))) | _ => false
  | _ => true
/-- the instructions' lengths -/
def sk_il : Instr → Nat
  | .bipush _ => 2
  | .sipush _ => 3
  | .iload _ => 2
  | .lload _ => 2
  | .aload _ => 2
  | .istore _ => 2
  | .lstore _ => 2
  | .astore _ => 2
  | .iinc _ _ => 3
  | .goto _ => 3
  | .ifCond _ _ => 3
  | .if_icmp _ _ => 3
  | .getfield _ => 3
  | .putfield _ => 3
  | .getstatic _ => 3
  | .invokevirtual _ => 3
  | .invokespecial _ => 3
  | .invokestatic _ => 3
  | .new _ => 3
  | .anewarray _ => 3
  | .newarray _ => 2
  | .ldc _ => 2
  | .ldc2_w _ => 3
  | .tableswitch _ _ _ _ => 0
  | .lookupswitch _ _ => 0
  | _ => 1
def sk_okI (M : sk_M) (e : sk_I) : Bool := (Nat.beq (sk_il e.2.1) 0 || Nat.beq (sk_il e.2.1) e.2.2.1) && ( decide (decode M.2.1 e.1 = .ok (e.2.1, e.2.2.1)) && Nat.beq e.2.2.2.1 (e.1 + e.2.2.1) && sk_okA M.1 e.1 e.2.2.2.2 e.2.1)
def sk_ok (M : sk_M) : Prop := ∀ c ∈ M.2.2.2.2, ∀ e ∈ c.2, sk_okI M e = true
/-- the answer v at a return of the method -/
def sk_ret (M : sk_M) (pc : Nat) : Option sk_V → Prop
  | none => decode M.2.1 pc = .ok (.return_, 1) ∧ M.2.2.2.1 = none
  | some (.inl i) => decode M.2.1 pc = .ok (.ireturn, 1) ∧ ∃ ty, M.2.2.2.1 = some ty ∧ narrow ty (.int (Int32.ofInt i)) = .int (Int32.ofInt i)
  | some (.inr (.inl _)) => decode M.2.1 pc = .ok (.lreturn, 1) ∧ M.2.2.2.1 = some .long
  | _ => False
/-- THE JUDGEMENT: from here the method comes to a return at which Q holds of the answer and the abstract heap; d calls one within the other; just mc cells are still made, of at most ms slots -/
def AW (l : Launch) (E : sk_En) (d mc ms : Nat) (M : sk_M) (pc : Nat) (ls : List (Option sk_V)) (st : List sk_V) (G : List sk_Sh) (σ : sk_St) (Q : Option sk_V → List sk_Sh → sk_St → Prop) : Prop :=
  sk_ok M → ∀ (p : Program) (e : Env) (R : Room) (s : State) (m : MethodId) (args : Array Value) (below : List Frame) (meth : Method) (c : Code) (H : Heap) (locs : List Loc) (cells slots : Nat) (Qf : State → Prop) (ar : Array Slot),
    sk_F E d M p R s m args meth c → sk_R E G σ s H locs → lv_has ar M.2.2.1 (sk_lv E 0 ls) → (cells + mc ≤ R.cells ∧ s.heap.size + cells ≤ E.1 + G.length) → slots + ms ≤ R.slots →
    (∀ (v : Option sk_V) (G' : List sk_Sh) (σ' : sk_St) (pc' : Nat) (ar' : Array Slot) (H' : Heap) (locs' : List Loc) (slots' : Nat), Q v G' σ' → sk_R E G' σ' s H' locs' → sk_ret M pc' v → s.heap.size + (cells + mc) ≤ E.1 + G'.length → slots' ≤ R.slots →
      W p l e R s m args below meth c H' locs' (cells + mc) slots' Qf (F0 m pc' ar' ((v.map (sk_v E)).toList))) →
    W p l e R s m args below meth c H locs cells slots Qf (F0 m pc ar (st.map (sk_v E)))
/-! ===== first lemmas ===== -/
theorem sk_look_mem {pc : Nat} {x : sk_I} : ∀ {l : List sk_I}, sk_look pc l = some x → x ∈ l ∧ x.1 = pc
  | [], h => by cases h
  | e :: r, h => by
    unfold sk_look at h
    cases hb : Nat.beq pc e.1 with
    | true =>
      rw [hb] at h
      cases h
      exact ⟨List.mem_cons_self, (Nat.eq_of_beq_eq_true hb).symm⟩
    | false =>
      rw [hb] at h
      have := sk_look_mem h
      exact ⟨List.mem_cons_of_mem _ this.1, this.2⟩
theorem sk_find_mem {pc : Nat} {x : sk_I} : ∀ {l : List (Nat × List sk_I)}, sk_find pc l = some x → (∃ c ∈ l, x ∈ c.2) ∧ x.1 = pc
  | [], h => by cases h
  | c :: r, h => by
    unfold sk_find at h
    cases hb : Nat.ble pc c.1 with
    | true =>
      rw [hb] at h
      have := sk_look_mem h
      exact ⟨⟨c, List.mem_cons_self, this.1⟩, this.2⟩
    | false =>
      rw [hb] at h
      obtain ⟨⟨c', h1, h2⟩, h3⟩ := sk_find_mem h
      exact ⟨⟨c', List.mem_cons_of_mem _ h1, h2⟩, h3⟩
theorem sk_dec {M : sk_M} (hM : sk_ok M) {pc len nxt : Nat} {pc0 : Nat} {ins : Instr} {aux : List Nat} (h : sk_find pc M.2.2.2.2 = some (pc0, ins, len, nxt, aux)) : decode M.2.1 pc = .ok (ins, len) ∧ nxt = pc + len ∧ sk_okA M.1 pc aux ins = true ∧ (sk_il ins = 0 ∨ sk_il ins = len) := by
  obtain ⟨⟨c, h1, h2⟩, h3⟩ := sk_find_mem h
  have := hM c h1 _ h2
  dsimp only at h3
  subst h3
  simp only [sk_okI, Bool.and_eq_true, Bool.or_eq_true, decide_eq_true_eq] at this
  exact ⟨this.2.1.1, Nat.eq_of_beq_eq_true this.2.1.2, this.2.2, this.1.imp Nat.eq_of_beq_eq_true Nat.eq_of_beq_eq_true⟩
theorem sk_w_get (E : sk_En) (G : List sk_Sh) (σ : sk_St) (k : Nat) : (sk_w E G σ)[k]? = (G[k]?).map (fun sh => (E.1 + k, sk_cell E σ k sh)) := by
  simp [sk_w, List.getElem?_mapIdx]
theorem sk_w_at {E : sk_En} {G : List sk_Sh} {σ : sk_St} {k : Nat} {sh : sk_Sh} (h : G[k]? = some sh) : (sk_w E G σ)[k]? = some (E.1 + k, sk_cell E σ k sh) := by
  rw [sk_w_get, h]; rfl
theorem sk_w_D (E : sk_En) (G : List sk_Sh) (σ : sk_St) : va_D (sk_A E) (sk_w E G σ) := by
  refine ⟨fun i j p q hi hj hpq => ?_, fun k q hk => ?_⟩
  · rw [sk_w_get, Option.map_eq_some_iff] at hi hj
    obtain ⟨a, -, rfl⟩ := hi
    obtain ⟨b, -, rfl⟩ := hj
    dsimp only at hpq
    omega
  · rw [sk_w_get, Option.map_eq_some_iff] at hk
    obtain ⟨a, -, rfl⟩ := hk
    exact Nat.le_add_right _ _
theorem sk_w_set {E : sk_En} {G : List sk_Sh} {σ σ' : sk_St} {k : Nat} {sh : sk_Sh} {x : va_E} (h : G[k]? = some sh) (hx : sk_cell E σ' k sh = x) (ho : ∀ (k' : Nat) (sh' : sk_Sh), k' ≠ k → sk_cell E σ' k' sh' = sk_cell E σ k' sh') : (sk_w E G σ).set k (E.1 + k, x) = sk_w E G σ' := by
  apply List.ext_getElem?
  intro i
  rw [List.getElem?_set, sk_w_get, sk_w_get]
  have hl : k < G.length := (List.getElem?_eq_some_iff.mp h).1
  by_cases hik : k = i
  · subst hik
    rw [if_pos rfl, h]
    simp [sk_w, hl, hx]
  · rw [if_neg hik]
    cases hg : G[i]? with
    | none => rfl
    | some sh' => simp [ho i sh' (fun e => hik e.symm)]
theorem sk_at_mem (E : sk_En) : ∀ (ls : List (Option sk_V)) (i k : Nat) (v : sk_V), ls[k]? = some (some v) → (i + k, sk_v E v) ∈ sk_lv E i ls
  | [], i, k, v, h => by simp at h
  | none :: r, i, 0, v, h => by simp at h
  | some w :: r, i, 0, v, h => by
    simp at h
    subst h
    exact List.mem_cons_self
  | none :: r, i, k + 1, v, h => by
    have := sk_at_mem E r (i + 1) k v (by simpa using h)
    rw [show i + (k + 1) = i + 1 + k by omega]
    exact this
  | some w :: r, i, k + 1, v, h => by
    have := sk_at_mem E r (i + 1) k v (by simpa using h)
    rw [show i + (k + 1) = i + 1 + k by omega]
    exact List.mem_cons_of_mem _ this
theorem sk_mem_at (E : sk_En) : ∀ (ls : List (Option sk_V)) (i : Nat) (q : Nat × Value), q ∈ sk_lv E i ls → ∃ (k : Nat) (v : sk_V), q = (i + k, sk_v E v) ∧ ls[k]? = some (some v)
  | [], i, q, h => by cases h
  | none :: r, i, q, h => by
    obtain ⟨k, v, h1, h2⟩ := sk_mem_at E r (i + 1) q h
    exact ⟨k + 1, v, by rw [h1, show i + 1 + k = i + (k + 1) by omega], by simpa using h2⟩
  | some w :: r, i, q, h => by
    rcases List.mem_cons.mp h with h | h
    · exact ⟨0, w, h, by simp⟩
    · obtain ⟨k, v, h1, h2⟩ := sk_mem_at E r (i + 1) q h
      exact ⟨k + 1, v, by rw [h1, show i + 1 + k = i + (k + 1) by omega], by simpa using h2⟩
theorem sk_lget {E : sk_En} {ar : Array Slot} {n : Nat} {ls : List (Option sk_V)} {k : Nat} {v : sk_V} (h : lv_has ar n (sk_lv E 0 ls)) (hk : ls[k]? = some (some v)) : ar[k]? = some (.val (sk_v E v)) := by
  have := h.2.2 _ (sk_at_mem E ls 0 k v hk)
  simpa using this
