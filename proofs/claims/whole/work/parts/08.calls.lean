/-! ===== calls ===== -/
def sk_sl : List sk_V → List (Option sk_V)
  | [] => []
  | v :: r => bif sk_is1 v then some v :: sk_sl r else some v :: none :: sk_sl r
def sk_pd : Nat → List (Option sk_V) → List (Option sk_V)
  | 0, _ => []
  | n + 1, [] => none :: sk_pd n []
  | n + 1, a :: r => a :: sk_pd n r
def sk_pop : Nat → List sk_V → List sk_V → Option (List sk_V × List sk_V)
  | 0, st, acc => some (acc, st)
  | _ + 1, [], _ => none
  | n + 1, v :: st, acc => sk_pop n st (v :: acc)
def sk_cs : List sk_V → Nat
  | [] => 0
  | v :: r => bif sk_is1 v then sk_cs r + 1 else sk_cs r + 2
theorem sk_pop_eq : ∀ (n : Nat) (st acc as rest : List sk_V), sk_pop n st acc = some (as, rest) → ∃ tk, as = tk.reverse ++ acc ∧ st = tk ++ rest ∧ tk.length = n
  | 0, st, acc, as, rest, h => by cases h; exact ⟨[], by simp, by simp, rfl⟩
  | n + 1, [], acc, as, rest, h => by cases h
  | n + 1, v :: st, acc, as, rest, h => by
    obtain ⟨tk, h1, h2, h3⟩ := sk_pop_eq n st (v :: acc) as rest h
    exact ⟨v :: tk, by simp [h1], by simp [h2], by simp [h3]⟩
theorem sk_pop_st {n : Nat} {st as rest : List sk_V} (h : sk_pop n st [] = some (as, rest)) : st = as.reverse ++ rest ∧ as.length = n := by
  obtain ⟨tk, h1, h2, h3⟩ := sk_pop_eq n st [] as rest h
  rw [List.append_nil] at h1
  subst h1
  exact ⟨by simpa using h2, by simpa using h3⟩
theorem sk_cat2 (E : sk_En) (v : sk_V) (h : sk_is1 v = false) : (sk_v E v).category = 2 := by
  match v with
  | .inl i => cases h
  | .inr (.inl x) => rfl
  | .inr (.inr none) => cases h
  | .inr (.inr (some k)) => cases h
theorem sk_cs_eq (E : sk_En) : ∀ st : List sk_V, ((st.map (sk_v E)).map fun v => v.category).sum = sk_cs st
  | [] => rfl
  | v :: r => by
    have := sk_cs_eq E r
    cases h : sk_is1 v with
    | true => simp only [List.map_cons, List.sum_cons, sk_cs, h, cond_true, sk_cat1 E v h, this]; omega
    | false => simp only [List.map_cons, List.sum_cons, sk_cs, h, cond_false, sk_cat2 E v h, this]; omega
theorem sk_sl_len (E : sk_En) : ∀ as : List sk_V, (lg_sl (as.map (sk_v E))).length = (sk_sl as).length
  | [] => rfl
  | v :: r => by
    have := sk_sl_len E r
    simp only [lg_sl] at this
    cases h : sk_is1 v with
    | true => simp [lg_sl, sk_sl, h, sk_cat1 E v h, ← this]
    | false => simp [lg_sl, sk_sl, h, sk_cat2 E v h, ← this]
theorem sk_pd_get : ∀ (n : Nat) (l : List (Option sk_V)) (k : Nat) (v : sk_V), (sk_pd n l)[k]? = some (some v) → l[k]? = some (some v)
  | 0, l, k, v, h => by simp [sk_pd] at h
  | n + 1, [], 0, v, h => by simp [sk_pd] at h
  | n + 1, [], k + 1, v, h => by
    simp only [sk_pd, List.getElem?_cons_succ] at h
    have := sk_pd_get n [] k v h
    simp at this
  | n + 1, a :: r, 0, v, h => by simpa [sk_pd] using h
  | n + 1, a :: r, k + 1, v, h => by
    simp only [sk_pd, List.getElem?_cons_succ] at h ⊢
    exact sk_pd_get n r k v h
theorem sk_sl_args (E : sk_En) : ∀ (as : List sk_V) (i k : Nat) (v : sk_V), (sk_sl as)[k]? = some (some v) → (i + k, sk_v E v) ∈ lv_args i (as.map (sk_v E))
  | [], i, k, v, h => by simp [sk_sl] at h
  | w :: r, i, k, v, h => by
    cases hw : sk_is1 w with
    | true =>
      simp only [sk_sl, hw, cond_true] at h
      simp only [List.map_cons, lv_args, sk_cat1 E w hw]
      match k, h with
      | 0, h => simp at h; subst h; exact List.mem_cons_self
      | k + 1, h =>
        have := sk_sl_args E r (i + 1) k v (by simpa using h)
        rw [show i + (k + 1) = i + 1 + k by omega]
        exact List.mem_cons_of_mem _ this
    | false =>
      simp only [sk_sl, hw, cond_false] at h
      simp only [List.map_cons, lv_args, sk_cat2 E w hw, if_true]
      match k, h with
      | 0, h => simp at h; subst h; exact List.mem_cons_self
      | 1, h => simp at h
      | k + 2, h =>
        have := sk_sl_args E r (i + 2) k v (by simpa using h)
        rw [show i + (k + 2) = i + 2 + k by omega]
        exact List.mem_cons_of_mem _ this
abbrev sk_en (n : Nat) (as : List sk_V) : List (Option sk_V) := sk_pd n (sk_sl as)
def sk_rm (d mc ms : Nat) : Room := { frames := d, cells := mc, slots := ms, locals := 41 * d }
def sk_Pc (E : sk_En) (as : List sk_V) (G : List sk_Sh) (σ : sk_St) : Array Value → State → Prop :=
  va_Pc (as.map (sk_v E)) (fun U => sk_cx E U ∧ va_P E.2.1 vwCl (sk_w E G σ) U.heap ∧ U.heap.size ≤ E.1 + G.length ∧ G.length ≤ 1000)
def sk_Qc (E : sk_En) (mc : Nat) (Q : Option sk_V → List sk_Sh → sk_St → Prop) : Array Value → State → Outcome → State → Prop := fun _ st o t =>
  ∃ (v : Option sk_V) (G' : List sk_Sh) (σ' : sk_St), Q v G' σ' ∧ o = .returned (v.map (sk_v E)) ∧ va_P E.2.1 vwCl (sk_w E G' σ') t.heap ∧ G'.length ≤ 1000 ∧ st.heap.size + mc ≤ E.1 + G'.length ∧ va_F (sk_A E) st t
/-- a method that may be called: n arguments -/
def sk_lC (n : Nat) (M : sk_M) : Prop := sk_ok M ∧ Cond.code M.1 M.2.1 M.2.2.1 M.2.2.2.1 ∈ sk_gw ∧ Cond.initialized M.1.cls ∈ sk_gw ∧ plainName M.1.cls = true ∧ M.2.2.1 ≤ 22 ∧ (M.1.cls ≠ "java/lang/invoke/MethodHandle" ∧ M.1.cls ≠ "java/lang/invoke/VarHandle" ∧ (parseMethodDescriptor M.1.desc).map (fun d => d.parameters.length) = some n)
theorem sk_gG {M : sk_M} (h : Cond.code M.1 M.2.1 M.2.2.1 M.2.2.2.1 ∈ sk_gw) : GoodIn sk_gw (Cond.code M.1 M.2.1 M.2.2.1 M.2.2.2.1 :: sk_gw) := by
  intro w hw
  have hw : w ∈ sk_gw := by
    rcases List.mem_cons.mp hw with rfl | hw
    · exact h
    · exact hw
  exact ⟨hw, good_of_word (List.mem_filter.mp hw).2⟩
theorem sk_met {l : Launch} {E : sk_En} {d mc ms n : Nat} {M : sk_M} {as : List sk_V} {G : List sk_Sh} {σ : sk_St} {Q : Option sk_V → List sk_Sh → sk_St → Prop} (hC : sk_lC n M) (hlen : (sk_sl as).length ≤ M.2.2.1) (h : AW l E d mc ms M 0 (sk_en M.2.2.1 as) [] G σ Q) :
    Met l M.1 (Cond.code M.1 M.2.1 M.2.2.1 M.2.2.2.1 :: sk_gw) (sk_rm d mc ms) (sk_Pc E as G σ) (sk_Qc E mc Q) mc ms (sk_A E) := by
  obtain ⟨hM, hcode, -, hpl, -, -⟩ := hC
  refine Met.ofW (cc := M.2.1) (maxL := M.2.2.1) (ret := M.2.2.2.1) hpl rfl ?_
  intro p e s m args below meth c s₁ B hml hv
  obtain ⟨rfl, hcx, hP, hz, hG⟩ := hv
  have hts := atoms_spec (ws := Cond.code M.1 M.2.1 M.2.2.1 M.2.2.2.1 :: sk_gw) B.pre
  have hl := lv_entry (as.map (sk_v E)) (n := M.2.2.1) (by rw [sk_sl_len]; exact hlen)
  rw [lg_entry_eq]
  generalize (lg_sl (as.map (sk_v E)) ++ List.replicate (M.2.2.1 - (lg_sl (as.map (sk_v E))).length) Slot.unset).toArray = ar at hl ⊢
  have hlocks := B.notSynchronized
  refine h hM p e _ s m _ below meth c s.heap [] 0 0 _ ar ⟨B.exec, B.bytes, B.returns, hml, findClass_of_methodNamed B.named, hlocks, (name_of_methodNamed B.named B.method).1, fun w hw => hts w (List.mem_cons_of_mem _ hw), hcx, Nat.le_refl _, Nat.le_refl _⟩ ⟨hP, hG, va_S.rf⟩ ⟨hl.1, hl.2.1, fun q hq => ?_⟩ ⟨by show 0 + mc ≤ mc; omega, by omega⟩ (by show 0 + ms ≤ ms; omega) ?_
  · obtain ⟨k, v, rfl, hk⟩ := sk_mem_at E _ 0 q hq
    exact hl.2.2 _ (sk_sl_args E as 0 k v (sk_pd_get _ _ k v hk))
  · intro v G' σ' pc' ar' H' locs' slots' hQ hR hret hz' hs'
    have hs2 : slots' ≤ ms := hs'
    refine W.widen (k := mc) (n := ms) (by omega) hs2 ?_
    have hq : ∀ t : State, t.heap = H' → s.WarmedH t.vm → sk_Qc E mc Q (as.map (sk_v E)).toArray s (.returned (v.map (sk_v E))) t := fun t ht _ =>
      ⟨v, G', σ', hQ, rfl, by rw [ht]; exact hR.1, hR.2.1, by omega, hR.2.2.F ht⟩
    match v, hret, hq with
    | none, hret, hq => exact W.vret B.exec B.bytes (B.returns.trans hret.2) hq hR.2.2.2.2 hret.1
    | some (.inl i), hret, hq =>
      obtain ⟨h1, ty, h2, h3⟩ := hret
      exact W.zret B.exec B.bytes (B.returns.trans h2) h3 hq hR.2.2.2.2 h1
    | some (.inr (.inl x)), hret, hq => exact W.lret B.exec B.bytes (B.returns.trans hret.2) hq hR.2.2.2.2 hret.1
    | some (.inr (.inr r)), hret, hq => exact False.elim hret
theorem sk_Pc_blind (E : sk_En) (as : List sk_V) (G : List sk_Sh) (σ : sk_St) : FrameBlind (sk_Pc E as G σ) := fun a U g mk q => ⟨q.1, sk_cx_call g mk a q.2.1, q.2.2.1, q.2.2.2.1, q.2.2.2.2⟩
/-- behind a call -/
theorem sk_behind {l : Launch} {E : sk_En} {d mc ms mc' ms' : Nat} {M : sk_M} {pc : Nat} {ls : List (Option sk_V)} {rest : List sk_V} {Q : Option sk_V → List sk_Sh → sk_St → Prop} {p : Program} {e : Env} {R : Room} {s : State} {m : MethodId} {args : Array Value} {below : List Frame} {meth : Method} {c : Code} {H : Heap} {locs : List Loc} {cells slots : Nat} {Qf : State → Prop} {ar : Array Slot} {st0 : List Value} {a : Array Value}
    (hr : va_Run p l e R s m args below meth c H locs cells slots mc' ms' (F0 m pc ar st0) (rest.map (sk_v E)) (sk_Qc E mc' (fun v G' σ' => AW l E d mc ms M (pc + 3) ls (v.toList ++ rest) G' σ' Q) a) (sk_A E))
    (hM : sk_ok M) (hF : sk_F E d M p R s m args meth c) (hS : va_S (sk_A E) s.heap H locs) (hlow : s.heap.size + cells ≤ H.size) (hl : lv_has ar M.2.2.1 (sk_lv E 0 ls)) (hc : cells + (mc' + mc) ≤ R.cells) (hs : slots + (ms' + ms) ≤ R.slots)
    (hfin : ∀ (v : Option sk_V) (G' : List sk_Sh) (σ' : sk_St) (pc' : Nat) (ar' : Array Slot) (H' : Heap) (locs' : List Loc) (slots' : Nat), Q v G' σ' → sk_R E G' σ' s H' locs' → sk_ret M pc' v → s.heap.size + (cells + (mc' + mc)) ≤ E.1 + G'.length → slots' ≤ R.slots →
      W p l e R s m args below meth c H' locs' (cells + (mc' + mc)) slots' Qf (F0 m pc' ar' ((v.map (sk_v E)).toList))) :
    W p l e R s m args below meth c H locs cells slots Qf (F0 m pc ar st0) := by
  intro T hT X
  obtain ⟨v, st₀, t, T', Lc, h0, X', hL, e1, e2, ⟨w, G', σ', hQ, ho, hP, hG, hz2, hFr⟩, hgo⟩ := hr T hT X
  have hv : v = w.map (sk_v E) := by cases ho; rfl
  subst hv
  obtain ⟨f1, f2⟩ := hFr
  rw [h0] at f1 f2 hz2
  have hS1 : va_S (sk_A E) s.heap T'.heap (locs ++ Lc) := by
    refine ⟨Nat.le_trans hS.1 (by rw [e1]; exact f1), fun q h1 h2 => ?_, fun q hq => ?_⟩
    · rw [e1, f2 q (Nat.lt_of_lt_of_le h1 hS.1) h2]
      exact hS.2.1 q h1 h2
    · rcases List.mem_append.mp hq with h | h
      · exact hS.2.2 q h
      · exact hL q h
  have k1 := hQ hM p e R s m args below meth c T'.heap (locs ++ Lc) (cells + mc') (slots + ms') Qf ar hF ⟨by rw [e1]; exact hP, hG, hS1⟩ hl ⟨by omega, by omega⟩ (by omega) (fun v G' σ' pc' ar' H' locs' slots' q1 q2 q3 q4 q5 => by
    have := hfin v G' σ' pc' ar' H' locs' slots' q1 q2 q3 (by omega) q5
    rw [show cells + mc' + mc = cells + (mc' + mc) by omega]
    exact this)
  obtain ⟨t2, a1, b1⟩ := k1 T' rfl X'
  refine ⟨t2, hgo t2 ?_, b1⟩
  have he : (w.toList ++ rest).map (sk_v E) = (w.map (sk_v E)).toList ++ rest.map (sk_v E) := by
    cases w <;> simp
  rw [he] at a1
  exact a1
theorem sk_low {E : sk_En} {G : List sk_Sh} {σ : sk_St} {H : Heap} (hP : va_P E.2.1 vwCl (sk_w E G σ) H) (hE : E.1 ≤ H.size) : E.1 + G.length ≤ H.size := by
  by_cases h : G.length = 0
  · omega
  · have hk : G.length - 1 < G.length := by omega
    have := (hP (G.length - 1) _ (sk_w_at (List.getElem?_eq_getElem hk))).lt
    dsimp only at this
    omega
section SKC
variable {l : Launch} {E : sk_En} {d mc ms mc' ms' mc0 ms0 : Nat} {M M' : sk_M} {pc pc0 len nxt n idx d' : Nat} {aux : List Nat} {ls : List (Option sk_V)} {st as rest : List sk_V} {G : List sk_Sh} {σ : sk_St} {Q : Option sk_V → List sk_Sh → sk_St → Prop}
def sk_lV (own : String) (idx : Nat) (M' : sk_M) : Prop := Cond.methodLink own idx M'.1 ∈ sk_gw ∧ Cond.instanceMethod M'.1 ∈ sk_gw ∧ Cond.selects M'.1.cls M'.1 M'.1 ∈ sk_gw
def sk_lS (own : String) (idx : Nat) (M' : sk_M) : Prop := Cond.methodLink own idx M'.1 ∈ sk_gw ∧ Cond.static M'.1 ∈ sk_gw
def sk_lI (own : String) (idx : Nat) (M' : sk_M) : Prop := Cond.methodLink own idx M'.1 ∈ sk_gw ∧ Cond.instanceMethod M'.1 ∈ sk_gw ∧ M'.1.name = "<init>" ∧ M'.2.2.2.1 = none
def sk_lSN (own : String) (idx : Nat) (M' : sk_M) : Prop := Cond.methodLinkNest own idx M'.1 "SealKeeper" ∈ sk_nw ∧ Cond.static M'.1 ∈ sk_gw
def sk_lIN (own : String) (idx : Nat) (M' : sk_M) : Prop := Cond.methodLinkNest own idx M'.1 "SealKeeper" ∈ sk_nw ∧ Cond.instanceMethod M'.1 ∈ sk_gw ∧ M'.1.name = "<init>" ∧ M'.2.2.2.1 = none
theorem AW_callV {k ci : Nat} (h : sk_find pc M.2.2.2.2 = some (pc0, (.invokevirtual idx), len, nxt, aux)) (hL : sk_lV M.1.cls idx M') (hC : sk_lC n M') (hp : sk_pop (n + 1) st [] = some (vr k :: as, rest)) (hG : G[k]? = some (.inl ci)) (hci : (sk_C ci).1 = M'.1.cls) (hci2 : Nat.blt ci 11 = true) (hW : Nat.ble (sk_cs rest) 8 = true) (hen : Nat.ble (sk_sl (vr k :: as)).length M'.2.2.1 = true) (hd : d' + 1 ≤ d) (hmc : mc0 = mc' + mc) (hms : ms0 = ms' + ms)
    (kk : AW l E d' mc' ms' M' 0 (sk_en M'.2.2.1 (vr k :: as)) [] G σ (fun v G' σ' => AW l E d mc ms M nxt ls (v.toList ++ rest) G' σ' Q)) : AW l E d mc0 ms0 M pc ls st G σ Q := by
  subst hmc; subst hms
  intro hM p e R s m args below meth c H locs cells slots Qf ar hF hR hl hc hs hfin
  obtain ⟨hdc, rfl, hA, hlen⟩ := sk_dec hM h
  obtain rfl : 3 = len := hlen.resolve_left (by simp [sk_il])
  obtain ⟨rfl, has⟩ := sk_pop_st hp
  have has : as.length = n := by simpa using has
  have hmet := sk_met hC (Nat.le_of_ble_eq_true hen) kk
  have hts := hF.2.2.2.2.2.2.2.1
  intro T hT X
  have hsz := X.heapSize
  have hw : vwCl[ci]? = some (sk_C ci) := sk_cl (by simpa [Nat.blt_eq] using hci2)
  obtain ⟨cell, c1, c2, c3⟩ := va_recv hF.2.2.2.2.2.2.2.2.1.1 hR.1 hw (sk_w_at hG)
  refine sk_behind (d := d) (rest := rest) (va_runV (cc := M.2.1) (nL := M.2.2.1) (Ts := sk_gw) (own := M.1.cls) (C := M'.1.cls) (index := idx) (bytes := M'.2.1) (maxL := M'.2.2.1) (ret := M'.2.2.2.1) (n := n) (b := E.1 + k) (As := as.map (sk_v E)) (rest := rest.map (sk_v E)) ⟨hF.1, hF.2.1, hF.2.2.2.1, hF.2.2.2.2.1, hts⟩ hmet ?_ ⟨sk_Pc_blind E _ _ _, ⟨cell, c1, c2, by rw [← hci]; exact c3⟩, fun U hU hWm => ⟨?_, sk_cx_move hF.2.2.2.2.2.2.2.2.1 hWm (by rw [hU]; exact hR.2.2), by rw [hU]; exact hR.1, ?_, hR.2.1⟩⟩ rfl (by simpa using has) hl.1 ?_ ?_ hdc ⟨by omega, by omega⟩) hM hF hR.2.2 ?_ hl hc.1 hs hfin T hT X
  · refine ⟨callB_of n hts (sk_gG hC.2.1) rfl rfl rfl (hts _ hC.2.2.1) (hts _ hL.1) hC.2.2.2.2.2 ⟨?_, ?_⟩, hts _ hL.2.1, hts _ hL.2.2⟩
    · have := hF.2.2.2.2.2.2.2.2.2.1
      show d' + 1 ≤ R.frames
      omega
    · have := hF.2.2.2.2.2.2.2.2.2.2
      have := hC.2.2.2.2.1
      show 8 + (M'.2.2.1 + 11) + 41 * d' ≤ R.locals
      omega
  · rw [List.map_cons, sk_vr hG hR.2.1]
  · rw [hU, ← hT]; omega
  · show ((vr k :: as).reverse ++ rest).map (sk_v E) = _
    simp only [List.reverse_cons, List.map_append, List.map_reverse, List.map_cons, List.map_nil, List.append_assoc, List.singleton_append, List.cons_append, List.nil_append]
    rw [sk_vr hG hR.2.1]
  · show 2 * 0 + ((rest.map (sk_v E)).map fun v => v.category).sum ≤ 8
    rw [sk_cs_eq]
    have := Nat.le_of_ble_eq_true hW
    omega
  · have := sk_low hR.1 (Nat.le_trans hF.2.2.2.2.2.2.2.2.1.2.2.2.2.2.2 hR.2.2.1)
    omega
theorem AW_callS (h : sk_find pc M.2.2.2.2 = some (pc0, (.invokestatic idx), len, nxt, aux)) (hL : sk_lS M.1.cls idx M') (hC : sk_lC n M') (hp : sk_pop n st [] = some (as, rest)) (hW : Nat.ble (sk_cs rest) 8 = true) (hen : Nat.ble (sk_sl as).length M'.2.2.1 = true) (hd : d' + 1 ≤ d) (hmc : mc0 = mc' + mc) (hms : ms0 = ms' + ms)
    (kk : AW l E d' mc' ms' M' 0 (sk_en M'.2.2.1 as) [] G σ (fun v G' σ' => AW l E d mc ms M nxt ls (v.toList ++ rest) G' σ' Q)) : AW l E d mc0 ms0 M pc ls st G σ Q := by
  subst hmc; subst hms
  intro hM p e R s m args below meth c H locs cells slots Qf ar hF hR hl hc hs hfin
  obtain ⟨hdc, rfl, hA, hlen⟩ := sk_dec hM h
  obtain rfl : 3 = len := hlen.resolve_left (by simp [sk_il])
  obtain ⟨rfl, has⟩ := sk_pop_st hp
  have hmet := sk_met hC (Nat.le_of_ble_eq_true hen) kk
  have hts := hF.2.2.2.2.2.2.2.1
  intro T hT X
  have hsz := X.heapSize
  refine sk_behind (d := d) (rest := rest) (va_runS (cc := M.2.1) (nL := M.2.2.1) (Ts := sk_gw) (own := M.1.cls) (index := idx) (bytes := M'.2.1) (maxL := M'.2.2.1) (ret := M'.2.2.2.1) (n := n) (As := as.map (sk_v E)) (rest := rest.map (sk_v E)) ⟨hF.1, hF.2.1, hF.2.2.2.1, hF.2.2.2.2.1, hts⟩ hmet ?_ ⟨sk_Pc_blind E _ _ _, fun U hU hWm => ⟨rfl, sk_cx_move hF.2.2.2.2.2.2.2.2.1 hWm (by rw [hU]; exact hR.2.2), by rw [hU]; exact hR.1, ?_, hR.2.1⟩⟩ rfl (by simpa using has) hl.1 ?_ ?_ hdc ⟨by omega, by omega⟩) hM hF hR.2.2 ?_ hl hc.1 hs hfin T hT X
  · refine ⟨callB_of n hts (sk_gG hC.2.1) rfl rfl rfl (hts _ hC.2.2.1) (hts _ hL.1) hC.2.2.2.2.2 ⟨?_, ?_⟩, hts _ hL.2⟩
    · have := hF.2.2.2.2.2.2.2.2.2.1
      show d' + 1 ≤ R.frames
      omega
    · have := hF.2.2.2.2.2.2.2.2.2.2
      have := hC.2.2.2.2.1
      show 8 + (M'.2.2.1 + 11) + 41 * d' ≤ R.locals
      omega
  · rw [hU, ← hT]; omega
  · show (as.reverse ++ rest).map (sk_v E) = _
    simp only [List.map_append, List.map_reverse]
  · show 2 * 0 + ((rest.map (sk_v E)).map fun v => v.category).sum ≤ 8
    rw [sk_cs_eq]
    have := Nat.le_of_ble_eq_true hW
    omega
  · have := sk_low hR.1 (Nat.le_trans hF.2.2.2.2.2.2.2.2.1.2.2.2.2.2.2 hR.2.2.1)
    omega
theorem AW_callSN (h : sk_find pc M.2.2.2.2 = some (pc0, (.invokestatic idx), len, nxt, aux)) (hL : sk_lSN M.1.cls idx M') (hC : sk_lC n M') (hp : sk_pop n st [] = some (as, rest)) (hW : Nat.ble (sk_cs rest) 8 = true) (hen : Nat.ble (sk_sl as).length M'.2.2.1 = true) (hd : d' + 1 ≤ d) (hmc : mc0 = mc' + mc) (hms : ms0 = ms' + ms)
    (kk : AW l E d' mc' ms' M' 0 (sk_en M'.2.2.1 as) [] G σ (fun v G' σ' => AW l E d mc ms M nxt ls (v.toList ++ rest) G' σ' Q)) : AW l E d mc0 ms0 M pc ls st G σ Q := by
  subst hmc; subst hms
  intro hM p e R s m args below meth c H locs cells slots Qf ar hF hR hl hc hs hfin
  obtain ⟨hdc, rfl, hA, hlen⟩ := sk_dec hM h
  obtain rfl : 3 = len := hlen.resolve_left (by simp [sk_il])
  obtain ⟨rfl, has⟩ := sk_pop_st hp
  have hmet := sk_met hC (Nat.le_of_ble_eq_true hen) kk
  have hts := hF.2.2.2.2.2.2.2.1
  intro T hT X
  have hsz := X.heapSize
  refine sk_behind (d := d) (rest := rest) (va_runSN (cc := M.2.1) (nL := M.2.2.1) (Ts := sk_gw) (own := M.1.cls) (host := "SealKeeper") (index := idx) (bytes := M'.2.1) (maxL := M'.2.2.1) (ret := M'.2.2.2.1) (n := n) (As := as.map (sk_v E)) (rest := rest.map (sk_v E)) ⟨hF.1, hF.2.1, hF.2.2.2.1, hF.2.2.2.2.1, hts⟩ hmet ?_ ⟨sk_Pc_blind E _ _ _, fun U hU hWm => ⟨rfl, sk_cx_move hF.2.2.2.2.2.2.2.2.1 hWm (by rw [hU]; exact hR.2.2), by rw [hU]; exact hR.1, ?_, hR.2.1⟩⟩ rfl (by simpa using has) hl.1 ?_ ?_ hdc ⟨by omega, by omega⟩) hM hF hR.2.2 ?_ hl hc.1 hs hfin T hT X
  · refine ⟨va_cnB n hts (sk_gG hC.2.1) rfl rfl rfl (hF.2.2.2.2.2.2.2.2.1.2.1 _ hL.1) (hts _ hC.2.2.1) hC.2.2.2.2.2 ⟨?_, ?_⟩, hts _ hL.2, trivial⟩
    · have := hF.2.2.2.2.2.2.2.2.2.1
      show d' + 1 ≤ R.frames
      omega
    · have := hF.2.2.2.2.2.2.2.2.2.2
      have := hC.2.2.2.2.1
      show 8 + (M'.2.2.1 + 11) + 41 * d' ≤ R.locals
      omega
  · rw [hU, ← hT]; omega
  · show (as.reverse ++ rest).map (sk_v E) = _
    simp only [List.map_append, List.map_reverse]
  · show 2 * 0 + ((rest.map (sk_v E)).map fun v => v.category).sum ≤ 8
    rw [sk_cs_eq]
    have := Nat.le_of_ble_eq_true hW
    omega
  · have := sk_low hR.1 (Nat.le_trans hF.2.2.2.2.2.2.2.2.1.2.2.2.2.2.2 hR.2.2.1)
    omega
theorem AW_callI {k : Nat} {sh : sk_Sh} (h : sk_find pc M.2.2.2.2 = some (pc0, (.invokespecial idx), len, nxt, aux)) (hL : sk_lI M.1.cls idx M') (hC : sk_lC n M') (hp : sk_pop (n + 1) st [] = some (vr k :: as, rest)) (hG : G[k]? = some sh) (hW : Nat.ble (sk_cs rest) 8 = true) (hen : Nat.ble (sk_sl (vr k :: as)).length M'.2.2.1 = true) (hd : d' + 1 ≤ d) (hmc : mc0 = mc' + mc) (hms : ms0 = ms' + ms)
    (kk : AW l E d' mc' ms' M' 0 (sk_en M'.2.2.1 (vr k :: as)) [] G σ (fun v G' σ' => AW l E d mc ms M nxt ls (v.toList ++ rest) G' σ' Q)) : AW l E d mc0 ms0 M pc ls st G σ Q := by
  subst hmc; subst hms
  intro hM p e R s m args below meth c H locs cells slots Qf ar hF hR hl hc hs hfin
  obtain ⟨hdc, rfl, hA, hlen⟩ := sk_dec hM h
  obtain rfl : 3 = len := hlen.resolve_left (by simp [sk_il])
  obtain ⟨rfl, has⟩ := sk_pop_st hp
  have has : as.length = n := by simpa using has
  have hmet := sk_met hC (Nat.le_of_ble_eq_true hen) kk
  rw [hL.2.2.2] at hmet
  have hts := hF.2.2.2.2.2.2.2.1
  intro T hT X
  have hsz := X.heapSize
  refine sk_behind (d := d) (rest := rest) (va_runI (cc := M.2.1) (nL := M.2.2.1) (Ts := sk_gw) (own := M.1.cls) (index := idx) (bytes := M'.2.1) (maxL := M'.2.2.1) (n := n) (b := E.1 + k) (As := as.map (sk_v E)) (rest := rest.map (sk_v E)) ⟨hF.1, hF.2.1, hF.2.2.2.1, hF.2.2.2.2.1, hts⟩ hmet ?_ ⟨sk_Pc_blind E _ _ _, fun U hU hWm => ⟨?_, sk_cx_move hF.2.2.2.2.2.2.2.2.1 hWm (by rw [hU]; exact hR.2.2), by rw [hU]; exact hR.1, ?_, hR.2.1⟩⟩ rfl (by simpa using has) hl.1 ?_ ?_ hdc ⟨by omega, by omega⟩) hM hF hR.2.2 ?_ hl hc.1 hs hfin T hT X
  · refine ⟨callB_of n hts (hL.2.2.2 ▸ sk_gG hC.2.1) rfl rfl rfl (hts _ hC.2.2.1) (hts _ hL.1) hC.2.2.2.2.2 ⟨?_, ?_⟩, hL.2.2.1, hts _ hL.2.1⟩
    · have := hF.2.2.2.2.2.2.2.2.2.1
      show d' + 1 ≤ R.frames
      omega
    · have := hF.2.2.2.2.2.2.2.2.2.2
      have := hC.2.2.2.2.1
      show 8 + (M'.2.2.1 + 11) + 41 * d' ≤ R.locals
      omega
  · rw [List.map_cons, sk_vr hG hR.2.1]
  · rw [hU, ← hT]; omega
  · show ((vr k :: as).reverse ++ rest).map (sk_v E) = _
    simp only [List.reverse_cons, List.map_append, List.map_reverse, List.map_cons, List.map_nil, List.append_assoc, List.singleton_append, List.cons_append, List.nil_append]
    rw [sk_vr hG hR.2.1]
  · show 2 * 0 + ((rest.map (sk_v E)).map fun v => v.category).sum ≤ 8
    rw [sk_cs_eq]
    have := Nat.le_of_ble_eq_true hW
    omega
  · have := sk_low hR.1 (Nat.le_trans hF.2.2.2.2.2.2.2.2.1.2.2.2.2.2.2 hR.2.2.1)
    omega
theorem AW_callIN {k : Nat} {sh : sk_Sh} (h : sk_find pc M.2.2.2.2 = some (pc0, (.invokespecial idx), len, nxt, aux)) (hL : sk_lIN M.1.cls idx M') (hC : sk_lC n M') (hp : sk_pop (n + 1) st [] = some (vr k :: as, rest)) (hG : G[k]? = some sh) (hW : Nat.ble (sk_cs rest) 8 = true) (hen : Nat.ble (sk_sl (vr k :: as)).length M'.2.2.1 = true) (hd : d' + 1 ≤ d) (hmc : mc0 = mc' + mc) (hms : ms0 = ms' + ms)
    (kk : AW l E d' mc' ms' M' 0 (sk_en M'.2.2.1 (vr k :: as)) [] G σ (fun v G' σ' => AW l E d mc ms M nxt ls (v.toList ++ rest) G' σ' Q)) : AW l E d mc0 ms0 M pc ls st G σ Q := by
  subst hmc; subst hms
  intro hM p e R s m args below meth c H locs cells slots Qf ar hF hR hl hc hs hfin
  obtain ⟨hdc, rfl, hA, hlen⟩ := sk_dec hM h
  obtain rfl : 3 = len := hlen.resolve_left (by simp [sk_il])
  obtain ⟨rfl, has⟩ := sk_pop_st hp
  have has : as.length = n := by simpa using has
  have hmet := sk_met hC (Nat.le_of_ble_eq_true hen) kk
  rw [hL.2.2.2] at hmet
  have hts := hF.2.2.2.2.2.2.2.1
  intro T hT X
  have hsz := X.heapSize
  refine sk_behind (d := d) (rest := rest) (va_runIN (cc := M.2.1) (nL := M.2.2.1) (Ts := sk_gw) (own := M.1.cls) (host := "SealKeeper") (index := idx) (bytes := M'.2.1) (maxL := M'.2.2.1) (n := n) (b := E.1 + k) (As := as.map (sk_v E)) (rest := rest.map (sk_v E)) ⟨hF.1, hF.2.1, hF.2.2.2.1, hF.2.2.2.2.1, hts⟩ hmet ?_ ⟨sk_Pc_blind E _ _ _, fun U hU hWm => ⟨?_, sk_cx_move hF.2.2.2.2.2.2.2.2.1 hWm (by rw [hU]; exact hR.2.2), by rw [hU]; exact hR.1, ?_, hR.2.1⟩⟩ rfl (by simpa using has) hl.1 ?_ ?_ hdc ⟨by omega, by omega⟩) hM hF hR.2.2 ?_ hl hc.1 hs hfin T hT X
  · refine ⟨va_cnB n hts (hL.2.2.2 ▸ sk_gG hC.2.1) rfl rfl rfl (hF.2.2.2.2.2.2.2.2.1.2.1 _ hL.1) (hts _ hC.2.2.1) hC.2.2.2.2.2 ⟨?_, ?_⟩, hL.2.2.1, hts _ hL.2.1⟩
    · have := hF.2.2.2.2.2.2.2.2.2.1
      show d' + 1 ≤ R.frames
      omega
    · have := hF.2.2.2.2.2.2.2.2.2.2
      have := hC.2.2.2.2.1
      show 8 + (M'.2.2.1 + 11) + 41 * d' ≤ R.locals
      omega
  · rw [List.map_cons, sk_vr hG hR.2.1]
  · rw [hU, ← hT]; omega
  · show ((vr k :: as).reverse ++ rest).map (sk_v E) = _
    simp only [List.reverse_cons, List.map_append, List.map_reverse, List.map_cons, List.map_nil, List.append_assoc, List.singleton_append, List.cons_append, List.nil_append]
    rw [sk_vr hG hR.2.1]
  · show 2 * 0 + ((rest.map (sk_v E)).map fun v => v.category).sum ≤ 8
    rw [sk_cs_eq]
    have := Nat.le_of_ble_eq_true hW
    omega
  · have := sk_low hR.1 (Nat.le_trans hF.2.2.2.2.2.2.2.2.1.2.2.2.2.2.2 hR.2.2.1)
    omega
end SKC
