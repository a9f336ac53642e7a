/-! ===== stores into locals ===== -/
def sk_k1 : Option sk_V → Option sk_V
  | some (.inr (.inl _)) => none
  | a => a
def sk_ls : List (Option sk_V) → Nat → sk_V → List (Option sk_V)
  | [], _, _ => []
  | _ :: r, 0, v => some v :: r
  | a :: r, 1, v => sk_k1 a :: sk_ls r 0 v
  | a :: r, n + 2, v => a :: sk_ls r (n + 1) v
def sk_lsL : List (Option sk_V) → Nat → sk_V → List (Option sk_V)
  | [], _, _ => []
  | [_], 0, v => [some v]
  | _ :: _ :: r, 0, v => some v :: none :: r
  | a :: r, 1, v => sk_k1 a :: sk_lsL r 0 v
  | a :: r, n + 2, v => a :: sk_lsL r (n + 1) v
theorem sk_k1_e {a : Option sk_V} {w : sk_V} (h : sk_k1 a = some w) : a = some w ∧ sk_is1 w = true := by
  match a with
  | none => cases h
  | some (.inl i) => cases h; exact ⟨rfl, rfl⟩
  | some (.inr (.inl x)) => cases h
  | some (.inr (.inr r)) => cases h; exact ⟨rfl, rfl⟩
theorem sk_ls_get : ∀ (ls : List (Option sk_V)) (i : Nat) (v : sk_V) (k : Nat) (w : sk_V), (sk_ls ls i v)[k]? = some (some w) → (k = i ∧ w = v) ∨ (k ≠ i ∧ ls[k]? = some (some w) ∧ (k + 1 = i → sk_is1 w = true))
  | [], i, v, k, w, h => by simp [sk_ls] at h
  | a :: r, 0, v, 0, w, h => by simp [sk_ls] at h; exact Or.inl ⟨rfl, h.symm⟩
  | a :: r, 0, v, k + 1, w, h => by simp [sk_ls] at h; exact Or.inr ⟨by omega, by simpa using h, fun e => by omega⟩
  | a :: r, 1, v, 0, w, h => by
    simp [sk_ls] at h
    have := sk_k1_e h
    exact Or.inr ⟨by omega, by simp [this.1], fun _ => this.2⟩
  | a :: r, 1, v, k + 1, w, h => by
    simp only [sk_ls, List.getElem?_cons_succ] at h
    rcases sk_ls_get r 0 v k w h with ⟨h1, h2⟩ | ⟨h1, h2, h3⟩
    · exact Or.inl ⟨by omega, h2⟩
    · exact Or.inr ⟨by omega, by simpa using h2, fun e => by omega⟩
  | a :: r, n + 2, v, 0, w, h => by
    simp [sk_ls] at h
    exact Or.inr ⟨by omega, by simp [h], fun e => by omega⟩
  | a :: r, n + 2, v, k + 1, w, h => by
    simp only [sk_ls, List.getElem?_cons_succ] at h
    rcases sk_ls_get r (n + 1) v k w h with ⟨h1, h2⟩ | ⟨h1, h2, h3⟩
    · exact Or.inl ⟨by omega, h2⟩
    · exact Or.inr ⟨by omega, by simpa using h2, fun e => h3 (by omega)⟩
theorem sk_lsL_get : ∀ (ls : List (Option sk_V)) (i : Nat) (v : sk_V) (k : Nat) (w : sk_V), (sk_lsL ls i v)[k]? = some (some w) → (k = i ∧ w = v) ∨ (k ≠ i ∧ k ≠ i + 1 ∧ ls[k]? = some (some w) ∧ (k + 1 = i → sk_is1 w = true))
  | [], i, v, k, w, h => by simp [sk_lsL] at h
  | [a], 0, v, 0, w, h => by simp [sk_lsL] at h; exact Or.inl ⟨rfl, h.symm⟩
  | [a], 0, v, k + 1, w, h => by simp [sk_lsL] at h
  | a :: b :: r, 0, v, 0, w, h => by simp [sk_lsL] at h; exact Or.inl ⟨rfl, h.symm⟩
  | a :: b :: r, 0, v, 1, w, h => by simp [sk_lsL] at h
  | a :: b :: r, 0, v, k + 2, w, h => by simp [sk_lsL] at h; exact Or.inr ⟨by omega, by omega, by simpa using h, fun e => by omega⟩
  | a :: r, 1, v, 0, w, h => by
    simp [sk_lsL] at h
    have := sk_k1_e h
    exact Or.inr ⟨by omega, by omega, by simp [this.1], fun _ => this.2⟩
  | a :: r, 1, v, k + 1, w, h => by
    simp only [sk_lsL, List.getElem?_cons_succ] at h
    rcases sk_lsL_get r 0 v k w h with ⟨h1, h2⟩ | ⟨h1, h0, h2, h3⟩
    · exact Or.inl ⟨by omega, h2⟩
    · exact Or.inr ⟨by omega, by omega, by simpa using h2, fun e => by omega⟩
  | a :: r, n + 2, v, 0, w, h => by
    simp [sk_lsL] at h
    exact Or.inr ⟨by omega, by omega, by simp [h], fun e => by omega⟩
  | a :: r, n + 2, v, k + 1, w, h => by
    simp only [sk_lsL, List.getElem?_cons_succ] at h
    rcases sk_lsL_get r (n + 1) v k w h with ⟨h1, h2⟩ | ⟨h1, h0, h2, h3⟩
    · exact Or.inl ⟨by omega, h2⟩
    · exact Or.inr ⟨by omega, by omega, by simpa using h2, fun e => h3 (by omega)⟩
theorem sk_ls_has {E : sk_En} {ar : Array Slot} {n i : Nat} {ls : List (Option sk_V)} {v : sk_V} (h : lv_has ar n ((i, sk_v E v) :: (sk_lv E 0 ls).filter (fun q => !(q.1 == i) && !(q.1 + 1 == i && q.2.category == 2)))) : lv_has ar n (sk_lv E 0 (sk_ls ls i v)) := by
  refine ⟨h.1, h.2.1, fun q hq => h.2.2 q ?_⟩
  obtain ⟨k, w, rfl, hk⟩ := sk_mem_at E _ 0 q hq
  rcases sk_ls_get ls i v k w hk with ⟨h1, h2⟩ | ⟨h1, h2, h3⟩
  · subst h1; subst h2; simp
  · refine List.mem_cons_of_mem _ (List.mem_filter.mpr ⟨sk_at_mem E ls 0 k w h2, ?_⟩)
    by_cases hi : k + 1 = i
    · simp [h1, sk_cat1 E w (h3 hi)]
    · simp [h1, hi]
theorem sk_lsL_has {E : sk_En} {ar : Array Slot} {n i : Nat} {ls : List (Option sk_V)} {v : sk_V} (h : lv_has ar n ((i, sk_v E v) :: (sk_lv E 0 ls).filter (fun q => !(q.1 == i) && (!(q.1 == i + 1) && !(q.1 + 1 == i && q.2.category == 2))))) : lv_has ar n (sk_lv E 0 (sk_lsL ls i v)) := by
  refine ⟨h.1, h.2.1, fun q hq => h.2.2 q ?_⟩
  obtain ⟨k, w, rfl, hk⟩ := sk_mem_at E _ 0 q hq
  rcases sk_lsL_get ls i v k w hk with ⟨h1, h2⟩ | ⟨h1, h0, h2, h3⟩
  · subst h1; subst h2; simp
  · refine List.mem_cons_of_mem _ (List.mem_filter.mpr ⟨sk_at_mem E ls 0 k w h2, ?_⟩)
    by_cases hi : k + 1 = i
    · simp [h1, h0, sk_cat1 E w (h3 hi)]
    · simp [h1, h0, hi]
section SKL
variable {l : Launch} {E : sk_En} {d mc ms : Nat} {M : sk_M} {pc pc0 len nxt : Nat} {aux : List Nat} {ls : List (Option sk_V)} {st : List sk_V} {G : List sk_Sh} {σ : sk_St} {Q : Option sk_V → List sk_Sh → sk_St → Prop}
theorem AW_istore_n {n : Fin 4} {a : Int} (h : sk_find pc M.2.2.2.2 = some (pc0, (.istore_n n), len, nxt, aux)) (hn : (n : Nat) < M.2.2.1) (k : AW l E d mc ms M nxt (sk_ls ls n (vi a)) st G σ Q) : AW l E d mc ms M pc ls (vi a :: st) G σ Q := by
  intro hM p e R s m args below meth c H locs cells slots Qf ar hF hR hl hc hs hfin
  obtain ⟨hd, rfl, hA, hlen⟩ := sk_dec hM h
  obtain rfl : 1 = len := hlen.resolve_left (by simp [sk_il])
  exact lv_istore_n hF.1 hF.2.1 hd rfl hl hn rfl (fun ar1 hl1 => k hM p e R s m args below meth c H locs cells slots Qf ar1 hF hR (sk_ls_has (v := vi a) hl1) hc hs hfin)
theorem AW_istore {n : Nat} {a : Int} (h : sk_find pc M.2.2.2.2 = some (pc0, (.istore n), len, nxt, aux)) (hn : n < M.2.2.1) (k : AW l E d mc ms M nxt (sk_ls ls n (vi a)) st G σ Q) : AW l E d mc ms M pc ls (vi a :: st) G σ Q := by
  intro hM p e R s m args below meth c H locs cells slots Qf ar hF hR hl hc hs hfin
  obtain ⟨hd, rfl, hA, hlen⟩ := sk_dec hM h
  obtain rfl : 2 = len := hlen.resolve_left (by simp [sk_il])
  exact lv_istore hF.1 hF.2.1 hd hl hn rfl (fun ar1 hl1 => k hM p e R s m args below meth c H locs cells slots Qf ar1 hF hR (sk_ls_has (v := vi a) hl1) hc hs hfin)
theorem AW_astore_n {n : Fin 4} {a : Nat} (h : sk_find pc M.2.2.2.2 = some (pc0, (.astore_n n), len, nxt, aux)) (hn : (n : Nat) < M.2.2.1) (k : AW l E d mc ms M nxt (sk_ls ls n (vr a)) st G σ Q) : AW l E d mc ms M pc ls (vr a :: st) G σ Q := by
  intro hM p e R s m args below meth c H locs cells slots Qf ar hF hR hl hc hs hfin
  obtain ⟨hd, rfl, hA, hlen⟩ := sk_dec hM h
  obtain rfl : 1 = len := hlen.resolve_left (by simp [sk_il])
  exact lv_astore_n hF.1 hF.2.1 hd rfl hl hn rfl (fun ar1 hl1 => k hM p e R s m args below meth c H locs cells slots Qf ar1 hF hR (sk_ls_has (v := vr a) hl1) hc hs hfin)
theorem AW_astore {n : Nat} {a : Nat} (h : sk_find pc M.2.2.2.2 = some (pc0, (.astore n), len, nxt, aux)) (hn : n < M.2.2.1) (k : AW l E d mc ms M nxt (sk_ls ls n (vr a)) st G σ Q) : AW l E d mc ms M pc ls (vr a :: st) G σ Q := by
  intro hM p e R s m args below meth c H locs cells slots Qf ar hF hR hl hc hs hfin
  obtain ⟨hd, rfl, hA, hlen⟩ := sk_dec hM h
  obtain rfl : 2 = len := hlen.resolve_left (by simp [sk_il])
  exact lv_astore hF.1 hF.2.1 hd hl hn rfl (fun ar1 hl1 => k hM p e R s m args below meth c H locs cells slots Qf ar1 hF hR (sk_ls_has (v := vr a) hl1) hc hs hfin)
theorem AW_lstore_n {n : Fin 4} {a : Int64} (h : sk_find pc M.2.2.2.2 = some (pc0, (.lstore_n n), len, nxt, aux)) (hn : (n : Nat) + 1 < M.2.2.1) (k : AW l E d mc ms M nxt (sk_lsL ls n (vl a)) st G σ Q) : AW l E d mc ms M pc ls (vl a :: st) G σ Q := by
  intro hM p e R s m args below meth c H locs cells slots Qf ar hF hR hl hc hs hfin
  obtain ⟨hd, rfl, hA, hlen⟩ := sk_dec hM h
  obtain rfl : 1 = len := hlen.resolve_left (by simp [sk_il])
  exact lv_lstore_n hF.1 hF.2.1 hd rfl hl hn rfl (fun ar1 hl1 => k hM p e R s m args below meth c H locs cells slots Qf ar1 hF hR (sk_lsL_has (v := vl a) hl1) hc hs hfin)
theorem AW_lstore {n : Nat} {a : Int64} (h : sk_find pc M.2.2.2.2 = some (pc0, (.lstore n), len, nxt, aux)) (hn : n + 1 < M.2.2.1) (k : AW l E d mc ms M nxt (sk_lsL ls n (vl a)) st G σ Q) : AW l E d mc ms M pc ls (vl a :: st) G σ Q := by
  intro hM p e R s m args below meth c H locs cells slots Qf ar hF hR hl hc hs hfin
  obtain ⟨hd, rfl, hA, hlen⟩ := sk_dec hM h
  obtain rfl : 2 = len := hlen.resolve_left (by simp [sk_il])
  exact lv_lstore hF.1 hF.2.1 hd hl hn rfl (fun ar1 hl1 => k hM p e R s m args below meth c H locs cells slots Qf ar1 hF hR (sk_lsL_has (v := vl a) hl1) hc hs hfin)
theorem AW_iinc {n : Nat} {a x : Int} (h : sk_find pc M.2.2.2.2 = some (pc0, (.iinc n x), len, nxt, aux)) (hk : ls[n]? = some (some (vi a))) (hn : n < M.2.2.1) (k : AW l E d mc ms M nxt (sk_ls ls n (vi (a + x))) st G σ Q) : AW l E d mc ms M pc ls st G σ Q := by
  intro hM p e R s m args below meth c H locs cells slots Qf ar hF hR hl hc hs hfin
  obtain ⟨hd, rfl, hA, hlen⟩ := sk_dec hM h
  obtain rfl : 3 = len := hlen.resolve_left (by simp [sk_il])
  obtain ⟨i, hi⟩ := List.getElem?_of_mem (sk_at_mem E ls 0 n (vi a) hk)
  rw [Nat.zero_add] at hi
  exact lv_iinc hF.1 hF.2.1 hd hl hi (sk_io_add a x) hn rfl (fun ar1 hl1 => k hM p e R s m args below meth c H locs cells slots Qf ar1 hF hR (sk_ls_has (v := vi (a + x)) hl1) hc hs hfin)
/-- fewer locals known -/
theorem AW_less {ls' : List (Option sk_V)} (hs : ∀ (k : Nat) (v : sk_V), ls'[k]? = some (some v) → ls[k]? = some (some v)) (k : AW l E d mc ms M pc ls' st G σ Q) : AW l E d mc ms M pc ls st G σ Q := by
  intro hM p e R s m args below meth c H locs cells slots Qf ar hF hR hl hc hs1 hfin
  refine k hM p e R s m args below meth c H locs cells slots Qf ar hF hR ⟨hl.1, hl.2.1, fun q hq => ?_⟩ hc hs1 hfin
  obtain ⟨j, v, rfl, hj⟩ := sk_mem_at E _ 0 q hq
  exact hl.2.2 _ (sk_at_mem E ls 0 j v (hs j v hj))
theorem AW_mono {d' : Nat} (hd : d' ≤ d) (k : AW l E d' mc ms M pc ls st G σ Q) : AW l E d mc ms M pc ls st G σ Q := by
  intro hM p e R s m args below meth c H locs cells slots Qf ar hF hR hl hc hs hfin
  obtain ⟨h1, h2, h3, h4, h5, h6, h7, h8, h9, h10, h11⟩ := hF
  exact k hM p e R s m args below meth c H locs cells slots Qf ar ⟨h1, h2, h3, h4, h5, h6, h7, h8, h9, by omega, by omega⟩ hR hl hc hs hfin
theorem AW_post {Q' : Option sk_V → List sk_Sh → sk_St → Prop} (hQ : ∀ v G' σ', Q' v G' σ' → Q v G' σ') (k : AW l E d mc ms M pc ls st G σ Q') : AW l E d mc ms M pc ls st G σ Q := by
  intro hM p e R s m args below meth c H locs cells slots Qf ar hF hR hl hc hs hfin
  exact k hM p e R s m args below meth c H locs cells slots Qf ar hF hR hl hc hs (fun v G' σ' pc' ar' H' locs' slots' q => hfin v G' σ' pc' ar' H' locs' slots' (hQ v G' σ' q))
end SKL
/-! ===== many instructions at once, by computation ===== -/
abbrev sk_X : Type := Nat × List (Option sk_V) × List sk_V × sk_St
def sk_fo {β : Type} : List (Option sk_V) → (List (Option sk_V) → β) → β
  | [], k => k []
  | a :: r, k => match a with
    | none => sk_fo r (fun r' => k (none :: r'))
    | some v => sk_fo r (fun r' => k (some v :: r'))
theorem sk_fo_eq {β : Type} : ∀ (ls : List (Option sk_V)) (k : List (Option sk_V) → β), sk_fo ls k = k ls
  | [], _ => rfl
  | none :: r, _ => sk_fo_eq r _
  | some _ :: r, _ => sk_fo_eq r _
def sk_gt : List (Option sk_V) → Nat → Option sk_V
  | [], _ => none
  | a :: _, 0 => a
  | _ :: r, n + 1 => sk_gt r n
theorem sk_gt_eq : ∀ (ls : List (Option sk_V)) (n : Nat) (v : sk_V), sk_gt ls n = some v → ls[n]? = some (some v)
  | [], _, _, h => by cases h
  | a :: _, 0, v, h => by simp [sk_gt] at h; simp [h]
  | _ :: r, n + 1, v, h => by simpa using sk_gt_eq r n v h
def sk_gs : List sk_Sh → Nat → Option sk_Sh
  | [], _ => none
  | a :: _, 0 => some a
  | _ :: r, n + 1 => sk_gs r n
theorem sk_gs_eq : ∀ (ls : List sk_Sh) (n : Nat) (v : sk_Sh), sk_gs ls n = some v → ls[n]? = some v
  | [], _, _, h => by cases h
  | a :: _, 0, v, h => by simpa [sk_gs] using h
  | _ :: r, n + 1, v, h => by simpa using sk_gs_eq r n v h
def sk_fj {β : Type} (j : Nat) (k : Int → β) : β := match j with
  | 0 => k 0
  | 1 => k 1
  | 2 => k 2
  | 3 => k 3
  | 4 => k 4
  | 5 => k 5
  | 6 => k 6
  | 7 => k 7
  | 8 => k 8
  | 9 => k 9
  | 10 => k 10
  | 11 => k 11
  | 12 => k 12
  | 13 => k 13
  | 14 => k 14
  | 15 => k 15
  | 16 => k 16
  | 17 => k 17
  | 18 => k 18
  | 19 => k 19
  | 20 => k 20
  | 21 => k 21
  | 22 => k 22
  | 23 => k 23
  | 24 => k 24
  | 25 => k 25
  | 26 => k 26
  | 27 => k 27
  | 28 => k 28
  | 29 => k 29
  | 30 => k 30
  | 31 => k 31
  | 32 => k 32
  | 33 => k 33
  | 34 => k 34
  | 35 => k 35
  | 36 => k 36
  | 37 => k 37
  | 38 => k 38
  | 39 => k 39
  | 40 => k 40
  | 41 => k 41
  | 42 => k 42
  | 43 => k 43
  | 44 => k 44
  | 45 => k 45
  | 46 => k 46
  | 47 => k 47
  | 48 => k 48
  | 49 => k 49
  | 50 => k 50
  | 51 => k 51
  | 52 => k 52
  | 53 => k 53
  | 54 => k 54
  | 55 => k 55
  | 56 => k 56
  | 57 => k 57
  | 58 => k 58
  | 59 => k 59
  | 60 => k 60
  | 61 => k 61
  | 62 => k 62
  | 63 => k 63
  | 64 => k 64
  | 65 => k 65
  | 66 => k 66
  | 67 => k 67
  | 68 => k 68
  | 69 => k 69
  | 70 => k 70
  | 71 => k 71
  | n => k n
theorem sk_fj_eq {β : Type} (j : Nat) (k : Int → β) : sk_fj j k = k j := by
  unfold sk_fj
  split <;> rfl
/-- one simple instruction -/
def sk_s1 (G : List sk_Sh) (nL nxt : Nat) (aux : List Nat) (ls : List (Option sk_V)) (st : List sk_V) (σ : sk_St) : Instr → Option sk_X
  | .iconst n => some (nxt, ls, vi n :: st, σ)
  | .bipush n => some (nxt, ls, vi n :: st, σ)
  | .sipush n => some (nxt, ls, vi n :: st, σ)
  | .lconst n => some (nxt, ls, vl (Int64.ofNat (n : Nat)) :: st, σ)
  | .iload_n n => match sk_gt ls n with | some (.inl a) => some (nxt, ls, vi a :: st, σ) | _ => none
  | .iload n => match sk_gt ls n with | some (.inl a) => some (nxt, ls, vi a :: st, σ) | _ => none
  | .lload_n n => match sk_gt ls n with | some (.inr (.inl a)) => some (nxt, ls, vl a :: st, σ) | _ => none
  | .lload n => match sk_gt ls n with | some (.inr (.inl a)) => some (nxt, ls, vl a :: st, σ) | _ => none
  | .aload_n n => match sk_gt ls n with | some (.inr (.inr (some a))) => some (nxt, ls, vr a :: st, σ) | _ => none
  | .aload n => match sk_gt ls n with | some (.inr (.inr (some a))) => some (nxt, ls, vr a :: st, σ) | _ => none
  | .istore_n n => match st with | .inl a :: r => bif Nat.blt n nL then sk_fo (sk_ls ls n (vi a)) fun ls' => some (nxt, ls', r, σ) else none | _ => none
  | .istore n => match st with | .inl a :: r => bif Nat.blt n nL then sk_fo (sk_ls ls n (vi a)) fun ls' => some (nxt, ls', r, σ) else none | _ => none
  | .astore_n n => match st with | .inr (.inr (some a)) :: r => bif Nat.blt n nL then sk_fo (sk_ls ls n (vr a)) fun ls' => some (nxt, ls', r, σ) else none | _ => none
  | .astore n => match st with | .inr (.inr (some a)) :: r => bif Nat.blt n nL then sk_fo (sk_ls ls n (vr a)) fun ls' => some (nxt, ls', r, σ) else none | _ => none
  | .lstore_n n => match st with | .inr (.inl a) :: r => bif Nat.blt (n + 1) nL then sk_fo (sk_lsL ls n (vl a)) fun ls' => some (nxt, ls', r, σ) else none | _ => none
  | .lstore n => match st with | .inr (.inl a) :: r => bif Nat.blt (n + 1) nL then sk_fo (sk_lsL ls n (vl a)) fun ls' => some (nxt, ls', r, σ) else none | _ => none
  | .iinc n x => match sk_gt ls n with | some (.inl a) => bif Nat.blt n nL then sk_fo (sk_ls ls n (vi (a + x))) fun ls' => some (nxt, ls', st, σ) else none | _ => none
  | .iadd => match st with | .inl b :: .inl a :: r => some (nxt, ls, vi (a + b) :: r, σ) | _ => none
  | .isub => match st with | .inl b :: .inl a :: r => some (nxt, ls, vi (a - b) :: r, σ) | _ => none
  | .imul => match st with | .inl b :: .inl a :: r => some (nxt, ls, vi (a * b) :: r, σ) | _ => none
  | .iand => match st with | .inl b :: .inl a :: r => some (nxt, ls, vi (sk_and a b) :: r, σ) | _ => none
  | .ior => match st with | .inl b :: .inl a :: r => some (nxt, ls, vi (sk_or a b) :: r, σ) | _ => none
  | .ishr => match st with | .inl b :: .inl a :: r => some (nxt, ls, vi (sk_shr a b) :: r, σ) | _ => none
  | .iushr => match st with | .inl b :: .inl a :: r => some (nxt, ls, vi (sk_ushr a b) :: r, σ) | _ => none
  | .lsub => match st with | .inr (.inl b) :: .inr (.inl a) :: r => some (nxt, ls, vl (a - b) :: r, σ) | _ => none
  | .lmul => match st with | .inr (.inl b) :: .inr (.inl a) :: r => some (nxt, ls, vl (a * b) :: r, σ) | _ => none
  | .land => match st with | .inr (.inl b) :: .inr (.inl a) :: r => some (nxt, ls, vl (a &&& b) :: r, σ) | _ => none
  | .lor => match st with | .inr (.inl b) :: .inr (.inl a) :: r => some (nxt, ls, vl (a ||| b) :: r, σ) | _ => none
  | .lxor => match st with | .inr (.inl b) :: .inr (.inl a) :: r => some (nxt, ls, vl (a ^^^ b) :: r, σ) | _ => none
  | .lshl => match st with | .inl b :: .inr (.inl a) :: r => some (nxt, ls, vl (sk_lshl a b) :: r, σ) | _ => none
  | .lushr => match st with | .inl b :: .inr (.inl a) :: r => some (nxt, ls, vl (sk_lushr a b) :: r, σ) | _ => none
  | .i2l => match st with | .inl a :: r => some (nxt, ls, vl (sk_i2l a) :: r, σ) | _ => none
  | .l2i => match st with | .inr (.inl a) :: r => some (nxt, ls, vi a.toInt32.toInt :: r, σ) | _ => none
  | .lcmp => match st with | .inr (.inl b) :: .inr (.inl a) :: r => some (nxt, ls, vi (lg_cmp a b).toInt :: r, σ) | _ => none
  | .dup => match st with | .inl a :: r => some (nxt, ls, vi a :: vi a :: r, σ) | .inr (.inr (some a)) :: r => some (nxt, ls, vr a :: vr a :: r, σ) | _ => none
  | .dup2 => match st with | .inl a :: .inr (.inr (some b)) :: r => some (nxt, ls, vi a :: vr b :: vi a :: vr b :: r, σ) | _ => none
  | .pop => match st with | .inl _ :: r => some (nxt, ls, r, σ) | .inr (.inr (some _)) :: r => some (nxt, ls, r, σ) | _ => none
  | .goto _ => match aux with | [t] => some (t, ls, st, σ) | _ => none
  | .getfield _ => match st with
    | .inr (.inr (some k)) :: r => match aux with
      | [ci, j, _, tc] => match sk_gs G k with
        | some (.inl ci') => bif Nat.beq ci' ci then (match σ with | (I, L, J) => bif Nat.beq tc 3 then (match J k j with | some q => some (nxt, ls, vr q :: r, (I, L, J)) | none => none) else sk_fj j fun ji => some (nxt, ls, vi (I k ji) :: r, (I, L, J))) else none
        | _ => none
      | _ => none
    | _ => none
  | .putfield _ => match st with
    | v :: .inr (.inr (some k)) :: r => match aux with
      | [ci, j, _, tc] => match sk_gs G k with
        | some (.inl ci') => bif Nat.beq ci' ci then (match σ with | (I, L, J) => (match v with
          | .inl x => bif Nat.beq tc 0 then sk_fj j fun ji => some (nxt, ls, r, (sk_uI I k ji x, L, J)) else none
          | .inr (.inr (some x)) => bif Nat.beq tc 3 then sk_fj j fun ji => some (nxt, ls, r, (I, L, sk_uR J k ji (some x))) else none
          | _ => none)) else none
        | _ => none
      | _ => none
    | _ => none
  | .arraylength => match st with
    | .inr (.inr (some k)) :: r => match sk_gs G k with
      | some (.inr (tc, n)) => bif Nat.blt tc 4 then some (nxt, ls, vi (n : Int) :: r, σ) else none
      | _ => none
    | _ => none
  | _ => none
def sk_run (G : List sk_Sh) (M : sk_M) : Nat → Nat → List (Option sk_V) → List sk_V → sk_St → Option sk_X
  | 0, pc, ls, st, σ => some (pc, ls, st, σ)
  | n + 1, pc, ls, st, σ => match sk_find pc M.2.2.2.2 with
    | none => some (pc, ls, st, σ)
    | some (_, ins, _, nxt, aux) => match sk_s1 G M.2.2.1 nxt aux ls st σ ins with
      | none => some (pc, ls, st, σ)
      | some (pc', ls', st', σ') => sk_run G M n pc' ls' st' σ'
