/-! ===== counting pairs ===== -/
noncomputable def sh_c (P : Int → Prop) (n : Nat) : Int := sk_sum (fun q => sh_i (P q)) n
theorem sh_i_iff {P P' : Prop} (h : P ↔ P') : sh_i P = sh_i P' := by
  by_cases z : P
  · rw [sh_i_t z, sh_i_t (h.mp z)]
  · rw [sh_i_f z, sh_i_f (fun y => z (h.mpr y))]
theorem sh_c_b (P : Int → Prop) (n : Nat) : 0 ≤ sh_c P n ∧ sh_c P n ≤ n := by
  have := sk_sum_bd (f := fun q => sh_i (P q)) (a := 0) (b := 1) n (fun i _ _ => sh_i_b _)
  unfold sh_c
  omega
theorem sh_c_cg {P P' : Int → Prop} (n : Nat) (h : ∀ q : Int, 0 ≤ q → q < n → (P q ↔ P' q)) : sh_c P n = sh_c P' n := sk_sum_cg n (fun q a b => sh_i_iff (h q a b))
theorem sh_c_rm {P : Int → Prop} {n : Nat} {a : Int} (ha : 0 ≤ a ∧ a < n) (h : P a) : sh_c P n = sh_c (fun x => P x ∧ x ≠ a) n + 1 := by
  have e : sh_c (fun x => P x ∧ x ≠ a) n = sk_sum (sk_up (fun q => sh_i (P q)) a 0) n := sk_sum_cg n (fun q _ _ => by
    by_cases z : q = a
    · subst z
      rw [sk_up_s, sh_i_f (fun y => y.2 rfl)]
    · rw [sk_up_o z]
      exact sh_i_iff ⟨fun y => y.1, fun y => ⟨y, z⟩⟩)
  rw [e, sk_sum_up ha.1 n ha.2, sh_i_t h]
  unfold sh_c
  omega
theorem sh_c_le {R : Int → Int → Prop} {n' : Nat} : ∀ (n : Nat) (P P' : Int → Prop), (∀ q : Int, 0 ≤ q → q < n → P q → ∃ q' : Int, 0 ≤ q' ∧ q' < n' ∧ P' q' ∧ R q q') → (∀ q1 q2 q' : Int, 0 ≤ q1 → q1 < n → 0 ≤ q2 → q2 < n → R q1 q' → R q2 q' → q1 = q2) → sh_c P n ≤ sh_c P' n'
  | 0, P, P', _, _ => by
    have := (sk_sum_bd (f := fun q => sh_i (P' q)) (a := 0) (b := 1) n' (fun i _ _ => sh_i_b _)).1
    show 0 ≤ sh_c P' n'
    unfold sh_c
    omega
  | n + 1, P, P', h, hi => by
    have s : sh_c P (n + 1) = sh_c P n + sh_i (P n) := rfl
    by_cases z : P n
    · obtain ⟨q', q0, q1, q2, q3⟩ := h n (by omega) (by omega) z
      have ih := sh_c_le n P (fun x => P' x ∧ x ≠ q') (fun q a b c => by
        obtain ⟨x, x0, x1, x2, x3⟩ := h q a (by omega) c
        refine ⟨x, x0, x1, ⟨x2, fun e => ?_⟩, x3⟩
        subst e
        have := hi q n x a (by omega) (by omega) (by omega) x3 q3
        omega) (fun a b c d e f g => hi a b c d (by omega) f (by omega))
      rw [s, sh_i_t z, sh_c_rm ⟨q0, q1⟩ q2]
      omega
    · have ih := sh_c_le n P P' (fun q a b c => h q a (by omega) c) (fun a b c d e f g => hi a b c d (by omega) f (by omega))
      rw [s, sh_i_f z]
      omega
theorem sh_c_mono {P P' : Int → Prop} (n : Nat) (h : ∀ q : Int, 0 ≤ q → q < n → P q → P' q) : sh_c P n ≤ sh_c P' n := sh_c_le (R := fun a b => a = b) n P P' (fun q a b c => ⟨q, a, b, h q a b c, rfl⟩) (fun a b c _ _ _ _ e f => e.trans f.symm)
theorem sh_c_add {P P' P2 : Int → Prop} : ∀ n : Nat, (∀ q : Int, 0 ≤ q → q < n → (P2 q ↔ (P q ∨ P' q)) ∧ ¬ (P q ∧ P' q)) → sh_c P2 n = sh_c P n + sh_c P' n
  | 0, _ => rfl
  | n + 1, h => by
    have ih := sh_c_add n (fun q a b => h q a (by omega))
    obtain ⟨h1, h2⟩ := h n (by omega) (by omega)
    have s : ∀ X : Int → Prop, sh_c X (n + 1) = sh_c X n + sh_i (X n) := fun _ => rfl
    rw [s, s, s, ih]
    by_cases z : P n
    · rw [sh_i_t z, sh_i_t (h1.mpr (Or.inl z)), sh_i_f (fun y => h2 ⟨z, y⟩)]
      omega
    · by_cases y : P' n
      · rw [sh_i_f z, sh_i_t y, sh_i_t (h1.mpr (Or.inr y))]
        omega
      · rw [sh_i_f z, sh_i_f y, sh_i_f (fun w => (h1.mp w).elim z y)]
        omega
theorem sh_c_lt {j : Int} (hj : 0 ≤ j) : ∀ n : Nat, sh_c (fun i => i < j) n = min j n
  | 0 => by show (0 : Int) = _; omega
  | n + 1 => by
    have ih := sh_c_lt hj n
    have s : sh_c (fun i => i < j) (n + 1) = sh_c (fun i => i < j) n + sh_i ((n : Int) < j) := rfl
    rw [s, ih]
    by_cases z : (n : Int) < j
    · rw [sh_i_t z]; omega
    · rw [sh_i_f z]; omega
theorem sh_c_0 {P : Int → Prop} (n : Nat) (h : ∀ q : Int, 0 ≤ q → q < n → ¬ P q) : sh_c P n = 0 := by
  have e : sh_c P n = sh_c (fun _ => False) n := sh_c_cg n (fun q a b => ⟨fun z => h q a b z, False.elim⟩)
  have f : ∀ m : Nat, sh_c (fun _ => False) m = 0 := by
    intro m
    induction m with
    | zero => rfl
    | succ m ih =>
      have s : sh_c (fun _ => False) (m + 1) = sh_c (fun _ => False) m + sh_i False := rfl
      rw [s, ih, sh_i_f id]
      rfl
  rw [e, f]
section SKH3
variable {p : Nat} {I : sk_SI} {L : sk_SL} {TT : Int → sk_Tb} {n : Nat}
theorem sh_ct {m : Int} (h : sf_ct I) (hn : I 48 12 = n) (hm : 0 ≤ m ∧ m < 20) : I 55 m = sh_c (fun q => I 49 q = m) n := by
  rw [h m hm.1 hm.2, hn, Int.toNat_natCast]
  refine sk_sum_cg n (fun q _ _ => ?_)
  unfold sk_eqc
  by_cases z : I 49 q = m
  · rw [if_pos z, sh_i_t z]
  · rw [if_neg z, sh_i_f z]
theorem sh_base (hP : sf_pr p I L TT) (h : sf_ct I) (hn : I 48 12 = n) : ∀ m : Nat, m ≤ 20 → sh_bs I m = sh_c (fun q => I 49 q < m) n
  | 0, _ => by
    rw [sh_c_0 n (fun q a b z => by have := (hP.2 q a (by omega)).1.1; omega)]
    rfl
  | m + 1, hm => by
    have ih := sh_base hP h hn m (by omega)
    have s : sh_bs I ((m + 1 : Nat) : Int) = sh_bs I m + I 55 m := by
      unfold sh_bs
      rw [Int.toNat_natCast, Int.toNat_natCast]
      rfl
    rw [s, ih, sh_ct h hn (m := (m : Int)) ⟨by omega, by omega⟩]
    exact (sh_c_add n (fun q _ _ => by
      omega)).symm
theorem sh_pos (hO : sf_od I TT) (hn : I 48 12 = n) {j : Int} (hj : 0 ≤ j ∧ j < n) : j = sh_c (fun q => I 49 q < I 49 (I 54 j)) n + sh_c (fun q => I 49 q = I 49 (I 54 j) ∧ sk_lx (TT q) (TT (I 54 j)) 80) n := by
  rw [← sh_c_add (P2 := fun q => sk_ah (I 49 q) (TT q) (I 49 (I 54 j)) (TT (I 54 j))) n (fun q _ _ => ⟨Iff.rfl, fun z => by have := z.1; have := z.2.1; omega⟩)]
  have up : sh_c (fun q => sk_ah (I 49 q) (TT q) (I 49 (I 54 j)) (TT (I 54 j))) n ≤ sh_c (fun i => i < j) n := sh_c_le (R := fun q i => I 54 i = q) n _ _ (fun q a b z => by
    obtain ⟨i, i0, i1, i2⟩ := hO.2.2 q a (by omega)
    refine ⟨i, i0, by omega, ?_, i2⟩
    apply Classical.byContradiction
    intro y
    by_cases e : i = j
    · subst e
      rw [i2] at z
      exact sk_ah_irr z
    · have := hO.2.1 j i hj.1 (by omega) i1
      rw [i2] at this
      exact sk_ah_irr (sk_ah_tr this z)) (fun a b c _ _ _ _ e f => e.symm.trans f)
  have dn : sh_c (fun i => i < j) n ≤ sh_c (fun q => sk_ah (I 49 q) (TT q) (I 49 (I 54 j)) (TT (I 54 j))) n := sh_c_le (R := fun i q => I 54 i = q) n _ _ (fun i a b z => by
    have o := hO.1 i a (by omega)
    exact ⟨I 54 i, o.1, by omega, hO.2.1 i j a z (by omega), rfl⟩) (fun a b c a0 a1 b0 b1 e f => by
    apply Classical.byContradiction
    intro y
    have ef : I 54 a = I 54 b := e.trans f.symm
    by_cases g : a < b
    · have := hO.2.1 a b a0 g (by omega)
      rw [ef] at this
      exact sk_ah_irr this
    · have := hO.2.1 b a b0 (by omega) (by omega)
      rw [ef] at this
      exact sk_ah_irr this)
  rw [sh_c_lt hj.1 n] at up dn
  omega
/-- one that lies ahead isn't the last of its method -/
theorem sh_less (hn : I 48 12 = n) (h : sf_ct I) {q m : Int} (hq : 0 ≤ q ∧ q < n) (hm : I 49 q = m) (hm20 : 0 ≤ m ∧ m < 20) : sh_c (fun q2 => I 49 q2 = m ∧ sk_lx (TT q2) (TT q) 80) n + 1 ≤ I 55 m := by
  rw [sh_ct h hn hm20, sh_c_rm (P := fun q2 => I 49 q2 = m) hq hm]
  have := sh_c_mono (P := fun q2 => I 49 q2 = m ∧ sk_lx (TT q2) (TT q) 80) (P' := fun x => I 49 x = m ∧ x ≠ q) n (fun q2 _ _ z => ⟨z.1, fun e => by
    have := z.2
    rw [e] at this
    exact sk_lx_irr this⟩)
  omega
theorem sh_kth (hP : sf_pr p I L TT) (hO : sf_od I TT) (h : sf_ct I) (hn : I 48 12 = n) (h9 : I p 9 ≤ 20) {m k : Int} (hm : 0 ≤ m ∧ m < 20) (hk : 0 ≤ k ∧ k < I 55 m) : (0 ≤ sh_bs I m ∧ sh_bs I m + k < n) ∧ I 49 (I 54 (sh_bs I m + k)) = m ∧ sh_c (fun q => I 49 q = m ∧ sk_lx (TT q) (TT (I 54 (sh_bs I m + k))) 80) n = k := by
  obtain ⟨mm, rfl⟩ := Int.eq_ofNat_of_zero_le hm.1
  have bb := sh_base hP h hn mm (by omega)
  have ct := sh_ct h hn hm
  have ad : sh_c (fun q => I 49 q < (mm : Int) + 1) n = sh_c (fun q => I 49 q < (mm : Int)) n + sh_c (fun q => I 49 q = (mm : Int)) n := sh_c_add n (fun q _ _ => by omega)
  have al := (sh_c_b (fun q => I 49 q < (mm : Int) + 1) n).2
  have b0' := (sh_c_b (fun q => I 49 q < (mm : Int)) n).1
  have hj : 0 ≤ sh_bs I mm + k ∧ sh_bs I mm + k < n := by omega
  refine ⟨by omega, ?_⟩
  have ps := sh_pos hO hn hj
  have o := hO.1 (sh_bs I mm + k) hj.1 (by omega)
  have oq := (hP.2 _ o.1 o.2).1
  have ls := sh_less (TT := TT) hn h (q := I 54 (sh_bs I mm + k)) ⟨o.1, by omega⟩ rfl (by omega)
  generalize hj' : sh_bs I (mm : Int) + k = j at *
  generalize hq' : I 54 j = q at *
  obtain ⟨mq, hmq⟩ := Int.eq_ofNat_of_zero_le oq.1
  rw [hmq] at ps ls
  have ctq := sh_ct h hn (m := (mq : Int)) ⟨by omega, by omega⟩
  have adq : sh_c (fun q => I 49 q < (mq : Int) + 1) n = sh_c (fun q => I 49 q < (mq : Int)) n + sh_c (fun q => I 49 q = (mq : Int)) n := sh_c_add n (fun q _ _ => by omega)
  have l0 := (sh_c_b (fun q2 => I 49 q2 = (mq : Int) ∧ sk_lx (TT q2) (TT q) 80) n).1
  have e : mq = mm := by
    apply Classical.byContradiction
    intro z
    by_cases y : mq < mm
    · have := sh_c_mono (P := fun q => I 49 q < (mq : Int) + 1) (P' := fun q => I 49 q < (mm : Int)) n (fun q _ _ w => by omega)
      omega
    · have := sh_c_mono (P := fun q => I 49 q < (mm : Int) + 1) (P' := fun q => I 49 q < (mq : Int)) n (fun q _ _ w => by omega)
      omega
  subst e
  exact ⟨hmq, by omega⟩
end SKH3
