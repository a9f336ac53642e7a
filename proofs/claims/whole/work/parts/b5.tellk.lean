/-! ===== SealKeeper: ahead, walked, told, pair ===== -/
def sh_nz (f : Int → Int) : Int → Int := fun m => if f m = 0 then 0 else 1
section SKH1
variable {l : Launch} {E : sk_En} {d : Nat} {I : sk_SI} {L : sk_SL} {cu sp io rp tp fp : Nat} {Q : Option sk_V → List sk_Sh → sk_St → Prop} {TT : Int → sk_Tb}
theorem c_K_sum (c : Nat) (hc : c = 57 ∨ c = 58) (hq : Q (some (vi (sk_sum (I c) 200))) sk_G (I, L, sk_J cu sp io rp tp fp)) : AW l E d 0 0 mX9_sum 0 [some (vr c), none, none, none, none, none] [] sk_G (I, L, sk_J cu sp io rp tp fp) Q := by
  have key : ∀ (m : Nat) (i : Int), 0 ≤ i → i + m = 200 → AW l E d 0 0 mX9_sum 13 [some (vr c), some (vi (sk_sum (I c) i.toNat)), some (vr c), some (vi 200), some (vi i), none] [vi 200, vi i] sk_G (I, L, sk_J cu sp io rp tp fp) Q := by
    intro m
    induction m with
    | zero =>
      intro i h0 hi
      have : i = 200 := by omega
      subst this
      refine AW_icge rfl (fun h => ?_) (fun h => ?_)
      · refine AW_run 80 rfl ?_
        exact AW_iret rfl rfl hq
      · omega
    | succ m ih =>
      intro i h0 hi
      have ih2 := ih (i + 1) (by omega) (by omega)
      rw [sk_sum_s _ h0] at ih2
      refine AW_icge rfl (fun h => ?_) (fun h => ?_)
      · omega
      · rcases hc with rfl | rfl <;>
        · refine AW_run 80 rfl ?_
          refine AW_iald rfl rfl ⟨by omega, by omega⟩ (by decide) ?_
          refine AW_run 80 rfl ?_
          exact AW_lk ih2 ⟨rfl, rfl, rfl, rfl, rfl, trivial⟩
  have key := key 200 0 (by omega) (by omega)
  rcases hc with rfl | rfl <;>
  · refine AW_run 80 rfl ?_
    exact key
theorem c_F_root (a : Int) (h : 0 ≤ sk_and (I 51 0) a ∧ sk_and (I 51 0) a ≤ 7) (hq : Q (some (vi (if sk_and (I 51 0) a = 0 then 0 else 1))) sk_G (I, L, sk_J cu sp io rp tp fp)) : AW l E d 0 0 mX0_rootCan 0 [some (vr 48), some (vi a)] [] sk_G (I, L, sk_J cu sp io rp tp fp) Q := by
  refine AW_run 80 rfl ?_
  refine AW_iald rfl rfl ⟨by omega, by omega⟩ (by decide) ?_
  refine AW_run 80 rfl ?_
  refine AW_ifne rfl (fun g => ?_) (fun g => ?_) (by unfold sk_in; omega)
  · rw [if_neg g] at hq
    refine AW_run 80 rfl ?_
    exact AW_iret rfl rfl hq
  · rw [if_pos g] at hq
    refine AW_run 80 rfl ?_
    exact AW_iret rfl rfl hq
theorem c_F_came (hI : ∀ i, 0 ≤ i → i < 20 → sk_in (I 55 i)) (hq : Q (some (vi (sk_sum (sh_nz (I 55)) 20))) sk_G (I, L, sk_J cu sp io rp tp fp)) : AW l E d 0 0 mX0_methodsThatCame 0 [some (vr 48), none, none, none, none, none] [] sk_G (I, L, sk_J cu sp io rp tp fp) Q := by
  have key : ∀ (m : Nat) (i : Int), 0 ≤ i → i + m = 20 → AW l E d 0 0 mX0_methodsThatCame 16 [some (vr 48), some (vi (sk_sum (sh_nz (I 55)) i.toNat)), some (vr 55), some (vi 20), some (vi i), none] [vi 20, vi i] sk_G (I, L, sk_J cu sp io rp tp fp) Q := by
    intro m
    induction m with
    | zero =>
      intro i h0 hi
      have : i = 20 := by omega
      subst this
      refine AW_icge rfl (fun h => ?_) (fun h => ?_)
      · refine AW_run 80 rfl ?_
        exact AW_iret rfl rfl hq
      · omega
    | succ m ih =>
      intro i h0 hi
      have ih2 := ih (i + 1) (by omega) (by omega)
      rw [sk_sum_s _ h0] at ih2
      have hi2 := hI i h0 (by omega)
      refine AW_icge rfl (fun h => ?_) (fun h => ?_)
      · omega
      · refine AW_run 80 rfl ?_
        refine AW_iald rfl rfl ⟨by omega, by omega⟩ (by decide) ?_
        refine AW_run 80 rfl ?_
        refine AW_ifne rfl (fun g => ?_) (fun g => ?_) hi2
        · have e : sh_nz (I 55) i = 1 := by unfold sh_nz; rw [if_neg g]
          rw [e] at ih2
          refine AW_run 80 rfl ?_
          exact AW_lk ih2 ⟨rfl, rfl, rfl, rfl, rfl, trivial⟩
        · have e : sh_nz (I 55) i = 0 := by unfold sh_nz; rw [if_pos g]
          rw [e] at ih2
          refine AW_run 80 rfl ?_
          exact AW_lk ih2 ⟨rfl, rfl, rfl, rfl, rfl, trivial⟩
  have key := key 20 0 (by omega) (by omega)
  refine AW_run 80 rfl ?_
  exact key
theorem c_K_walked (s w : Int) (hsi : sk_in s) (hwi : sk_in w) (hc : sk_pg cu) (h10 : 0 ≤ I cu 10 ∧ I cu 10 ≤ 200) (h15 : I 48 15 = 0 ∨ I 48 15 = 1) (h0 : I 48 15 = 0 → Q (some (vi (-4))) sk_G (I, L, sk_J cu sp io rp tp fp)) (h1 : I 48 15 = 1 → ¬ (0 ≤ w ∧ w < 2 ∧ 0 ≤ s ∧ s < I cu 10) → Q (some (vi (-3))) sk_G (I, L, sk_J cu sp io rp tp fp)) (h2 : I 48 15 = 1 → 0 ≤ s → s < I cu 10 → ∀ v : Int, (w = 0 ∧ v = I 57 s ∨ w = 1 ∧ v = I 58 s) → Q (some (vi v)) sk_G (I, L, sk_J cu sp io rp tp fp)) : AW l E (d + 1) 0 0 mX9_walked 0 [some (vr 0), some (vi s), some (vi w)] [] sk_G (I, L, sk_J cu sp io rp tp fp) Q := by
  rcases hc with rfl | rfl <;>
  · refine AW_run 80 rfl ?_
    refine AW_ifne rfl (fun g => ?_) (fun g => ?_) (by unfold sk_in; omega)
    · have h1 := h1 (by omega)
      have h2 := h2 (by omega)
      refine AW_run 80 rfl ?_
      refine AW_withinS rfl kkX9_82 rfl (by omega) (fun w1 w2 => ?_) (fun w3 => ?_)
      · refine AW_run 80 rfl ?_
        first | refine AW_e1 rfl ?_ | refine AW_e0 rfl ?_ | refine AW_n1 rfl ?_ | refine AW_n0 rfl ?_
        refine AW_run 80 rfl ?_
        refine AW_withinS rfl kkX9_82 rfl (by omega) (fun w4 w5 => ?_) (fun w6 => ?_)
        · have h2 := h2 w4 w5
          refine AW_run 80 rfl ?_
          first | refine AW_e1 rfl ?_ | refine AW_e0 rfl ?_ | refine AW_n1 rfl ?_ | refine AW_n0 rfl ?_
          refine AW_run 80 rfl ?_
          refine AW_ifne rfl (fun g2 => ?_) (fun g2 => ?_) (by unfold sk_in; omega)
          · have h2 := h2 (I 58 s) (by omega)
            refine AW_run 80 rfl ?_
            refine AW_iald rfl rfl ⟨by omega, by omega⟩ (by decide) ?_
            refine AW_run 80 rfl ?_
            exact AW_iret rfl rfl h2
          · have h2 := h2 (I 57 s) (by omega)
            refine AW_run 80 rfl ?_
            refine AW_iald rfl rfl ⟨by omega, by omega⟩ (by decide) ?_
            refine AW_run 80 rfl ?_
            exact AW_iret rfl rfl h2
        · have h1 := h1 (fun z => w6 ⟨z.2.2.1, z.2.2.2⟩)
          refine AW_run 80 rfl ?_
          first | refine AW_e1 rfl ?_ | refine AW_e0 rfl ?_ | refine AW_n1 rfl ?_ | refine AW_n0 rfl ?_
          refine AW_run 80 rfl ?_
          exact AW_iret rfl rfl h1
      · have h1 := h1 (fun z => w3 ⟨z.1, z.2.1⟩)
        refine AW_run 80 rfl ?_
        first | refine AW_e1 rfl ?_ | refine AW_e0 rfl ?_ | refine AW_n1 rfl ?_ | refine AW_n0 rfl ?_
        refine AW_run 80 rfl ?_
        exact AW_iret rfl rfl h1
    · have h0 := h0 g
      refine AW_run 80 rfl ?_
      exact AW_iret rfl rfl h0
theorem c_K_told (w : Int) (hwi : sk_in w) (h15 : I 48 15 = 0 ∨ I 48 15 = 1) (h0 : I 48 15 = 0 → Q (some (vi (-4))) sk_G (I, L, sk_J cu sp io rp tp fp)) (h51 : I 48 15 = 1 → 0 ≤ I 51 0 ∧ I 51 0 ≤ 7) (h55 : I 48 15 = 1 → ∀ i, 0 ≤ i → i < 20 → sk_in (I 55 i)) (h1 : I 48 15 = 1 → ¬ (0 ≤ w ∧ w ≤ 4) → Q (some (vi (-3))) sk_G (I, L, sk_J cu sp io rp tp fp)) (h2 : I 48 15 = 1 → ∀ v : Int, (w = 0 ∧ v = (if sk_and (I 51 0) 5 = 0 then 0 else 1) ∨ w = 1 ∧ v = (if sk_and (I 51 0) 2 = 0 then 0 else 1) ∨ w = 2 ∧ v = sk_sum (I 57) 200 ∨ w = 3 ∧ v = sk_sum (I 58) 200 ∨ w = 4 ∧ v = sk_sum (sh_nz (I 55)) 20) → Q (some (vi v)) sk_G (I, L, sk_J cu sp io rp tp fp)) : AW l E (d + 1) 0 0 mX9_told 0 [some (vr 0), some (vi w)] [] sk_G (I, L, sk_J cu sp io rp tp fp) Q := by
  refine AW_run 80 rfl ?_
  refine AW_ifne rfl (fun g => ?_) (fun g => ?_) (by unfold sk_in; omega)
  · have k : I 48 15 = 1 := by omega
    have h1 := h1 k
    have h2 := h2 k
    have h51 := h51 k
    have h55 := h55 k
    have t5 := (sf_t5 h51).1
    have t2 := (sf_t2 h51).1
    refine AW_run 80 rfl ?_
    by_cases hw : 0 ≤ w ∧ w ≤ 4
    · rcases (show w = 0 ∨ w = 1 ∨ w = 2 ∨ w = 3 ∨ w = 4 by omega) with e | e | e | e | e
      · refine AW_tin 0 rfl (by omega) rfl hwi ?_
        have h2 := h2 _ (Or.inl ⟨e, rfl⟩)
        refine AW_run 80 rfl ?_
        refine AW_cV (M' := mX0_rootCan) rfl kkX9_163 lcX0_rootCan rfl rfl rfl rfl rfl rfl (Nat.le_refl _) ?_
        refine c_F_root 5 t5 ?_
        refine AW_run 80 rfl ?_
        exact AW_iret rfl rfl h2
      · refine AW_tin 1 rfl (by omega) rfl hwi ?_
        have h2 := h2 _ (Or.inr (Or.inl ⟨e, rfl⟩))
        refine AW_run 80 rfl ?_
        refine AW_cV (M' := mX0_rootCan) rfl kkX9_163 lcX0_rootCan rfl rfl rfl rfl rfl rfl (Nat.le_refl _) ?_
        refine c_F_root 2 (by omega) ?_
        refine AW_run 80 rfl ?_
        exact AW_iret rfl rfl h2
      · refine AW_tin 2 rfl (by omega) rfl hwi ?_
        have h2 := h2 _ (Or.inr (Or.inr (Or.inl ⟨e, rfl⟩)))
        refine AW_run 80 rfl ?_
        refine AW_cS (M' := mX9_sum) rfl kkX9_166 lcX9_sum rfl rfl rfl (Nat.le_refl _) ?_
        refine c_K_sum 57 (Or.inl rfl) ?_
        refine AW_run 80 rfl ?_
        exact AW_iret rfl rfl h2
      · refine AW_tin 3 rfl (by omega) rfl hwi ?_
        have h2 := h2 _ (Or.inr (Or.inr (Or.inr (Or.inl ⟨e, rfl⟩))))
        refine AW_run 80 rfl ?_
        refine AW_cS (M' := mX9_sum) rfl kkX9_166 lcX9_sum rfl rfl rfl (Nat.le_refl _) ?_
        refine c_K_sum 58 (Or.inr rfl) ?_
        refine AW_run 80 rfl ?_
        exact AW_iret rfl rfl h2
      · refine AW_tin 4 rfl (by omega) rfl hwi ?_
        have h2 := h2 _ (Or.inr (Or.inr (Or.inr (Or.inr ⟨e, rfl⟩))))
        refine AW_run 80 rfl ?_
        refine AW_cV (M' := mX0_methodsThatCame) rfl kkX9_170 lcX0_methodsThatCame rfl rfl rfl rfl rfl rfl (Nat.le_refl _) ?_
        refine c_F_came h55 ?_
        refine AW_run 80 rfl ?_
        exact AW_iret rfl rfl h2
    · have h1 := h1 hw
      refine AW_tout rfl (by omega) hwi ?_
      refine AW_run 80 rfl ?_
      exact AW_iret rfl rfl h1
  · have h0 := h0 g
    refine AW_run 80 rfl ?_
    exact AW_iret rfl rfl h0
/-- Foresight.refuser -/
def sh_bs (I : sk_SI) (m : Int) : Int := sk_sum (I 55) m.toNat
theorem c_F_refuser (m k ki le : Int) (hm : 0 ≤ m ∧ m < 20) (hk : 0 ≤ k) (hki : sk_in k) (hi : 0 ≤ ki ∧ ki < 8) (hl : 0 ≤ le ∧ le < 10) (h55 : ∀ i, 0 ≤ i → i < 20 → 0 ≤ I 55 i ∧ I 55 i ≤ 300) (hb : k < I 55 m → 0 ≤ sh_bs I m ∧ sh_bs I m + k < 300 ∧ 0 ≤ I 54 (sh_bs I m + k) ∧ I 54 (sh_bs I m + k) < 300) (h0 : I 55 m ≤ k → Q (some (vi (-1))) sk_G (I, L, sk_J cu sp io rp tp fp)) (h1 : k < I 55 m → Q (some (vi (sk_ra (L 50 (I 54 (sh_bs I m + k) * 8 + ki)) le))) sk_G (I, L, sk_J cu sp io rp tp fp)) : AW l E (d + 1) 0 0 mX0_refuser 0 [some (vr 48), some (vi m), some (vi k), some (vi ki), some (vi le), none, none] [] sk_G (I, L, sk_J cu sp io rp tp fp) Q := by
  have hm5 := h55 m hm.1 hm.2
  refine AW_run 80 rfl ?_
  refine AW_within rfl kkX0_103 rfl (by omega) (fun w1 w2 => ?_) (fun w3 => by omega)
  refine AW_run 80 rfl ?_
  first | refine AW_e1 rfl ?_ | refine AW_e0 rfl ?_ | refine AW_n1 rfl ?_ | refine AW_n0 rfl ?_
  refine AW_run 80 rfl ?_
  refine AW_iald rfl rfl ⟨by omega, by omega⟩ (by decide) ?_
  refine AW_within rfl kkX0_103 rfl (by omega) (fun w4 w5 => ?_) (fun w6 => ?_)
  · have h1 := h1 w5
    obtain ⟨b0, b1, b2, b3⟩ := hb w5
    have lp : ∀ (j : Nat) (e : Int), 0 ≤ e → e + j = m → AW l E (d + 1) 0 0 mX0_refuser 33 [some (vr 48), some (vi m), some (vi k), some (vi ki), some (vi le), some (vi (k + sk_sum (I 55) e.toNat)), some (vi e)] [vi m, vi e] sk_G (I, L, sk_J cu sp io rp tp fp) Q := by
      intro j
      induction j with
      | zero =>
        intro e e0 hj
        have : e = m := by omega
        subst this
        have es : k + sk_sum (I 55) e.toNat = sh_bs I e + k := by unfold sh_bs; omega
        rw [es]
        have hP : 0 ≤ sh_bs I e + k := by omega
        generalize sh_bs I e + k = P at *
        clear hb
        refine AW_icge rfl (fun g => ?_) (fun g => by omega) (by unfold sk_in; omega) (by unfold sk_in; omega)
        refine AW_run 80 rfl ?_
        refine AW_within rfl kkX0_103 rfl (by omega) (fun z1 z2 => ?_) (fun z3 => by omega)
        refine AW_run 80 rfl ?_
        first | refine AW_e1 rfl ?_ | refine AW_e0 rfl ?_ | refine AW_n1 rfl ?_ | refine AW_n0 rfl ?_
        refine AW_run 80 rfl ?_
        refine AW_iald rfl rfl ⟨by omega, by omega⟩ (by decide) ?_
        refine AW_run 80 rfl ?_
        refine AW_within rfl kkX0_103 rfl (by omega) (fun y1 y2 => ?_) (fun y3 => by omega)
        refine AW_run 80 rfl ?_
        first | refine AW_e1 rfl ?_ | refine AW_e0 rfl ?_ | refine AW_n1 rfl ?_ | refine AW_n0 rfl ?_
        refine AW_run 80 rfl ?_
        refine AW_lald rfl rfl ⟨by omega, by omega⟩ (by decide) ?_
        refine AW_run 80 rfl ?_
        refine AW_cS (M' := mX0_refuserAt) (d' := d) rfl kkX0_154 lcX0_refuserAt rfl rfl rfl (Nat.le_refl _) ?_
        refine c_F_ra _ _ _ ?_
        refine AW_run 80 rfl ?_
        exact AW_iret rfl rfl h1
      | succ j ih =>
        intro e e0 hj
        have ih2 := ih (e + 1) (by omega) (by omega)
        rw [sk_sum_s _ e0, show k + (sk_sum (I 55) e.toNat + I 55 e) = k + sk_sum (I 55) e.toNat + I 55 e by omega] at ih2
        refine AW_icge rfl (fun g => by omega) (fun g => ?_) (by unfold sk_in; omega) (by unfold sk_in; omega)
        refine AW_run 80 rfl ?_
        refine AW_iald rfl rfl ⟨by omega, by omega⟩ (by decide) ?_
        refine AW_run 80 rfl ?_
        exact ih2
    have lp := lp m.toNat 0 (by omega) (by omega)
    have e0 : k + sk_sum (I 55) (0 : Int).toNat = k := by
      have : sk_sum (I 55) (0 : Int).toNat = 0 := rfl
      omega
    rw [e0] at lp
    refine AW_run 80 rfl ?_
    first | refine AW_e1 rfl ?_ | refine AW_e0 rfl ?_ | refine AW_n1 rfl ?_ | refine AW_n0 rfl ?_
    refine AW_run 80 rfl ?_
    exact lp
  · have h0 := h0 (by omega)
    refine AW_run 80 rfl ?_
    first | refine AW_e1 rfl ?_ | refine AW_e0 rfl ?_ | refine AW_n1 rfl ?_ | refine AW_n0 rfl ?_
    refine AW_run 80 rfl ?_
    exact AW_iret rfl rfl h0
theorem c_K_pair (m k ki le : Int) (hmi : sk_in m) (hki : sk_in k) (hii : sk_in ki) (hli : sk_in le) (hc : sk_pg cu) (h9 : 0 ≤ I cu 9 ∧ I cu 9 ≤ 20) (h15 : I 48 15 = 0 ∨ I 48 15 = 1) (h0 : I 48 15 = 0 → Q (some (vi (-4))) sk_G (I, L, sk_J cu sp io rp tp fp)) (h1 : I 48 15 = 1 → ¬ ((0 ≤ m ∧ m < I cu 9) ∧ 0 ≤ k ∧ (0 ≤ ki ∧ ki < 8) ∧ 0 ≤ le ∧ le < 10) → Q (some (vi (-3))) sk_G (I, L, sk_J cu sp io rp tp fp)) (h55 : I 48 15 = 1 → ∀ i, 0 ≤ i → i < 20 → 0 ≤ I 55 i ∧ I 55 i ≤ 300) (hb : I 48 15 = 1 → 0 ≤ m ∧ m < I cu 9 → 0 ≤ k → k < I 55 m → 0 ≤ sh_bs I m ∧ sh_bs I m + k < 300 ∧ 0 ≤ I 54 (sh_bs I m + k) ∧ I 54 (sh_bs I m + k) < 300) (h2 : I 48 15 = 1 → ((0 ≤ m ∧ m < I cu 9) ∧ 0 ≤ k ∧ (0 ≤ ki ∧ ki < 8) ∧ 0 ≤ le ∧ le < 10) → (I 55 m ≤ k → Q (some (vi (-1))) sk_G (I, L, sk_J cu sp io rp tp fp)) ∧ (k < I 55 m → Q (some (vi (sk_ra (L 50 (I 54 (sh_bs I m + k) * 8 + ki)) le))) sk_G (I, L, sk_J cu sp io rp tp fp))) : AW l E (d + 2) 0 0 mX9_pair 0 [some (vr 0), some (vi m), some (vi k), some (vi ki), some (vi le)] [] sk_G (I, L, sk_J cu sp io rp tp fp) Q := by
  have bad : I 48 15 = 1 → ¬ ((0 ≤ m ∧ m < I cu 9) ∧ 0 ≤ k ∧ (0 ≤ ki ∧ ki < 8) ∧ 0 ≤ le ∧ le < 10) → AW l E (d + 2) 0 0 mX9_pair 50 [some (vr 0), some (vi m), some (vi k), some (vi ki), some (vi le)] [] sk_G (I, L, sk_J cu sp io rp tp fp) Q := by
    intro z y
    have h1 := h1 z y
    refine AW_run 80 rfl ?_
    exact AW_iret rfl rfl h1
  have good : I 48 15 = 1 → ((0 ≤ m ∧ m < I cu 9) ∧ 0 ≤ k ∧ (0 ≤ ki ∧ ki < 8) ∧ 0 ≤ le ∧ le < 10) → AW l E (d + 2) 0 0 mX9_pair 53 [some (vr 0), some (vi m), some (vi k), some (vi ki), some (vi le)] [] sk_G (I, L, sk_J cu sp io rp tp fp) Q := by
    intro z y
    obtain ⟨q0, q1⟩ := h2 z y
    refine AW_run 80 rfl ?_
    refine AW_cV (M' := mX0_refuser) rfl kkX9_174 lcX0_refuser rfl rfl rfl rfl rfl rfl (Nat.le_refl _) ?_
    refine c_F_refuser m k ki le (by omega) y.2.1 hki y.2.2.1 y.2.2.2 (h55 z) (hb z y.1 y.2.1) (fun u => ?_) (fun u => ?_)
    · have q0 := q0 u
      refine AW_run 80 rfl ?_
      exact AW_iret rfl rfl q0
    · have q1 := q1 u
      refine AW_run 80 rfl ?_
      exact AW_iret rfl rfl q1
  clear h1 h2 hb h55
  rcases hc with rfl | rfl <;>
  · refine AW_run 80 rfl ?_
    refine AW_ifne rfl (fun g => ?_) (fun g => ?_) (by unfold sk_in; omega)
    · have bad := bad (by omega)
      have good := good (by omega)
      refine AW_run 80 rfl ?_
      refine AW_withinS rfl kkX9_82 rfl (by omega) (fun w1 w2 => ?_) (fun w3 => ?_)
      · refine AW_run 80 rfl ?_
        first | refine AW_e1 rfl ?_ | refine AW_e0 rfl ?_ | refine AW_n1 rfl ?_ | refine AW_n0 rfl ?_
        refine AW_run 80 rfl ?_
        refine AW_iflt rfl (fun g2 => ?_) (fun g2 => ?_) hki
        · exact bad (fun z => by omega)
        · refine AW_run 80 rfl ?_
          refine AW_withinS rfl kkX9_82 rfl (by omega) (fun y1 y2 => ?_) (fun y3 => ?_)
          · refine AW_run 80 rfl ?_
            first | refine AW_e1 rfl ?_ | refine AW_e0 rfl ?_ | refine AW_n1 rfl ?_ | refine AW_n0 rfl ?_
            refine AW_run 80 rfl ?_
            refine AW_withinS rfl kkX9_82 rfl (by omega) (fun x1 x2 => ?_) (fun x3 => ?_)
            · have good := good ⟨⟨w1, w2⟩, by omega, ⟨y1, y2⟩, x1, x2⟩
              refine AW_run 80 rfl ?_
              first | refine AW_e1 rfl ?_ | refine AW_e0 rfl ?_ | refine AW_n1 rfl ?_ | refine AW_n0 rfl ?_
              exact good
            · have bad := bad (fun z => x3 z.2.2.2)
              refine AW_run 80 rfl ?_
              first | refine AW_e1 rfl ?_ | refine AW_e0 rfl ?_ | refine AW_n1 rfl ?_ | refine AW_n0 rfl ?_
              exact bad
          · have bad := bad (fun z => y3 z.2.2.1)
            refine AW_run 80 rfl ?_
            first | refine AW_e1 rfl ?_ | refine AW_e0 rfl ?_ | refine AW_n1 rfl ?_ | refine AW_n0 rfl ?_
            exact bad
      · have bad := bad (fun z => w3 z.1)
        refine AW_run 80 rfl ?_
        first | refine AW_e1 rfl ?_ | refine AW_e0 rfl ?_ | refine AW_n1 rfl ?_ | refine AW_n0 rfl ?_
        exact bad
    · have h0 := h0 g
      refine AW_run 80 rfl ?_
      exact AW_iret rfl rfl h0
end SKH1
