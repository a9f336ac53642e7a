/-! ===== Foresight.makeCallersStale ===== -/
theorem sf_lc0 (a b : Int64) : ((lg_cmp a b).toInt = 0 ↔ a = b) ∧ sk_in (lg_cmp a b).toInt := by
  unfold lg_cmp
  by_cases h1 : a > b
  · rw [if_pos h1]
    refine ⟨⟨fun z => absurd z (by decide), fun z => ?_⟩, by decide, by decide⟩
    subst z
    exact absurd (Int64.lt_iff_toInt_lt.mp h1) (by omega)
  · rw [if_neg h1]
    by_cases h2 : a = b
    · rw [if_pos h2]
      exact ⟨⟨fun _ => h2, fun _ => by decide⟩, by decide, by decide⟩
    · rw [if_neg h2]
      exact ⟨⟨fun z => absurd z (by decide), fun z => absurd z h2⟩, by decide, by decide⟩
theorem sf_or01 {a b : Int} (ha : a = 0 ∨ a = 1) (hb : b = 0 ∨ b = 1) : (sk_or a b = 0 ∨ sk_or a b = 1) ∧ (b = 1 → sk_or a b = 1) ∧ (b = 0 → sk_or a b = a) := by
  rcases ha with rfl | rfl <;> rcases hb with rfl | rfl <;> decide
/-- what makeCallersStale leaves, for the pairs below k -/
def sf_ms (L : sk_SL) (q n k : Int) (I I' : sk_SI) : Prop := (∀ c, c ≠ 52 → I' c = I c) ∧ (∀ j, 0 ≤ j → j < k → j < n → (sf_cb L q j → I' 52 j = 1) ∧ (¬ sf_cb L q j → I' 52 j = I 52 j)) ∧ ∀ j, k ≤ j → I' 52 j = I 52 j
section SKFe
variable {l : Launch} {E : sk_En} {d : Nat} {I : sk_SI} {L : sk_SL} {cu sp io rp tp p : Nat} {Q : Option sk_V → List sk_Sh → sk_St → Prop}
theorem c_F_mcs (q n : Int) (hq0 : 0 ≤ q ∧ q < 300) (hn : I 48 12 = n) (hn0 : 0 ≤ n ∧ n ≤ 300) (h52 : ∀ j, 0 ≤ j → j < n → I 52 j = 0 ∨ I 52 j = 1) (hq : ∀ I', sf_ms L q n n I I' → Q none sk_G (I', L, sk_J cu sp io rp tp p)) : AW l E (d + 1) 0 0 mX0_makeCallersStale 0 [some (vr 48), some (vi q), none, none, none] [] sk_G (I, L, sk_J cu sp io rp tp p) Q := by
  have lp : ∀ (m : Nat) (k : Int) (I' : sk_SI), 0 ≤ k → k + m = n → sf_ms L q n k I I' → AW l E (d + 1) 0 0 mX0_makeCallersStale 18 [some (vr 48), some (vi q), some (vi k), none, none] [vi n, vi k] sk_G (I', L, sk_J cu sp io rp tp p) Q := by
    intro m
    induction m with
    | zero =>
      intro k I' k0 hk h
      have : k = n := by omega
      subst this
      have hq := hq I' h
      refine AW_icge rfl (fun g => ?_) (fun g => by omega) (by unfold sk_in; omega) (by unfold sk_in; omega)
      exact AW_vret rfl rfl hq
    | succ m ih =>
      intro k I' k0 hk h
      have sh := sf_sh (a := k) (by omega)
      have e48 : I' 48 = I 48 := h.1 48 (by decide)
      have v52 : I' 52 k = 0 ∨ I' 52 k = 1 := by rw [h.2.2 k (Int.le_refl k)]; exact h52 k k0 (by omega)
      have tst := sf_tst (L 53 (q * 5 + k / 64)) (k := k % 64) (by omega)
      have lc := sf_lc0 (sk_lushr (L 53 (q * 5 + k / 64)) (k % 64) &&& 1) 1
      have nx : ∀ b : Int, (b = 0 ∨ b = 1) → (b = 1 ↔ sf_cb L q k) → AW l E (d + 1) 0 0 mX0_makeCallersStale 18 [some (vr 48), some (vi q), some (vi (k + 1)), none, none] [vi n, vi (k + 1)] sk_G (sk_uI I' 52 k (sk_or (I' 52 k) b), L, sk_J cu sp io rp tp p) Q := by
        intro b hb hcb
        obtain ⟨o1, o2, o3⟩ := sf_or01 v52 hb
        refine ih (k + 1) _ (by omega) (by omega) ⟨fun c hc => by rw [sk_uI_o hc]; exact h.1 c hc, fun j j0 j1 j2 => ?_, fun j hj => by rw [sk_uI_s, sk_up_o (by omega)]; exact h.2.2 j (by omega)⟩
        rw [sk_uI_s]
        by_cases e : j = k
        · subst e
          rw [sk_up_s]
          refine ⟨fun z => o2 (hcb.mpr z), fun z => ?_⟩
          rw [o3 (hb.resolve_right (fun y => z (hcb.mp y)))]
          exact h.2.2 j (Int.le_refl j)
        · rw [sk_up_o e]
          exact h.2.1 j j0 (by omega) j2
      have nx0 : ¬ sf_cb L q k → _ := fun z => nx 0 (Or.inl rfl) ⟨fun y => by omega, fun y => absurd y z⟩
      have nx1 : sf_cb L q k → _ := fun z => nx 1 (Or.inr rfl) ⟨fun _ => z, fun _ => rfl⟩
      obtain ⟨y0, -, -⟩ := sf_or01 v52 (b := 0) (Or.inl rfl)
      obtain ⟨y1, -, -⟩ := sf_or01 v52 (b := 1) (Or.inr rfl)
      clear nx ih
      have hn' : I' 48 12 = n := by rw [e48, hn]
      refine AW_icge rfl (fun g => by omega) (fun g => ?_) (by unfold sk_in; omega) (by unfold sk_in; omega)
      refine AW_run 80 rfl ?_
      rw [sh.1]
      refine AW_lald rfl rfl ⟨by omega, by omega⟩ (by decide) ?_
      refine AW_run 80 rfl ?_
      refine AW_zald rfl rfl ⟨by omega, by omega⟩ (by decide) ?_
      refine AW_run 80 rfl ?_
      rw [sh.2]
      refine AW_ifne rfl (fun g => ?_) (fun g => ?_) lc.2
      · have nx0 := nx0 (fun z => g (lc.1.mpr (tst.mpr z)))
        rw [← hn'] at nx0
        refine AW_run 80 rfl ?_
        refine AW_zast rfl rfl ⟨by omega, by omega⟩ (by decide) (y0) ?_
        refine AW_run 80 rfl ?_
        exact AW_lk nx0 ⟨rfl, rfl, rfl, trivial⟩
      · have nx1 := nx1 (tst.mp (lc.1.mp g))
        rw [← hn'] at nx1
        refine AW_run 80 rfl ?_
        refine AW_zast rfl rfl ⟨by omega, by omega⟩ (by decide) (y1) ?_
        refine AW_run 80 rfl ?_
        exact AW_lk nx1 ⟨rfl, rfl, rfl, trivial⟩
  have lp := lp n.toNat 0 I (by omega) (by omega) ⟨fun _ _ => rfl, fun j a b => by omega, fun _ _ => rfl⟩
  rw [← hn] at lp
  refine AW_run 80 rfl ?_
  refine AW_within rfl kkX0_103 rfl (by omega) (fun w1 w2 => ?_) (fun w3 => by omega)
  refine AW_run 80 rfl ?_
  first | refine AW_e1 rfl ?_ | refine AW_e0 rfl ?_ | refine AW_n1 rfl ?_ | refine AW_n0 rfl ?_
  refine AW_run 80 rfl ?_
  exact AW_lk lp ⟨rfl, rfl, rfl, trivial⟩
end SKFe
