/-! ===== SealKeeperModel: same, cover, pairOf (pairs 59 60, tooMany 59 70, news 59 71, pairMethod 91, pairTable 92, pairEnds 93, pairBacks 94, pairFails 95, tables 96, called 97, isWalked 98, isOpen 99) ===== -/
/-- from a place on k numbers of a cell are those of a row -/
def sg_wr (c : Nat) (b : Int) (f : Int → Int) (k : Int) (I I' : sk_SI) : Prop := (∀ c', c' ≠ c → I' c' = I c') ∧ (∀ r, 0 ≤ r → r < k → I' c (b + r) = f r) ∧ ∀ i, ¬ (b ≤ i ∧ i < b + k) → I' c i = I c i
theorem sg_wr_0 (c : Nat) (b : Int) (f : Int → Int) (I : sk_SI) : sg_wr c b f 0 I I := ⟨fun _ _ => rfl, fun r a b => by omega, fun _ _ => rfl⟩
theorem sg_wr_s {c : Nat} {b k v : Int} {f : Int → Int} {I I' : sk_SI} (h : sg_wr c b f k I I') (hk : 0 ≤ k) (hv : v = f k) : sg_wr c b f (k + 1) I (sk_uI I' c (b + k) v) := by
  obtain ⟨h1, h2, h3⟩ := h
  refine ⟨fun c' hc => by rw [sk_uI_o hc]; exact h1 c' hc, fun r r0 r1 => ?_, fun i hi => ?_⟩
  · rw [sk_uI_s]
    by_cases e : r = k
    · subst e; rw [sk_up_s, hv]
    · rw [sk_up_o (by omega)]
      exact h2 r r0 (by omega)
  · rw [sk_uI_s, sk_up_o (by omega)]
    exact h3 i (by omega)
section SKG1
variable {l : Launch} {E : sk_En} {d : Nat} {L : sk_SL} {J : sk_SR} {cu sp io rp tp fp : Nat} {Q : Option sk_V → List sk_Sh → sk_St → Prop}
theorem c_M_same (I : sk_SI) (dp : Int) (hd : 0 ≤ dp ∧ dp ≤ 14) (hq : ∀ I', sg_wr 96 (80 * (dp + 1)) (fun r => I 96 (80 * dp + r)) 80 I I' → Q none sk_G (I', L, sk_J cu sp io rp tp fp)) : AW l E d 0 0 mX10_same 0 [some (vr 59), some (vi dp), none] [] sk_G (I, L, sk_J cu sp io rp tp fp) Q := by
  have lp : ∀ (k : Nat) (r : Int) (I' : sk_SI), 0 ≤ r → r + k = 80 → sg_wr 96 (80 * (dp + 1)) (fun r => I 96 (80 * dp + r)) r I I' → AW l E d 0 0 mX10_same 5 [some (vr 59), some (vi dp), some (vi r)] [vi 80, vi r] sk_G (I', L, sk_J cu sp io rp tp fp) Q := by
    intro k
    induction k with
    | zero =>
      intro r I' r0 hr h
      have : r = 80 := by omega
      subst this
      have hq := hq I' h
      refine AW_icge rfl (fun g => ?_) (fun g => by omega)
      exact AW_vret rfl rfl hq
    | succ k ih =>
      intro r I' r0 hr h
      have ih2 := ih (r + 1) _ (by omega) (by omega) (sg_wr_s h r0 (v := I' 96 (80 * dp + r)) (h.2.2 _ (by omega)))
      refine AW_icge rfl (fun g => by omega) (fun g => ?_) (by unfold sk_in; omega)
      refine AW_run 80 rfl ?_
      refine AW_iald rfl rfl ⟨by omega, by omega⟩ (by decide) ?_
      refine AW_iast rfl rfl ⟨by omega, by omega⟩ (by decide) ?_
      refine AW_run 80 rfl ?_
      exact ih2
  have lp := lp 80 0 I (by omega) (by omega) (sg_wr_0 _ _ _ _)
  refine AW_run 80 rfl ?_
  exact lp
/-- the table within a block, as the model makes it -/
def sg_cv (I : sk_SI) (s dp : Int) : Int → Int := fun r => if r / 10 = I 69 s then (if I 67 s = 3 then I 64 (I 68 s) else if r % 10 ≤ I 70 s then (if r % 10 ≤ I 61 (8 * I 64 (I 68 s) + r / 10) then -1 else I 64 (I 68 s)) else I 96 (80 * dp + r)) else I 96 (80 * dp + r)
theorem c_M_cover (I : sk_SI) (s dp : Int) (hd : 0 ≤ dp ∧ dp ≤ 14) (hs : 0 ≤ s ∧ s < 200) (hw : I 67 s = 2 ∨ I 67 s = 3) (h1 : 0 ≤ I 69 s ∧ I 69 s ≤ 7) (h2 : -1 ≤ I 70 s ∧ I 70 s ≤ 9) (hm : 0 ≤ I 68 s ∧ I 68 s < 20) (ho : 0 ≤ I 64 (I 68 s) ∧ I 64 (I 68 s) ≤ 7) (hr : ∀ i, 0 ≤ i → i < 64 → -1 ≤ I 61 i ∧ I 61 i ≤ 9) (hq : ∀ I', sg_wr 96 (80 * (dp + 1)) (sg_cv I s dp) 80 I I' → Q none sk_G (I', L, sk_J cu sp io rp tp fp)) : AW l E (d + 1) 0 0 mX10_cover 0 [some (vr 59), some (vi s), some (vi dp), none, none, none, none, none] [] sk_G (I, L, sk_J cu sp io rp tp fp) Q := by
  have lp : ∀ (k : Nat) (r : Int) (I' : sk_SI), 0 ≤ r → r + k = 80 → sg_wr 96 (80 * (dp + 1)) (sg_cv I s dp) r I I' → AW l E (d + 1) 0 0 mX10_cover 19 [some (vr 59), some (vi s), some (vi dp), some (vi (I 64 (I 68 s))), some (vi r), none, none, none] [vi 80, vi r] sk_G (I', L, sk_J cu sp io rp tp fp) Q := by
    intro k
    induction k with
    | zero =>
      intro r I' r0 hr h
      have : r = 80 := by omega
      subst this
      have hq := hq I' h
      refine AW_icge rfl (fun g => ?_) (fun g => by omega)
      exact AW_vret rfl rfl hq
    | succ k ih =>
      intro r I' r0 hrk h
      have e67 : I' 67 = I 67 := h.1 67 (by decide)
      have e69 : I' 69 = I 69 := h.1 69 (by decide)
      have e70 : I' 70 = I 70 := h.1 70 (by decide)
      have e61 : I' 61 = I 61 := h.1 61 (by decide)
      have e96 : I' 96 (80 * dp + r) = I 96 (80 * dp + r) := h.2.2 _ (by omega)
      have put : ∀ v ls, v = sg_cv I s dp r → ls = [some (vr 59), some (vi s), some (vi dp), some (vi (I 64 (I 68 s))), some (vi r), none, none, some (vi v)] → AW l E (d + 1) 0 0 mX10_cover 125 ls [] sk_G (I', L, sk_J cu sp io rp tp fp) Q := by
        intro v ls hv hls
        subst hls
        have ih2 := ih (r + 1) _ (by omega) (by omega) (sg_wr_s h r0 hv)
        refine AW_run 80 rfl ?_
        refine AW_iast rfl rfl ⟨by omega, by omega⟩ (by decide) ?_
        refine AW_run 80 rfl ?_
        exact AW_lk ih2 ⟨rfl, rfl, rfl, rfl, rfl, trivial⟩
      have put := fun v hv => put v _ hv rfl
      unfold sg_cv at put
      have ru := hr (8 * I 64 (I 68 s) + r / 10)
      clear ih hq
      refine AW_icge rfl (fun g => by omega) (fun g => ?_) (by unfold sk_in; omega)
      refine AW_run 80 rfl ?_
      refine AW_idiv rfl (by omega) (by omega) ?_
      refine AW_run 80 rfl ?_
      refine AW_irem rfl (by omega) (by omega) ?_
      refine AW_run 80 rfl ?_
      refine AW_iald rfl rfl ⟨by omega, by omega⟩ (by decide) ?_
      rw [e96]
      refine AW_run 80 rfl ?_
      refine AW_iald rfl rfl ⟨by omega, by omega⟩ (by decide) ?_
      rw [e69]
      refine AW_icne rfl (fun g2 => ?_) (fun g2 => ?_) (by unfold sk_in; omega) (by unfold sk_in; omega)
      · have put := put (I 96 (80 * dp + r)) (by rw [if_neg g2])
        refine AW_run 80 rfl ?_
        refine AW_iald rfl rfl ⟨by omega, by omega⟩ (by decide) ?_
        rw [e69]
        refine AW_icne rfl (fun g3 => ?_) (fun g3 => absurd g3 g2) (by unfold sk_in; omega) (by unfold sk_in; omega)
        exact AW_lk put ⟨rfl, rfl, rfl, rfl, rfl, rfl, trivial⟩
      · refine AW_run 80 rfl ?_
        refine AW_iald rfl rfl ⟨by omega, by omega⟩ (by decide) ?_
        rw [e67]
        refine AW_run 80 rfl ?_
        refine AW_icne rfl (fun g3 => ?_) (fun g3 => ?_) (by unfold sk_in; omega)
        · have w2 : I 67 s = 2 := by omega
          refine AW_run 80 rfl ?_
          refine AW_iald rfl rfl ⟨by omega, by omega⟩ (by decide) ?_
          rw [e69]
          refine AW_icne rfl (fun g4 => absurd g2 g4) (fun g4 => ?_) (by unfold sk_in; omega) (by unfold sk_in; omega)
          refine AW_run 80 rfl ?_
          refine AW_iald rfl rfl ⟨by omega, by omega⟩ (by decide) ?_
          rw [e67]
          refine AW_run 80 rfl ?_
          refine AW_icne rfl (fun g5 => absurd w2 g5) (fun g5 => ?_) (by unfold sk_in; omega)
          refine AW_run 80 rfl ?_
          refine AW_iald rfl rfl ⟨by omega, by omega⟩ (by decide) ?_
          rw [e70]
          refine AW_run 80 rfl ?_
          refine AW_iclt rfl (fun g6 => ?_) (fun g6 => ?_) (by unfold sk_in; omega) (by unfold sk_in; omega)
          · have put := put (I 96 (80 * dp + r)) (by rw [if_pos g2, if_neg g3, if_neg (by omega)])
            exact AW_lk put ⟨rfl, rfl, rfl, rfl, rfl, rfl, trivial⟩
          · have ru := ru (by omega) (by omega)
            refine AW_run 80 rfl ?_
            refine AW_cV (M' := mX10_hasRight) (d' := d) rfl kkX10_260 lcX10_hasRight rfl rfl rfl rfl rfl rfl (Nat.le_refl _) ?_
            refine c_M_has _ _ _ (by omega) (by omega) (by unfold sk_in; omega) (by rw [e61]; unfold sk_in; omega) (fun z => ?_) (fun z => ?_)
            · rw [e61] at z
              have put := put (-1) (by rw [if_pos g2, if_neg g3, if_pos (by omega), if_pos z])
              refine AW_run 80 rfl ?_
              first | refine AW_e1 rfl ?_ | refine AW_e0 rfl ?_ | refine AW_n1 rfl ?_ | refine AW_n0 rfl ?_
              refine AW_run 3 rfl ?_
              exact AW_lk put ⟨rfl, rfl, rfl, rfl, rfl, rfl, trivial⟩
            · rw [e61] at z
              have put := put (I 64 (I 68 s)) (by rw [if_pos g2, if_neg g3, if_pos (by omega), if_neg (by omega)])
              refine AW_run 80 rfl ?_
              first | refine AW_e1 rfl ?_ | refine AW_e0 rfl ?_ | refine AW_n1 rfl ?_ | refine AW_n0 rfl ?_
              refine AW_run 2 rfl ?_
              exact AW_lk put ⟨rfl, rfl, rfl, rfl, rfl, rfl, trivial⟩
        · have put := put (I 64 (I 68 s)) (by rw [if_pos g2, if_pos g3])
          refine AW_run 80 rfl ?_
          refine AW_iald rfl rfl ⟨by omega, by omega⟩ (by decide) ?_
          rw [e69]
          refine AW_icne rfl (fun g4 => absurd g2 g4) (fun g4 => ?_) (by unfold sk_in; omega) (by unfold sk_in; omega)
          refine AW_run 80 rfl ?_
          refine AW_iald rfl rfl ⟨by omega, by omega⟩ (by decide) ?_
          rw [e67]
          refine AW_run 80 rfl ?_
          refine AW_icne rfl (fun g5 => ?_) (fun g5 => by omega) (by unfold sk_in; omega)
          exact AW_lk put ⟨rfl, rfl, rfl, rfl, rfl, rfl, trivial⟩
  have lp := lp 80 0 I (by omega) (by omega) (sg_wr_0 _ _ _ _)
  refine AW_run 80 rfl ?_
  refine AW_iald rfl rfl ⟨by omega, by omega⟩ (by decide) ?_
  refine AW_iald rfl rfl ⟨by omega, by omega⟩ (by decide) ?_
  refine AW_run 80 rfl ?_
  exact AW_lk lp ⟨rfl, rfl, rfl, rfl, rfl, trivial⟩
end SKG1
