/-! ===== Stacks.refuser, the model's judge ===== -/
/-- a program that can be run -/
def sk_pv (p : Nat) (D : Int → Int) (I : sk_SI) : Prop := (1 ≤ I p 9 ∧ I p 9 ≤ 20) ∧ (0 ≤ I p 10 ∧ I p 10 ≤ 200) ∧ sk_wl p I D ∧ sk_wm p I D ∧ ∀ s, 0 ≤ s → s < I p 10 → (I (p + 3) s = 1 ∨ I (p + 3) s = 6) → I (p + 5) s < I p 9
/-- an entry -/
def sk_ev1 (p : Nat) (I : sk_SI) (e : Int) : Prop := ((0 ≤ I 46 e ∧ I 46 e < I p 10 ∧ (I (p + 3) (I 46 e) = 2 ∨ I (p + 3) (I 46 e) = 3 ∨ I (p + 3) (I 46 e) = 5)) ∨ (- I p 9 ≤ I 46 e ∧ I 46 e ≤ -1)) ∧ (-1 ≤ I 47 e ∧ I 47 e < e)
def sk_ev (p : Nat) (I : sk_SI) : Prop := ∀ e, 0 ≤ e → e < I 45 4 → sk_ev1 p I e
def sk_ru (I : sk_SI) : Prop := ∀ i, 0 ≤ i → i < 64 → -1 ≤ I 8 i ∧ I 8 i ≤ 9
/-- who refuses -/
def sk_rf (p : Nat) (I : sk_SI) (k l : Int) : Nat → Int → Int
  | 0, _ => -1
  | n + 1, a => if a < 0 then -1 else if I 46 a < 0 then (if l ≤ I 8 (I (p + 1) (-1 - I 46 a) * 8 + k) then sk_rf p I k l n (I 47 a) else I (p + 1) (-1 - I 46 a))
    else if I (p + 3) (I 46 a) = 3 then (if I (p + 5) (I 46 a) = k then I (p + 1) (I (p + 4) (I 46 a)) else sk_rf p I k l n (I 47 a))
    else if I (p + 3) (I 46 a) = 2 then (if I (p + 5) (I 46 a) = k ∧ l ≤ I (p + 6) (I 46 a) then (if l ≤ I 8 (I (p + 1) (I (p + 4) (I 46 a)) * 8 + k) then -1 else I (p + 1) (I (p + 4) (I 46 a))) else sk_rf p I k l n (I 47 a))
    else (if l ≤ I 8 (I (p + 1) (I (p + 4) (I 46 a)) * 8 + k) then sk_rf p I k l n (I 47 a) else I (p + 1) (I (p + 4) (I 46 a)))
section SKT1
variable {l : Launch} {E : sk_En} {d : Nat} {I : sk_SI} {L : sk_SL} {cu sp io rp tp fp p : Nat} {Q : Option sk_V → List sk_Sh → sk_St → Prop} {D : Int → Int}
theorem c_St_refuser_lp (hp : sk_pg p) (hv : sk_pv p D I) (he : sk_ev p I) (hr : sk_ru I) (hz : 0 ≤ I 45 4 ∧ I 45 4 ≤ 3021) (st k v : Int) (hk : 0 ≤ k ∧ k ≤ 7) (hl : 0 ≤ v ∧ v ≤ 9) : ∀ (n : Nat) (a : Int), a < n → n ≤ 3021 → -1 ≤ a ∧ a < I 45 4 → Q (some (vi (sk_rf p I k v n a))) sk_G (I, L, sk_J cu sp io rp p fp) → AW l E (d + 2) 0 0 mX7_refuser 10 [some (vr 45), some (vi st), some (vi k), some (vi v), some (vi a), some (vi n), none, none, none, none, none, none] [vi n] sk_G (I, L, sk_J cu sp io rp p fp) Q := by
  intro n
  obtain ⟨v9, v10, vl, vm, vc⟩ := hv
  induction n with
  | zero =>
    intro a ha hn hb hq
    refine AW_ifle rfl (fun g => ?_) (fun g => absurd (Int.le_refl 0) g)
    refine AW_run 80 rfl ?_
    exact AW_iret rfl rfl hq
  | succ n ih =>
    intro a ha hn hb hq
    have hp' := hp
    have ein : ((n + 1 : Nat) : Int) + -1 = n := by omega
    refine AW_ifle rfl (fun g => by omega) (fun g => ?_) (by unfold sk_in; omega)
    by_cases ha0 : a < 0
    · unfold sk_rf at hq
      rw [if_pos ha0] at hq
      refine AW_run 80 rfl ?_
      refine AW_within rfl kkX7_34 rfl (by omega) (fun w1 w2 => by omega) (fun w3 => ?_)
      refine AW_run 80 rfl ?_
      first | refine AW_e1 rfl ?_ | refine AW_e0 rfl ?_ | refine AW_n1 rfl ?_ | refine AW_n0 rfl ?_
      refine AW_run 80 rfl ?_
      exact AW_iret rfl rfl hq
    · obtain ⟨e1, e2⟩ := he a (by omega) hb.2
      have hi : sk_in (I 46 a) := by unfold sk_in; omega
      unfold sk_rf at hq
      rw [if_neg ha0] at hq
      have ih2 : Q (some (vi (sk_rf p I k v n (I 47 a)))) sk_G (I, L, sk_J cu sp io rp p fp) → AW l E (d + 2) 0 0 mX7_refuser 10 [some (vr 45), some (vi st), some (vi k), some (vi v), some (vi (I 47 a)), some (vi (((n + 1 : Nat) : Int) + -1)), none, none, none, none, none, none] [vi (((n + 1 : Nat) : Int) + -1)] sk_G (I, L, sk_J cu sp io rp p fp) Q := by
        intro z
        rw [ein]
        exact ih (I 47 a) (by omega) (by omega) (by omega) z
      have cont : ∀ (x6 x7 x8 x9 x10 x11 : Int), Q (some (vi (sk_rf p I k v n (I 47 a)))) sk_G (I, L, sk_J cu sp io rp p fp) → AW l E (d + 2) 0 0 mX7_refuser 221 [some (vr 45), some (vi st), some (vi k), some (vi v), some (vi a), some (vi ((n + 1 : Nat) : Int)), some (vi x6), some (vi x7), some (vi x8), some (vi x9), some (vi x10), some (vi x11)] [vi a, vr 47] sk_G (I, L, sk_J cu sp io rp p fp) Q := by
        intro x6 x7 x8 x9 x10 x11 z
        have ih2 := ih2 z
        refine AW_iald rfl rfl ⟨by omega, by omega⟩ (by decide) ?_
        refine AW_run 80 rfl ?_
        exact AW_lk ih2 ⟨rfl, rfl, rfl, rfl, rfl, rfl, trivial⟩
      have own : ∀ m, 0 ≤ m → m < I p 9 → 0 ≤ I (p + 1) m ∧ I (p + 1) m ≤ 7 ∧ sk_in (I 8 (I (p + 1) m * 8 + k)) := by
        intro m m0 m1
        have := (vm m m0 m1).1
        have := hr (I (p + 1) m * 8 + k) (by omega) (by omega)
        unfold sk_in
        omega
      by_cases hneg : I 46 a < 0
      · rw [if_pos hneg] at hq
        obtain ⟨o1, o2, o3⟩ := own (-1 - I 46 a) (by omega) (by omega)
        rcases hp with rfl | rfl <;>
        · have hm1 : sk_in (-1 - I 46 a) := by unfold sk_in; omega
          refine AW_run 80 rfl ?_
          refine AW_within rfl kkX7_34 rfl (by omega) (fun w1 w2 => ?_) (fun w3 => by omega)
          refine AW_run 80 rfl ?_
          first | refine AW_e1 rfl ?_ | refine AW_e0 rfl ?_ | refine AW_n1 rfl ?_ | refine AW_n0 rfl ?_
          refine AW_run 80 rfl ?_
          refine AW_iald rfl rfl ⟨by omega, by omega⟩ (by decide) ?_
          refine AW_run 80 rfl ?_
          refine AW_cV (M' := mX2_hasStep) rfl kkX7_38 lcX2_hasStep rfl rfl rfl rfl rfl rfl (Nat.le_refl _) ?_
          refine c_Pg_has _ hp' _ hi v10 (fun z => by omega) (fun z => ?_)
          refine AW_run 80 rfl ?_
          first | refine AW_e1 rfl ?_ | refine AW_e0 rfl ?_ | refine AW_n1 rfl ?_ | refine AW_n0 rfl ?_
          refine AW_run 80 rfl ?_
          first | refine AW_e1 rfl ?_ | refine AW_e0 rfl ?_ | refine AW_n1 rfl ?_ | refine AW_n0 rfl ?_
          refine AW_run 80 rfl ?_
          first | refine AW_e1 rfl ?_ | refine AW_e0 rfl ?_ | refine AW_n1 rfl ?_ | refine AW_n0 rfl ?_
          refine AW_run 80 rfl ?_
          refine AW_cV (M' := mX2_ownerOf) rfl kkX7_53 lcX2_ownerOf rfl rfl rfl rfl rfl rfl (Nat.le_refl _) ?_
          refine c_Pg_owner _ hp' _ hm1 ⟨by omega, v9.2⟩ (fun z1 z2 => ?_) (fun z => by omega)
          refine AW_run 80 rfl ?_
          refine AW_cV (M' := mX5_of) rfl kkX7_57 lcX5_of rfl rfl rfl rfl rfl rfl (Nat.le_refl _) ?_
          refine c_Rules_of _ _ (by unfold sk_in; omega) (by unfold sk_in; omega) (fun q1 q2 q3 q4 => ?_) (fun z => by omega)
          refine AW_run 80 rfl ?_
          refine AW_iclt rfl (fun g2 => ?_) (fun g2 => ?_) o3 (by unfold sk_in; omega)
          · rw [if_neg (Int.not_le.mpr g2)] at hq
            refine AW_run 80 rfl ?_
            refine AW_icne rfl (fun g3 => ?_) (fun g3 => by omega)
            refine AW_run 80 rfl ?_
            refine AW_icne rfl (fun g3 => ?_) (fun g3 => by omega)
            refine AW_run 80 rfl ?_
            refine AW_iceq rfl (fun g3 => by omega) (fun g3 => ?_)
            refine AW_run 80 rfl ?_
            refine AW_iceq rfl (fun g3 => by omega) (fun g3 => ?_)
            refine AW_run 80 rfl ?_
            first | refine AW_e1 rfl ?_ | refine AW_e0 rfl ?_ | refine AW_n1 rfl ?_ | refine AW_n0 rfl ?_
            refine AW_run 80 rfl ?_
            exact AW_iret rfl rfl hq
          · rw [if_pos (Int.not_lt.mp g2)] at hq
            have cont := fun x6 x7 x8 x9 x10 x11 => cont x6 x7 x8 x9 x10 x11 hq
            refine AW_run 80 rfl ?_
            refine AW_icne rfl (fun g3 => ?_) (fun g3 => by omega)
            refine AW_run 80 rfl ?_
            refine AW_icne rfl (fun g3 => ?_) (fun g3 => by omega)
            refine AW_run 80 rfl ?_
            refine AW_iceq rfl (fun g3 => by omega) (fun g3 => ?_)
            refine AW_run 80 rfl ?_
            refine AW_iceq rfl (fun g3 => by omega) (fun g3 => ?_)
            refine AW_run 80 rfl ?_
            first | refine AW_e1 rfl ?_ | refine AW_e0 rfl ?_ | refine AW_n1 rfl ?_ | refine AW_n0 rfl ?_
            refine AW_run 80 rfl ?_
            exact cont _ _ _ _ _ _
      · rw [if_neg hneg] at hq
        have e1 : 0 ≤ I 46 a ∧ I 46 a < I p 10 ∧ (I (p + 3) (I 46 a) = 2 ∨ I (p + 3) (I 46 a) = 3 ∨ I (p + 3) (I 46 a) = 5) := by
          rcases e1 with e1 | e1
          · exact e1
          · omega
        obtain ⟨l1, l2, l3, l4, -⟩ := vl (I 46 a) e1.1 e1.2.1
        obtain ⟨o1, o2, o3⟩ := own (I (p + 4) (I 46 a)) l2.1 l2.2
        generalize hw : I (p + 3) (I 46 a) = w at *
        have hf5 : 0 ≤ I (p + 5) (I 46 a) ∧ I (p + 5) (I 46 a) ≤ 999 := by
          unfold sk_no at l3
          rcases e1.2.2 with rfl | rfl | rfl
          · have : sk_mf 2 = 7 := rfl
            omega
          · have : sk_mf 3 = 7 := rfl
            omega
          · have : sk_mf 5 = 3 := rfl
            omega
        have hf6 : sk_in (I (p + 6) (I 46 a)) := by
          unfold sk_no at l4
          unfold sk_in
          rcases e1.2.2 with rfl | rfl | rfl
          · have : sk_ms 2 = 9 := rfl
            omega
          · have : sk_ms 3 = -1 := rfl
            omega
          · have : sk_ms 5 = -1 := rfl
            omega
        have i5 : sk_in (I (p + 5) (I 46 a)) := by unfold sk_in; omega
        have wi : sk_in w := by unfold sk_in; omega
        have m4 : sk_in (I (p + 4) (I 46 a)) := by unfold sk_in; omega
        have tail : ∀ sm : Int, (sm = if I (p + 5) (I 46 a) = k then 1 else 0) → AW l E (d + 2) 0 0 mX7_refuser 134 [some (vr 45), some (vi st), some (vi k), some (vi v), some (vi a), some (vi ((n + 1 : Nat) : Int)), some (vi (I 46 a)), some (vi 1), some (vi w), some (vi sm), some (vi (I (p + 1) (I (p + 4) (I 46 a)))), none] [vi v, vi (I 8 (I (p + 1) (I (p + 4) (I 46 a)) * 8 + k))] sk_G (I, L, sk_J cu sp io rp p fp) Q := by
          intro sm hsm
          have sm1 : sk_in sm := by unfold sk_in; split at hsm <;> omega
          have fin : ∀ hs : Int, (hs = if v ≤ I 8 (I (p + 1) (I (p + 4) (I 46 a)) * 8 + k) then 1 else 0) → AW l E (d + 2) 0 0 mX7_refuser 147 [some (vr 45), some (vi st), some (vi k), some (vi v), some (vi a), some (vi ((n + 1 : Nat) : Int)), some (vi (I 46 a)), some (vi 1), some (vi w), some (vi sm), some (vi (I (p + 1) (I (p + 4) (I 46 a)))), some (vi hs)] [vi 3, vi w] sk_G (I, L, sk_J cu sp io rp p fp) Q := by
            intro hs hhs
            have hs1 : sk_in hs := by unfold sk_in; split at hhs <;> omega
            refine AW_icne rfl (fun g3 => ?_) (fun g3 => ?_) wi
            · rw [if_neg g3] at hq
              refine AW_run 80 rfl ?_
              refine AW_icne rfl (fun g2 => ?_) (fun g2 => ?_) wi
              · rw [if_neg g2] at hq
                refine AW_run 80 rfl ?_
                refine AW_iceq rfl (fun z => absurd z g3) (fun _ => ?_) wi
                refine AW_run 80 rfl ?_
                refine AW_iceq rfl (fun z => absurd z g2) (fun _ => ?_) wi
                refine AW_run 80 rfl ?_
                by_cases hh : v ≤ I 8 (I (p + 1) (I (p + 4) (I 46 a)) * 8 + k)
                · rw [if_pos hh] at hq hhs
                  have cont := fun x6 x7 x8 x9 x10 x11 => cont x6 x7 x8 x9 x10 x11 hq
                  subst hhs
                  first | refine AW_e1 rfl ?_ | refine AW_e0 rfl ?_ | refine AW_n1 rfl ?_ | refine AW_n0 rfl ?_
                  refine AW_run 80 rfl ?_
                  exact cont _ _ _ _ _ _
                · rw [if_neg hh] at hq hhs
                  subst hhs
                  first | refine AW_e1 rfl ?_ | refine AW_e0 rfl ?_ | refine AW_n1 rfl ?_ | refine AW_n0 rfl ?_
                  refine AW_run 80 rfl ?_
                  exact AW_iret rfl rfl hq
              · rw [if_pos g2] at hq
                have down : Q (some (vi (sk_rf p I k v n (I 47 a)))) sk_G (I, L, sk_J cu sp io rp p fp) → AW l E (d + 2) 0 0 mX7_refuser 198 [some (vr 45), some (vi st), some (vi k), some (vi v), some (vi a), some (vi ((n + 1 : Nat) : Int)), some (vi (I 46 a)), some (vi 1), some (vi w), some (vi sm), some (vi (I (p + 1) (I (p + 4) (I 46 a)))), some (vi hs)] [vi 3, vi w] sk_G (I, L, sk_J cu sp io rp p fp) Q := by
                  intro z
                  have cont := fun x6 x7 x8 x9 x10 x11 => cont x6 x7 x8 x9 x10 x11 z
                  refine AW_iceq rfl (fun z => absurd z g3) (fun _ => ?_) wi
                  refine AW_run 80 rfl ?_
                  refine AW_iceq rfl (fun _ => ?_) (fun z => absurd g2 z) wi
                  refine AW_run 80 rfl ?_
                  exact cont _ _ _ _ _ _
                refine AW_run 80 rfl ?_
                by_cases h5 : I (p + 5) (I 46 a) = k
                · rw [if_pos h5] at hsm
                  subst hsm
                  rcases hp with rfl | rfl <;>
                  · first | refine AW_e1 rfl ?_ | refine AW_e0 rfl ?_ | refine AW_n1 rfl ?_ | refine AW_n0 rfl ?_
                    refine AW_run 80 rfl ?_
                    refine AW_iald rfl rfl ⟨by omega, by omega⟩ (by decide) ?_
                    refine AW_run 80 rfl ?_
                    refine AW_iclt rfl (fun g6 => ?_) (fun g6 => ?_) hf6 (by unfold sk_in; omega)
                    · rw [if_neg (fun z => absurd z.2 (Int.not_le.mpr g6))] at hq
                      have down := down hq
                      refine AW_run 80 rfl ?_
                      exact down
                    · rw [if_pos ⟨h5, Int.not_lt.mp g6⟩] at hq
                      refine AW_run 80 rfl ?_
                      split at hq
                      · rename_i hh
                        rw [if_pos hh] at hhs
                        subst hhs
                        first | refine AW_e1 rfl ?_ | refine AW_e0 rfl ?_ | refine AW_n1 rfl ?_ | refine AW_n0 rfl ?_
                        refine AW_run 80 rfl ?_
                        exact AW_iret rfl rfl hq
                      · rename_i hh
                        rw [if_neg hh] at hhs
                        subst hhs
                        first | refine AW_e1 rfl ?_ | refine AW_e0 rfl ?_ | refine AW_n1 rfl ?_ | refine AW_n0 rfl ?_
                        refine AW_run 80 rfl ?_
                        exact AW_iret rfl rfl hq
                · rw [if_neg h5] at hsm
                  rw [if_neg (fun z => h5 z.1)] at hq
                  have down := down hq
                  subst hsm
                  first | refine AW_e1 rfl ?_ | refine AW_e0 rfl ?_ | refine AW_n1 rfl ?_ | refine AW_n0 rfl ?_
                  refine AW_run 80 rfl ?_
                  exact down
            · rw [if_pos g3] at hq
              refine AW_run 80 rfl ?_
              by_cases h5 : I (p + 5) (I 46 a) = k
              · rw [if_pos h5] at hsm hq
                subst hsm
                first | refine AW_e1 rfl ?_ | refine AW_e0 rfl ?_ | refine AW_n1 rfl ?_ | refine AW_n0 rfl ?_
                refine AW_run 80 rfl ?_
                exact AW_iret rfl rfl hq
              · rw [if_neg h5] at hsm hq
                have cont := fun x6 x7 x8 x9 x10 x11 => cont x6 x7 x8 x9 x10 x11 hq
                subst hsm
                first | refine AW_e1 rfl ?_ | refine AW_e0 rfl ?_ | refine AW_n1 rfl ?_ | refine AW_n0 rfl ?_
                refine AW_run 80 rfl ?_
                refine AW_icne rfl (fun z => ?_) (fun z => by omega) wi
                refine AW_run 80 rfl ?_
                refine AW_iceq rfl (fun z => ?_) (fun z => absurd g3 z) wi
                refine AW_run 80 rfl ?_
                exact cont _ _ _ _ _ _
          refine AW_iclt rfl (fun g2 => ?_) (fun g2 => ?_) o3 (by unfold sk_in; omega)
          · have fin := fin 0 (by rw [if_neg (Int.not_le.mpr g2)])
            refine AW_run 80 rfl ?_
            exact fin
          · have fin := fin 1 (by rw [if_pos (Int.not_lt.mp g2)])
            refine AW_run 80 rfl ?_
            exact fin
        have b1 : 0 ≤ I p 9 ∧ I p 9 ≤ 20 := by omega
        have oi : sk_in (I (p + 1) (I (p + 4) (I 46 a))) := by unfold sk_in; omega
        have ob : 0 ≤ I (p + 1) (I (p + 4) (I 46 a)) ∧ I (p + 1) (I (p + 4) (I 46 a)) < 8 ∧ 0 ≤ k ∧ k < 8 := by omega
        rcases hp with rfl | rfl <;>
        · refine AW_run 80 rfl ?_
          refine AW_within rfl kkX7_34 rfl (by omega) (fun w1 w2 => ?_) (fun w3 => by omega)
          refine AW_run 80 rfl ?_
          first | refine AW_e1 rfl ?_ | refine AW_e0 rfl ?_ | refine AW_n1 rfl ?_ | refine AW_n0 rfl ?_
          refine AW_run 80 rfl ?_
          refine AW_iald rfl rfl ⟨by omega, by omega⟩ (by decide) ?_
          refine AW_run 80 rfl ?_
          refine AW_cV (M' := mX2_hasStep) rfl kkX7_38 lcX2_hasStep rfl rfl rfl rfl rfl rfl (Nat.le_refl _) ?_
          refine c_Pg_has _ hp' _ hi v10 (fun z1 z2 => ?_) (fun z => by omega)
          refine AW_run 80 rfl ?_
          first | refine AW_e1 rfl ?_ | refine AW_e0 rfl ?_ | refine AW_n1 rfl ?_ | refine AW_n0 rfl ?_
          refine AW_run 80 rfl ?_
          refine AW_iald rfl rfl ⟨by omega, by omega⟩ (by decide) ?_
          rw [hw]
          refine AW_run 80 rfl ?_
          first | refine AW_e1 rfl ?_ | refine AW_e0 rfl ?_ | refine AW_n1 rfl ?_ | refine AW_n0 rfl ?_
          refine AW_run 80 rfl ?_
          refine AW_iald rfl rfl ⟨by omega, by omega⟩ (by decide) ?_
          refine AW_run 80 rfl ?_
          refine AW_icne rfl (fun g5 => ?_) (fun g5 => ?_) i5 (by unfold sk_in; omega)
          · have tail := tail 0 (by rw [if_neg g5])
            refine AW_run 80 rfl ?_
            first | refine AW_e1 rfl ?_ | refine AW_e0 rfl ?_ | refine AW_n1 rfl ?_ | refine AW_n0 rfl ?_
            refine AW_run 80 rfl ?_
            refine AW_iald rfl rfl ⟨by omega, by omega⟩ (by decide) ?_
            refine AW_run 80 rfl ?_
            refine AW_cV (M' := mX2_ownerOf) rfl kkX7_53 lcX2_ownerOf rfl rfl rfl rfl rfl rfl (Nat.le_refl _) ?_
            refine c_Pg_owner _ hp' _ m4 b1 (fun _ _ => ?_) (fun z => absurd ⟨l2.1, l2.2⟩ z)
            refine AW_run 80 rfl ?_
            refine AW_cV (M' := mX5_of) rfl kkX7_57 lcX5_of rfl rfl rfl rfl rfl rfl (Nat.le_refl _) ?_
            refine c_Rules_of _ _ oi (by unfold sk_in; omega) (fun q1 q2 q3 q4 => ?_) (fun z => absurd ob z)
            refine AW_run 80 rfl ?_
            exact tail
          · have tail := tail 1 (by rw [if_pos g5])
            refine AW_run 80 rfl ?_
            first | refine AW_e1 rfl ?_ | refine AW_e0 rfl ?_ | refine AW_n1 rfl ?_ | refine AW_n0 rfl ?_
            refine AW_run 80 rfl ?_
            refine AW_iald rfl rfl ⟨by omega, by omega⟩ (by decide) ?_
            refine AW_run 80 rfl ?_
            refine AW_cV (M' := mX2_ownerOf) rfl kkX7_53 lcX2_ownerOf rfl rfl rfl rfl rfl rfl (Nat.le_refl _) ?_
            refine c_Pg_owner _ hp' _ m4 b1 (fun _ _ => ?_) (fun z => absurd ⟨l2.1, l2.2⟩ z)
            refine AW_run 80 rfl ?_
            refine AW_cV (M' := mX5_of) rfl kkX7_57 lcX5_of rfl rfl rfl rfl rfl rfl (Nat.le_refl _) ?_
            refine c_Rules_of _ _ oi (by unfold sk_in; omega) (fun q1 q2 q3 q4 => ?_) (fun z => absurd ob z)
            refine AW_run 80 rfl ?_
            exact tail
theorem c_St_refuser (hp : sk_pg p) (hv : sk_pv p D I) (he : sk_ev p I) (hr : sk_ru I) (hz : 0 ≤ I 45 4 ∧ I 45 4 ≤ 3021) (st k v : Int) (hk : 0 ≤ k ∧ k ≤ 7) (hl : 0 ≤ v ∧ v ≤ 9) (hs : -1 ≤ st ∧ st < I 45 4) (hq : Q (some (vi (sk_rf p I k v 3021 st))) sk_G (I, L, sk_J cu sp io rp p fp)) : AW l E (d + 2) 0 0 mX7_refuser 0 [some (vr 45), some (vi st), some (vi k), some (vi v), none, none, none, none, none, none, none, none] [] sk_G (I, L, sk_J cu sp io rp p fp) Q := by
  have lp := c_St_refuser_lp (l := l) (E := E) (d := d) (L := L) (cu := cu) (sp := sp) (io := io) (rp := rp) (fp := fp) (Q := Q) hp hv he hr hz st k v hk hl 3021 st (by omega) (by omega) hs hq
  refine AW_run 80 rfl ?_
  exact lp
end SKT1
