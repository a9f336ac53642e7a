/-! ===== the model's judge ===== -/
/-- an entry of the model is the class's -/
def sk_er (p : Nat) (C I : sk_SI) (e : Int) : Prop := (C 46 e < 0 → I 77 e = 20 ∧ I 78 e = C (p + 1) (-1 - C 46 e) ∧ I 81 e = C 47 e) ∧ (0 ≤ C 46 e → I 77 e = C (p + 3) (C 46 e) ∧ I 78 e = C (p + 1) (C (p + 4) (C 46 e)) ∧ I 79 e = C (p + 5) (C 46 e) ∧ (C (p + 3) (C 46 e) ≠ 5 → I 80 e = C (p + 6) (C 46 e) ∧ I 81 e = C 47 e) ∧ (C (p + 3) (C 46 e) = 5 → I 80 e = C 47 e))
section SKT2
variable {l : Launch} {E : sk_En} {d : Nat} {C I : sk_SI} {L : sk_SL} {cu sp io rp tp fp p : Nat} {Q : Option sk_V → List sk_Sh → sk_St → Prop} {D : Int → Int}
theorem c_M_judge_lp (hv : sk_pv p D C) (he : sk_ev p C) (hr : sk_ru C) (hz : 0 ≤ C 45 4 ∧ C 45 4 ≤ 3021) (hE : ∀ e, 0 ≤ e → e < C 45 4 → sk_er p C I e) (h61 : I 61 = C 8) (st k v : Int) (hk : 0 ≤ k ∧ k ≤ 7) (hl : 0 ≤ v ∧ v ≤ 9) : ∀ (n : Nat) (a : Int), a < n → -1 ≤ a ∧ a < C 45 4 → Q (some (vi (sk_rf p C k v n a))) sk_G (I, L, sk_J cu sp io rp tp fp) → AW l E (d + 1) 0 0 mX10_judge 6 [some (vr 59), some (vi st), some (vi k), some (vi v), some (vi a), none, none, none] [vi (-1), vi a] sk_G (I, L, sk_J cu sp io rp tp fp) Q := by
  intro n
  obtain ⟨v9, v10, vl, vm, vc⟩ := hv
  induction n with
  | zero =>
    intro a ha hb hq
    refine AW_iceq rfl (fun g => ?_) (fun g => by omega) (by unfold sk_in; omega)
    refine AW_run 80 rfl ?_
    exact AW_iret rfl rfl hq
  | succ n ih =>
    intro a ha hb hq
    unfold sk_rf at hq
    refine AW_iceq rfl (fun g => ?_) (fun g => ?_) (by unfold sk_in; omega)
    · rw [if_pos (by omega)] at hq
      refine AW_run 80 rfl ?_
      exact AW_iret rfl rfl hq
    · rw [if_neg (by omega)] at hq
      obtain ⟨e1, e2⟩ := he a (by omega) hb.2
      obtain ⟨r1, r2⟩ := hE a (by omega) hb.2
      have cont : Q (some (vi (sk_rf p C k v n (C 47 a)))) sk_G (I, L, sk_J cu sp io rp tp fp) → AW l E (d + 1) 0 0 mX10_judge 6 [some (vr 59), some (vi st), some (vi k), some (vi v), some (vi (C 47 a)), none, none, none] [vi (-1), vi (C 47 a)] sk_G (I, L, sk_J cu sp io rp tp fp) Q := fun z => ih (C 47 a) (by omega) (by omega) z
      have own : ∀ m, 0 ≤ m → m < C p 9 → 0 ≤ C (p + 1) m ∧ C (p + 1) m < 8 ∧ C 8 (C (p + 1) m * 8 + k) = I 61 (8 * C (p + 1) m + k) ∧ sk_in (I 61 (8 * C (p + 1) m + k)) := by
        intro m m0 m1
        have h1 := (vm m m0 m1).1
        have h2 := hr (C (p + 1) m * 8 + k) (by omega) (by omega)
        have h3 : 8 * C (p + 1) m + k = C (p + 1) m * 8 + k := by omega
        rw [h61, h3]
        unfold sk_in
        omega
      by_cases hneg : C 46 a < 0
      · rw [if_pos hneg] at hq
        obtain ⟨q1, q2, q3⟩ := r1 hneg
        obtain ⟨o1, o2, o3, o4⟩ := own (-1 - C 46 a) (by omega) (by omega)
        rw [o3] at hq
        have wi : sk_in (I 77 a) := by rw [q1]; unfold sk_in; omega
        refine AW_run 80 rfl ?_
        refine AW_iald rfl rfl ⟨by omega, by omega⟩ (by decide) ?_
        rw [q2]
        refine AW_run 80 rfl ?_
        refine AW_cV (M' := mX10_hasRight) rfl kkX10_260 lcX10_hasRight rfl rfl rfl rfl rfl rfl (Nat.le_refl _) ?_
        refine c_M_has _ _ _ ⟨o1, o2⟩ (by omega) (by unfold sk_in; omega) o4 (fun g2 => ?_) (fun g2 => ?_)
        · rw [if_pos g2] at hq
          have cont := cont hq
          refine AW_run 80 rfl ?_
          refine AW_iald rfl rfl ⟨by omega, by omega⟩ (by decide) ?_
          refine AW_run 80 rfl ?_
          refine AW_iald rfl rfl ⟨by omega, by omega⟩ (by decide) ?_
          refine AW_run 80 rfl ?_
          refine AW_icne rfl (fun g3 => absurd q1 g3) (fun g3 => ?_) wi
          refine AW_run 80 rfl ?_
          first | refine AW_e1 rfl ?_ | refine AW_e0 rfl ?_ | refine AW_n1 rfl ?_ | refine AW_n0 rfl ?_
          refine AW_run 80 rfl ?_
          refine AW_iald rfl rfl ⟨by omega, by omega⟩ (by decide) ?_
          refine AW_run 80 rfl ?_
          refine AW_icne rfl (fun g3 => ?_) (fun g3 => by omega) wi
          refine AW_run 80 rfl ?_
          refine AW_iald rfl rfl ⟨by omega, by omega⟩ (by decide) ?_
          refine AW_run 80 rfl ?_
          refine AW_icne rfl (fun g3 => ?_) (fun g3 => by omega) wi
          refine AW_run 80 rfl ?_
          refine AW_iald rfl rfl ⟨by omega, by omega⟩ (by decide) ?_
          refine AW_run 80 rfl ?_
          refine AW_icne rfl (fun g3 => ?_) (fun g3 => by omega) wi
          rw [q3]
          refine AW_run 80 rfl ?_
          exact AW_lk cont ⟨rfl, rfl, rfl, rfl, rfl, trivial⟩
        · rw [if_neg (by omega)] at hq
          refine AW_run 80 rfl ?_
          refine AW_iald rfl rfl ⟨by omega, by omega⟩ (by decide) ?_
          refine AW_run 80 rfl ?_
          refine AW_iald rfl rfl ⟨by omega, by omega⟩ (by decide) ?_
          refine AW_run 80 rfl ?_
          refine AW_icne rfl (fun g3 => absurd q1 g3) (fun g3 => ?_) wi
          refine AW_run 80 rfl ?_
          first | refine AW_e1 rfl ?_ | refine AW_e0 rfl ?_ | refine AW_n1 rfl ?_ | refine AW_n0 rfl ?_
          refine AW_run 80 rfl ?_
          exact AW_iret rfl rfl hq
      · rw [if_neg hneg] at hq
        obtain ⟨q1, q2, q3, q4, q5⟩ := r2 (by omega)
        have e1 : 0 ≤ C 46 a ∧ C 46 a < C p 10 ∧ (C (p + 3) (C 46 a) = 2 ∨ C (p + 3) (C 46 a) = 3 ∨ C (p + 3) (C 46 a) = 5) := by
          rcases e1 with e1 | e1
          · exact e1
          · omega
        obtain ⟨l1, l2, l3, l4, -⟩ := vl (C 46 a) e1.1 e1.2.1
        obtain ⟨o1, o2, o3, o4⟩ := own (C (p + 4) (C 46 a)) l2.1 l2.2
        rw [o3] at hq
        have wi : sk_in (I 77 a) := by rw [q1]; unfold sk_in; omega
        have i5 : sk_in (I 79 a) := by
          rw [q3]
          unfold sk_no at l3
          unfold sk_in
          rcases e1.2.2 with z | z | z <;> rw [z] at l3
          · have : sk_mf 2 = 7 := rfl
            omega
          · have : sk_mf 3 = 7 := rfl
            omega
          · have : sk_mf 5 = 3 := rfl
            omega
        have i6 : C (p + 3) (C 46 a) = 2 → sk_in (C (p + 6) (C 46 a)) := by
          intro z
          unfold sk_no at l4
          rw [z] at l4
          have : sk_ms 2 = 9 := rfl
          unfold sk_in
          omega
        have tail : ∀ hs : Int, (hs = if v ≤ I 61 (8 * C (p + 1) (C (p + 4) (C 46 a)) + k) then 1 else 0) → AW l E (d + 1) 0 0 mX10_judge 34 [some (vr 59), some (vi st), some (vi k), some (vi v), some (vi a), some (vi (C (p + 1) (C (p + 4) (C 46 a)))), some (vi hs), none] [vi a, vr 81] sk_G (I, L, sk_J cu sp io rp tp fp) Q := by
          intro hs hhs
          have ki : sk_in k := by unfold sk_in; omega
          have vi' : sk_in v := by unfold sk_in; omega
          refine AW_iald rfl rfl ⟨by omega, by omega⟩ (by decide) ?_
          refine AW_run 80 rfl ?_
          refine AW_iald rfl rfl ⟨by omega, by omega⟩ (by decide) ?_
          refine AW_run 80 rfl ?_
          refine AW_icne rfl (fun g => ?_) (fun g => by omega) wi
          refine AW_run 80 rfl ?_
          refine AW_iald rfl rfl ⟨by omega, by omega⟩ (by decide) ?_
          refine AW_run 80 rfl ?_
          refine AW_icne rfl (fun g2 => ?_) (fun g2 => ?_) wi
          · rw [q1] at g2
            refine AW_run 80 rfl ?_
            refine AW_iald rfl rfl ⟨by omega, by omega⟩ (by decide) ?_
            refine AW_run 80 rfl ?_
            refine AW_icne rfl (fun g3 => ?_) (fun g3 => ?_) wi
            · rw [q1] at g3
              rw [if_neg g3, if_neg g2] at hq
              have z5 : C (p + 3) (C 46 a) = 5 := by omega
              refine AW_run 80 rfl ?_
              refine AW_iald rfl rfl ⟨by omega, by omega⟩ (by decide) ?_
              refine AW_run 80 rfl ?_
              refine AW_icne rfl (fun g4 => absurd (by rw [q1]; exact z5) g4) (fun g4 => ?_) wi
              by_cases hh : v ≤ I 61 (8 * C (p + 1) (C (p + 4) (C 46 a)) + k)
              · rw [if_pos hh] at hq hhs
                have cont := cont hq
                subst hhs
                refine AW_run 80 rfl ?_
                first | refine AW_e1 rfl ?_ | refine AW_e0 rfl ?_ | refine AW_n1 rfl ?_ | refine AW_n0 rfl ?_
                refine AW_run 80 rfl ?_
                refine AW_iald rfl rfl ⟨by omega, by omega⟩ (by decide) ?_
                rw [q5 z5]
                refine AW_run 80 rfl ?_
                exact AW_lk cont ⟨rfl, rfl, rfl, rfl, rfl, trivial⟩
              · rw [if_neg hh] at hq hhs
                subst hhs
                refine AW_run 80 rfl ?_
                first | refine AW_e1 rfl ?_ | refine AW_e0 rfl ?_ | refine AW_n1 rfl ?_ | refine AW_n0 rfl ?_
                refine AW_run 80 rfl ?_
                exact AW_iret rfl rfl hq
            · rw [q1] at g3
              rw [if_pos g3] at hq
              refine AW_run 80 rfl ?_
              refine AW_iald rfl rfl ⟨by omega, by omega⟩ (by decide) ?_
              refine AW_run 80 rfl ?_
              refine AW_icne rfl (fun g4 => ?_) (fun g4 => ?_) i5 ki
              · rw [q3] at g4
                rw [if_neg g4] at hq
                have cont := cont hq
                refine AW_run 80 rfl ?_
                refine AW_iald rfl rfl ⟨by omega, by omega⟩ (by decide) ?_
                refine AW_run 80 rfl ?_
                refine AW_icne rfl (fun g5 => ?_) (fun g5 => by omega) wi
                rw [(q4 (by omega)).2]
                refine AW_run 80 rfl ?_
                exact AW_lk cont ⟨rfl, rfl, rfl, rfl, rfl, trivial⟩
              · rw [q3] at g4
                rw [if_pos g4] at hq
                refine AW_run 80 rfl ?_
                exact AW_iret rfl rfl hq
          · rw [q1] at g2
            rw [if_neg (by omega), if_pos g2] at hq
            have q80 := (q4 (by omega)).1
            have q81 := (q4 (by omega)).2
            have rest : Q (some (vi (sk_rf p C k v n (C 47 a)))) sk_G (I, L, sk_J cu sp io rp tp fp) → AW l E (d + 1) 0 0 mX10_judge 108 [some (vr 59), some (vi st), some (vi k), some (vi v), some (vi a), some (vi (C (p + 1) (C (p + 4) (C 46 a)))), some (vi hs), some (vi (I 81 a))] [vi a, vr 77] sk_G (I, L, sk_J cu sp io rp tp fp) Q := by
              intro z
              have cont := cont z
              refine AW_iald rfl rfl ⟨by omega, by omega⟩ (by decide) ?_
              refine AW_run 80 rfl ?_
              refine AW_icne rfl (fun g3 => ?_) (fun g3 => by omega) wi
              refine AW_run 80 rfl ?_
              refine AW_iald rfl rfl ⟨by omega, by omega⟩ (by decide) ?_
              refine AW_run 80 rfl ?_
              refine AW_icne rfl (fun g3 => ?_) (fun g3 => by omega) wi
              rw [q81]
              refine AW_run 80 rfl ?_
              exact AW_lk cont ⟨rfl, rfl, rfl, rfl, rfl, trivial⟩
            refine AW_run 80 rfl ?_
            refine AW_iald rfl rfl ⟨by omega, by omega⟩ (by decide) ?_
            refine AW_run 80 rfl ?_
            refine AW_icne rfl (fun g4 => ?_) (fun g4 => ?_) i5 ki
            · rw [q3] at g4
              rw [if_neg (fun z => g4 z.1)] at hq
              have rest := rest hq
              refine AW_run 80 rfl ?_
              exact rest
            · rw [q3] at g4
              refine AW_run 80 rfl ?_
              refine AW_iald rfl rfl ⟨by omega, by omega⟩ (by decide) ?_
              refine AW_run 80 rfl ?_
              refine AW_iclt rfl (fun g6 => ?_) (fun g6 => ?_) (by rw [q80]; exact i6 g2) vi'
              · rw [q80] at g6
                rw [if_neg (fun z => absurd z.2 (Int.not_le.mpr g6))] at hq
                have rest := rest hq
                refine AW_run 80 rfl ?_
                exact rest
              · rw [q80] at g6
                rw [if_pos ⟨g4, Int.not_lt.mp g6⟩] at hq
                by_cases hh : v ≤ I 61 (8 * C (p + 1) (C (p + 4) (C 46 a)) + k)
                · rw [if_pos hh] at hq hhs
                  subst hhs
                  refine AW_run 80 rfl ?_
                  first | refine AW_e1 rfl ?_ | refine AW_e0 rfl ?_ | refine AW_n1 rfl ?_ | refine AW_n0 rfl ?_
                  refine AW_run 80 rfl ?_
                  exact AW_iret rfl rfl hq
                · rw [if_neg hh] at hq hhs
                  subst hhs
                  refine AW_run 80 rfl ?_
                  first | refine AW_e1 rfl ?_ | refine AW_e0 rfl ?_ | refine AW_n1 rfl ?_ | refine AW_n0 rfl ?_
                  refine AW_run 80 rfl ?_
                  exact AW_iret rfl rfl hq
        refine AW_run 80 rfl ?_
        refine AW_iald rfl rfl ⟨by omega, by omega⟩ (by decide) ?_
        rw [q2]
        refine AW_run 80 rfl ?_
        refine AW_cV (M' := mX10_hasRight) rfl kkX10_260 lcX10_hasRight rfl rfl rfl rfl rfl rfl (Nat.le_refl _) ?_
        refine c_M_has _ _ _ ⟨o1, o2⟩ (by omega) (by unfold sk_in; omega) o4 (fun g2 => ?_) (fun g2 => ?_)
        · have tail := tail 1 (by rw [if_pos g2])
          refine AW_run 80 rfl ?_
          exact tail
        · have tail := tail 0 (by rw [if_neg (by omega)])
          refine AW_run 80 rfl ?_
          exact tail
theorem c_M_judge (hv : sk_pv p D C) (he : sk_ev p C) (hr : sk_ru C) (hz : 0 ≤ C 45 4 ∧ C 45 4 ≤ 3021) (hE : ∀ e, 0 ≤ e → e < C 45 4 → sk_er p C I e) (h61 : I 61 = C 8) (st k v : Int) (hk : 0 ≤ k ∧ k ≤ 7) (hl : 0 ≤ v ∧ v ≤ 9) (hs : -1 ≤ st ∧ st < C 45 4) (hq : Q (some (vi (sk_rf p C k v 3021 st))) sk_G (I, L, sk_J cu sp io rp tp fp)) : AW l E (d + 1) 0 0 mX10_judge 0 [some (vr 59), some (vi st), some (vi k), some (vi v), none, none, none, none] [] sk_G (I, L, sk_J cu sp io rp tp fp) Q := by
  have lp := c_M_judge_lp (l := l) (E := E) (d := d) (L := L) (cu := cu) (sp := sp) (io := io) (rp := rp) (tp := tp) (fp := fp) (Q := Q) hv he hr hz hE h61 st k v hk hl 3021 st (by omega) hs hq
  refine AW_run 80 rfl ?_
  exact lp
end SKT2
