/-! ===== the model's run ===== -/
section SKZ1
variable {l : Launch} {E : sk_En} {d : Nat} {L : sk_SL} {cu sp io rp tp fp p : Nat} {Q : Option sk_V → List sk_Sh → sk_St → Prop} {D : Int → Int}
theorem c_M_jobs (hp : sk_pg p) (m lim : Int) : ∀ (k : Nat) (C I : sk_SI) (n : Nat) (j : Int), 21 ≤ k + j → 0 ≤ j → sk_XE p D C → C 34 11 = lim → sk_it p n C 34 13 ≠ -1 → sk_RR p C I → (-1 ≤ C 34 13 ∧ C 34 13 ≤ 3) → (C 34 13 ≠ -1 ∨ C 35 5 = 0) → C 44 1 = j + 1 → (∀ I', sk_RR p (sk_it p n C) I' → sk_rfr I I' → Q (some (vi (sk_it p n C 34 13))) sk_G (I', L, sk_J cu sp io rp tp fp)) → AW l E (d + 5) 0 0 mX10_run 139 [some (vr 59), some (vi m), some (vi lim), some (vi j)] [vi (I 59 47), vi j] sk_G (I, L, sk_J cu sp io rp tp fp) Q := by
  intro k
  induction k with
  | zero =>
    intro C I n j hk j0 hX hl hn h hb hs h1 hq
    obtain ⟨lv, mc, hX⟩ := hX
    obtain ⟨t0, t1, t2, t3, t4, t5⟩ := sk_TV_45 hX
    omega
  | succ k ih =>
    intro C I n j hk j0 hX hl hn h hb hs h1 hq
    have hX0 := hX
    obtain ⟨lv, mc, hX⟩ := hX
    obtain ⟨t0, t1, t2, t3, t4, t5⟩ := sk_TV_45 hX
    have e47 : I 59 47 = C 34 10 - 1 := h.1.2.2.2.2.2.1.1
    have e49 : I 59 49 = C 34 13 := h.1.2.2.2.2.2.2.1.2.1
    have ended : C 34 13 ≠ -1 → AW l E (d + 5) 0 0 mX10_run 179 [some (vr 59), some (vi m), some (vi lim), some (vi j)] [vi (-1), vi (I 59 49), vr 59] sk_G (I, L, sk_J cu sp io rp tp fp) Q := by
      intro z
      have ei : sk_it p n C = C := sk_it_st 0 n C z (by omega)
      rw [ei] at hq
      have hq := hq I h (sk_rfr_rf I)
      rw [← e49] at hq
      refine AW_icne rfl (fun g => ?_) (fun g => by omega) (by unfold sk_in; omega)
      refine AW_run 80 rfl ?_
      rw [sk_uI_id rfl]
      exact AW_iret rfl rfl hq
    have done : C 34 13 = -1 → C 34 10 ≤ C 44 1 → AW l E (d + 5) 0 0 mX10_run 179 [some (vr 59), some (vi m), some (vi lim), some (vi j)] [vi (-1), vi (I 59 49), vr 59] sk_G (I, L, sk_J cu sp io rp tp fp) Q := by
      intro z z2
      have hd : C 35 5 = 0 := by omega
      have ex : sk_xsI p C = sk_uI C 34 13 0 := by
        unfold sk_xsI sk_bjI
        rw [if_pos hd, if_neg (by omega)]
      have ei : sk_it p n C = sk_uI C 34 13 0 := by
        cases n with
        | zero => exact absurd z hn
        | succ n =>
          show (if C 34 13 = -1 then sk_it p n (sk_xsI p C) else C) = _
          rw [if_pos z, ex]
          exact sk_it_st 0 n _ (show sk_uI C 34 13 0 34 13 ≠ -1 by rw [sk_uI_s, sk_up_s]; decide) (by omega)
      rw [ei] at hq
      have hq := hq _ (sk_RR_end hp h 0) (sk_rfr_u (sk_rfr_rf I) 59 49 0 (by omega))
      rw [sk_uI_s, sk_up_s] at hq
      refine AW_icne rfl (fun g => by omega) (fun g => ?_) (by unfold sk_in; omega)
      (refine AW_run 80 rfl ?_; (try simp only [sk_uI_s, sk_uI_o, sk_up_s, sk_up_o, sk_uL_s, sk_uL_o, ne_eq, Nat.reduceEqDiff, Nat.reduceAdd, Int.reduceEq, not_false_eq_true]))
      exact AW_iret rfl rfl hq
    refine AW_icge rfl (fun g => ?_) (fun g => ?_) (by unfold sk_in; omega) (by unfold sk_in; omega)
    · by_cases z : C 34 13 = -1
      · have done := done z (by omega)
        refine AW_run 80 rfl ?_
        exact done
      · have ended := ended z
        refine AW_run 80 rfl ?_
        exact ended
    · refine AW_run 80 rfl ?_
      refine AW_icne rfl (fun g2 => ?_) (fun g2 => ?_) (by unfold sk_in; omega)
      · have ended := ended (by omega)
        refine AW_run 80 rfl ?_
        exact ended
      · have z : C 34 13 = -1 := by omega
        have hd : C 35 5 = 0 := by omega
        obtain ⟨e88, e89⟩ := h.1.2.2.2.2.2.1.2.1 j j0 (by omega)
        cases n with
        | zero => exact absurd z hn
        | succ n =>
          have dj := fun Q' => c_M_doJob (l := l) (E := E) (d := d) (L := L) (cu := cu) (sp := sp) (io := io) (rp := rp) (tp := tp) (fp := fp) (Q := Q') hp n C I hX0 hn (sk_RK_R h) z hd (by omega) (I 88 j) (I 89 j) lim (by rw [e88, h1]) (by rw [e89, h1]) hl.symm
          refine AW_run 80 rfl ?_
          refine AW_iald rfl rfl ⟨by omega, by omega⟩ (by decide) ?_
          refine AW_run 80 rfl ?_
          refine AW_iald rfl rfl ⟨by omega, by omega⟩ (by decide) ?_
          refine AW_run 80 rfl ?_
          refine AW_cV (M' := mX10_doJob) (d' := d + 4) rfl kkX10_334 lcX10_doJob rfl rfl rfl rfl rfl rfl (by omega) ?_
          refine dj _ (fun C' n' I' g1 g2 g3 g4 g5 g6 g7 g8 g9 => ?_)
          have ih2 := ih C' I' n' (j + 1) (by omega) (by omega) g2 g3 (by rw [g1]; exact hn) g5 g7 g4 (by omega) (fun I2 h2 h3 => by rw [g1]; exact hq I2 (by rw [← g1]; exact h2) (sk_rfr_tr g6 h3))
          refine AW_run 80 rfl ?_
          exact ih2
end SKZ1
