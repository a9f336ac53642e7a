/-! ===== the model's doJob, to its end ===== -/
section SKY8
variable {l : Launch} {E : sk_En} {d : Nat} {L : sk_SL} {cu sp io rp tp fp p : Nat} {Q : Option sk_V → List sk_Sh → sk_St → Prop} {D : Int → Int}
theorem c_M_job_lp (hp : sk_pg p) (m bs lim : Int) : ∀ (n : Nat) (C I : sk_SI), sk_XE p D C → C 34 11 = lim → sk_it p n C 34 13 ≠ -1 → sk_RR p C I → (-1 ≤ C 34 13 ∧ C 34 13 ≤ 3) → (∀ C' n' I', sk_it p n' C' = sk_it p n C → sk_XE p D C' → C' 34 11 = lim → (C' 34 13 ≠ -1 ∨ C' 35 5 = 0) → sk_RR p C' I' → sk_rfr I I' → (-1 ≤ C' 34 13 ∧ C' 34 13 ≤ 3) → sk_sm p C C' ∧ C' 44 1 = C 44 1 → Q none sk_G (I', L, sk_J cu sp io rp tp fp)) → AW l E (d + 4) 0 0 mX10_doJob 35 [some (vr 59), some (vi m), some (vi bs), some (vi lim)] [vi (I 59 37)] sk_G (I, L, sk_J cu sp io rp tp fp) Q := by
  intro n
  have stop : ∀ (n : Nat) (C I : sk_SI), sk_XE p D C → C 34 11 = lim → sk_RR p C I → (-1 ≤ C 34 13 ∧ C 34 13 ≤ 3) → (C 34 13 ≠ -1 ∨ C 35 5 = 0) → (∀ C' n' I', sk_it p n' C' = sk_it p n C → sk_XE p D C' → C' 34 11 = lim → (C' 34 13 ≠ -1 ∨ C' 35 5 = 0) → sk_RR p C' I' → sk_rfr I I' → (-1 ≤ C' 34 13 ∧ C' 34 13 ≤ 3) → sk_sm p C C' ∧ C' 44 1 = C 44 1 → Q none sk_G (I', L, sk_J cu sp io rp tp fp)) → AW l E (d + 4) 0 0 mX10_doJob 35 [some (vr 59), some (vi m), some (vi bs), some (vi lim)] [vi (I 59 37)] sk_G (I, L, sk_J cu sp io rp tp fp) Q := by
    intro n C I hX hl h hb hs hq
    have hq := hq C n I rfl hX hl hs h (sk_rfr_rf I) hb ⟨sk_sm_rf p C, rfl⟩
    obtain ⟨lv, mc, hX⟩ := hX
    have hdd := sk_FV_d hX.2.1
    have e37 : I 59 37 = C 35 5 := h.1.2.1.1
    have e49 : I 59 49 = C 34 13 := h.1.2.2.2.2.2.2.1.2.1
    refine AW_ifle rfl (fun g => ?_) (fun g => ?_) (by unfold sk_in; omega)
    · exact AW_vret rfl rfl hq
    · refine AW_run 80 rfl ?_
      refine AW_icne rfl (fun g2 => ?_) (fun g2 => by omega) (by unfold sk_in; omega)
      exact AW_vret rfl rfl hq
  induction n with
  | zero =>
    intro C I hX hl hn h hb hq
    exact stop 0 C I hX hl h hb (Or.inl hn) hq
  | succ n ih =>
    intro C I hX hl hn h hb hq
    by_cases hs : C 34 13 ≠ -1 ∨ C 35 5 = 0
    · exact stop (n + 1) C I hX hl h hb hs hq
    · have he : C 34 13 = -1 := by omega
      have eit : sk_it p (n + 1) C = sk_it p n (sk_xsI p C) := by
        show (if C 34 13 = -1 then sk_it p n (sk_xsI p C) else C) = _
        rw [if_pos he]
      rw [eit] at hn hq
      obtain ⟨x1, x2, x3, x4⟩ := sk_XE_xs hp hX
      have x1j := sk_xs_1 hp hX (by omega)
      have xl : sk_xsI p C 34 11 = lim := by rw [x2.2.2.2.2]; exact hl
      have xb : -1 ≤ sk_xsI p C 34 13 ∧ sk_xsI p C 34 13 ≤ 3 := by omega
      have ihk : ∀ I', sk_RR p (sk_xsI p C) I' → sk_rfr I I' → AW l E (d + 4) 0 0 mX10_doJob 35 [some (vr 59), some (vi m), some (vi bs), some (vi lim)] [vi (I' 59 37)] sk_G (I', L, sk_J cu sp io rp tp fp) Q := fun I' hR hf => ih (sk_xsI p C) I' x1 xl hn hR xb (fun C' n' I2 g1 g2 g3 g4 g5 g6 g7 g8 => hq C' n' I2 g1 g2 g3 g4 g5 (sk_rfr_tr hf g6) g7 ⟨sk_sm_tr x2 g8.1, g8.2.trans x1j⟩)
      clear ih hq hn
      obtain ⟨lv, mc, hX⟩ := hX
      have hdd := sk_FV_d hX.2.1
      have hd : 0 < C 35 5 := by omega
      have e37 : I 59 37 = C 35 5 := h.1.2.1.1
      have e49 : I 59 49 = -1 := by rw [h.1.2.2.2.2.2.2.1.2.1]; exact he
      have e43 : I 59 43 = C 38 (C 35 5 - 1) := (h.1.2.2.1 hd).2
      have e51 : I 59 51 = C 44 0 := h.1.2.2.2.2.2.2.1.2.2.1
      obtain ⟨t0, t1, t2, t3, t4, t5⟩ := sk_TV_45 hX
      have f4 := (hX.2.1.2 (C 35 5 - 1) (by omega) (by omega)).2.2.2.1
      have v10 := hX.1.1.2.1
      unfold sk_xsI at ihk
      rw [if_neg (by omega)] at ihk
      refine AW_ifle rfl (fun g => by omega) (fun g => ?_) (by unfold sk_in; omega)
      refine AW_run 80 rfl ?_
      refine AW_icne rfl (fun g2 => absurd e49 g2) (fun g2 => ?_) (by rw [e49]; unfold sk_in; omega)
      refine AW_run 80 rfl ?_
      rw [e43]
      refine AW_icne rfl (fun g3 => ?_) (fun g3 => ?_) (by unfold sk_in; omega)
      · have hst : 0 ≤ C 38 (C 35 5 - 1) ∧ C 38 (C 35 5 - 1) < C p 10 := by omega
        rw [if_pos hst] at ihk
        refine AW_run 80 rfl ?_
        refine AW_icne rfl (fun g4 => ?_) (fun g4 => ?_) (by unfold sk_in; omega) (by unfold sk_in; omega)
        · unfold sk_btI at ihk
          rw [if_neg (by omega)] at ihk
          obtain ⟨hD, h2, hsm⟩ := sk_XV_pre hp hX hd hst (by omega)
          have hR := sk_RR_turn hp h hd (C (p + 7) (C 38 (C 35 5 - 1)))
          have fr1 : sk_rfr I (sk_uI I 59 51 (I 59 51 + 1)) := sk_rfr_u (sk_rfr_rf I) 59 51 _ (by omega)
          have k43 : sk_uI I 59 51 (I 59 51 + 1) 59 43 = C 38 (C 35 5 - 1) := by (try simp only [sk_uI_s, sk_uI_o, sk_up_s, sk_up_o, sk_uL_s, sk_uL_o, ne_eq, Nat.reduceEqDiff, Nat.reduceAdd, Int.reduceEq, not_false_eq_true]); exact e43
          generalize hs : C 38 (C 35 5 - 1) = s at *
          have c35 : sk_uI (sk_bmp 0 C) 38 (C 35 5 - 1) (C (p + 7) s) 35 5 = C 35 5 := by unfold sk_bmp; (try simp only [sk_uI_s, sk_uI_o, sk_up_s, sk_up_o, sk_uL_s, sk_uL_o, ne_eq, Nat.reduceEqDiff, Nat.reduceAdd, Int.reduceEq, not_false_eq_true])
          have c38 : sk_uI (sk_bmp 0 C) 38 (C 35 5 - 1) (C (p + 7) s) 38 (C 35 5 - 1) = C (p + 7) s := by rw [sk_uI_s, sk_up_s]
          have c39 : sk_uI (sk_bmp 0 C) 38 (C 35 5 - 1) (C (p + 7) s) 39 = C 39 := by unfold sk_bmp; (try simp only [sk_uI_s, sk_uI_o, sk_up_s, sk_up_o, sk_uL_s, sk_uL_o, ne_eq, Nat.reduceEqDiff, Nat.reduceAdd, Int.reduceEq, not_false_eq_true])
          have c13 : sk_uI (sk_bmp 0 C) 38 (C 35 5 - 1) (C (p + 7) s) 34 13 = -1 := by unfold sk_bmp; (try simp only [sk_uI_s, sk_uI_o, sk_up_s, sk_up_o, sk_uL_s, sk_uL_o, ne_eq, Nat.reduceEqDiff, Nat.reduceAdd, Int.reduceEq, not_false_eq_true]); exact he
          generalize sk_uI (sk_bmp 0 C) 38 (C 35 5 - 1) (C (p + 7) s) = C2 at *
          have p0 : C2 p = C p := hsm.1 0 (by omega)
          have p3 := hsm.1 3 (by omega)
          have p5 := hsm.1 5 (by omega)
          have p7 := hsm.1 7 (by omega)
          have p8 := hsm.1 8 (by omega)
          have frS : sk_rfr I (sk_uI (sk_uI I 59 51 (I 59 51 + 1)) 59 43 (C (p + 7) s)) := sk_rfr_u fr1 59 43 _ (by omega)
          rw [← p7] at hR frS
          have pf := fun Q' => c_M_perf (l := l) (E := E) (d := d) (L := L) (cu := cu) (sp := sp) (io := io) (rp := rp) (tp := tp) (fp := fp) (Q := Q') hp C2 (sk_uI I 59 51 (I 59 51 + 1)) s h2 hR (by rw [c35]; exact hd) (by rw [p0]; exact hst) (by rw [c35]; exact hD) (by rw [c35, c38, p7])
          rw [p5, c39, c35] at pf
          have spin : C2 (p + 3) s = 8 → 0 < C (p + 5) s → C2 (p + 8) s = -1 → AW l E (d + 4) 0 0 mX10_doJob 35 [some (vr 59), some (vi m), some (vi bs), some (vi lim)] [vi (sk_mop 8 s (-1) (C (p + 5) s - 1) (sk_uI (sk_uI I 59 51 (I 59 51 + 1)) 59 43 (C2 (p + 7) s)) 59 37)] sk_G (sk_mop 8 s (-1) (C (p + 5) s - 1) (sk_uI (sk_uI I 59 51 (I 59 51 + 1)) 59 43 (C2 (p + 7) s)), L, sk_J cu sp io rp tp fp) Q := by
            intro z1 z2 z3
            have h99 := (sk_stp hX.1.1 hst.1 hst.2).2.2.2.2.2.2.2 (by rw [← p3]; exact z1)
            have eds : sk_dsI p s (C (p + 5) s) (C 39 (C 35 5 - 1)) C2 = C2 := by
              unfold sk_dsI
              rw [z1]
              simp only [Int.reduceEq, if_false, or_false, false_or, reduceIte]
              rw [if_neg (fun z => z.2 z3)]
            rw [eds] at ihk
            have sp := c_M_spin (l := l) (E := E) (d := d) (L := L) (cu := cu) (sp := sp) (io := io) (rp := rp) (tp := tp) (fp := fp) (Q := Q) m bs lim s C2 _ hR (by rw [c35]; omega) c13 (by rw [p0]; exact hst) (by rw [p0]; exact v10.2) z3 (by rw [c35, c38, p7]) (fun I' hR' hf' => ihk I' hR' (sk_rfr_tr frS hf')) (C (p + 5) s - 1).toNat (by omega)
            rw [show (((C (p + 5) s - 1).toNat : Nat) : Int) = C (p + 5) s - 1 by omega] at sp
            exact sp
          refine AW_run 80 rfl ?_
          rw [k43]
          refine AW_cV (M' := mX10_perform) rfl kkX10_331 lcX10_perform rfl rfl rfl rfl rfl rfl (Nat.le_refl _) ?_
          refine pf _ (fun I' g5 g6 => ?_) (fun z1 z2 z3 => ?_)
          · have ihk := ihk I' g5 (sk_rfr_tr fr1 g6)
            refine AW_run 80 rfl ?_
            exact ihk
          · have spin := spin z1 z2 z3
            generalize sk_mop 8 s (-1) (C (p + 5) s - 1) (sk_uI (sk_uI I 59 51 (I 59 51 + 1)) 59 43 (C2 (p + 7) s)) = T at *
            refine AW_run 80 rfl ?_
            exact spin
        · unfold sk_btI at ihk
          rw [if_pos (by omega)] at ihk
          have ihk := ihk _ (sk_RR_end hp h 1) (sk_rfr_u (sk_rfr_rf I) 59 49 1 (by omega))
          (refine AW_run 80 rfl ?_; (try simp only [sk_uI_s, sk_uI_o, sk_up_s, sk_up_o, sk_uL_s, sk_uL_o, ne_eq, Nat.reduceEqDiff, Nat.reduceAdd, Int.reduceEq, not_false_eq_true]))
          simp only [sk_uI_s, sk_up_o, ne_eq, Int.reduceEq, not_false_eq_true] at ihk
          exact ihk
      · rw [if_neg (by omega)] at ihk
        refine AW_run 80 rfl ?_
        refine AW_cV (M' := mX10_finish) (d' := d + 3) rfl kkX10_325 lcX10_finish rfl rfl rfl rfl rfl rfl (by omega) ?_
        refine c_M_finishF (d := d + 2) hp C I hX h hd (fun I' g5 g6 => ?_)
        have ihk := ihk I' g5 g6
        refine AW_run 80 rfl ?_
        exact ihk
end SKY8
