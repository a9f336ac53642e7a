/-! ===== the model's program, whole ===== -/
section SKS9
variable {l : Launch} {E : sk_En} {d : Nat} {L : sk_SL} {cu sp io rp tp fp p : Nat} {Q : Option sk_V → List sk_Sh → sk_St → Prop}
theorem c_M_program (hp : sk_pg p) (K I : sk_SI) (hK : sk_tp K) (e1 : K 2 = I 60) (e2 : K 1 1 = I 59 2) (ht : I 59 0 = 0) (h25 : sk_in (I 59 25)) (h1 : ∀ e, sk_riI p (sk_ri0 p K) = .inl e → 1 ≤ e.1 ∧ e.1 ≤ 5 → ∀ I', sk_PF I I' → I' 59 6 = e.1 → Q (some (vi (-100 - sk_ri0 p K 32 e.2))) sk_G (I', L, sk_J cu sp io rp tp fp)) (h2 : ∀ x, sk_riI p (sk_ri0 p K) = .inr x → ∀ I', sk_PS p x.2 I I' → Q (some (vi (x.2 p 9))) sk_G (I', L, sk_J cu sp io rp tp fp)) : AW l E (d + 33) 0 0 mX10_program 0 [some (vr 59), none, none, none] [] sk_G (I, L, sk_J cu sp io rp tp fp) Q := by
  obtain ⟨wf0, w1, w2, w9, w10, w11, w3, w5, wj, N, n1, n2, n3, n4, n5, n6⟩ := sk_ri0_wf hp hK
  rw [e1, e2] at n3 n4
  rw [e2] at n2 n6
  have htp := hK
  unfold sk_tp at htp
  rw [e1, e2] at htp
  have body : ∀ S, S = sk_uI (sk_uI (sk_uI (sk_uI (sk_uI (sk_uI (sk_uI I 59 21 (I 59 2)) 59 2 0) 59 23 0) 59 26 0) 63 1 0) 66 1 0) 74 1 0 → AW l E (d + 33) 0 0 mX10_program 50 [some (vr 59), none, none, none] [vr 59] sk_G (S, L, sk_J cu sp io rp tp fp) Q := by
    intro S hS
    have so : ∀ c, c ≠ 59 → c ≠ 63 → c ≠ 66 → c ≠ 74 → S c = I c := fun c c1 c2 c3 c4 => by rw [hS, sk_uI_o c4, sk_uI_o c3, sk_uI_o c2, sk_uI_o c1, sk_uI_o c1, sk_uI_o c1, sk_uI_o c1]
    have s59 : ∀ j, j ≠ 2 → j ≠ 21 → j ≠ 23 → j ≠ 26 → S 59 j = I 59 j := fun j j1 j2 j3 j4 => by rw [hS, sk_uI_o (by decide), sk_uI_o (by decide), sk_uI_o (by decide), sk_uI_s, sk_up_o j4, sk_uI_s, sk_up_o j3, sk_uI_s, sk_up_o j1, sk_uI_s, sk_up_o j2]
    have s21 : S 59 21 = I 59 2 := by rw [hS, sk_uI_o (by decide), sk_uI_o (by decide), sk_uI_o (by decide), sk_uI_s, sk_up_o (by decide), sk_uI_s, sk_up_o (by decide), sk_uI_s, sk_up_o (by decide), sk_uI_s, sk_up_s]
    have s2 : S 59 2 = 0 := by rw [hS, sk_uI_o (by decide), sk_uI_o (by decide), sk_uI_o (by decide), sk_uI_s, sk_up_o (by decide), sk_uI_s, sk_up_o (by decide), sk_uI_s, sk_up_s]
    have s23 : S 59 23 = 0 := by rw [hS, sk_uI_o (by decide), sk_uI_o (by decide), sk_uI_o (by decide), sk_uI_s, sk_up_o (by decide), sk_uI_s, sk_up_s]
    have s26 : S 59 26 = 0 := by rw [hS, sk_uI_o (by decide), sk_uI_o (by decide), sk_uI_o (by decide), sk_uI_s, sk_up_s]
    have s63 : S 63 1 = 0 ∧ ∀ j, j ≠ 1 → S 63 j = I 63 j := ⟨by rw [hS, sk_uI_o (by decide), sk_uI_o (by decide), sk_uI_s, sk_up_s], fun j hj => by rw [hS, sk_uI_o (by decide), sk_uI_o (by decide), sk_uI_s, sk_up_o hj, sk_uI_o (by decide), sk_uI_o (by decide), sk_uI_o (by decide), sk_uI_o (by decide)]⟩
    have s66 : S 66 1 = 0 ∧ ∀ j, j ≠ 1 → S 66 j = I 66 j := ⟨by rw [hS, sk_uI_o (by decide), sk_uI_s, sk_up_s], fun j hj => by rw [hS, sk_uI_o (by decide), sk_uI_s, sk_up_o hj, sk_uI_o (by decide), sk_uI_o (by decide), sk_uI_o (by decide), sk_uI_o (by decide), sk_uI_o (by decide)]⟩
    have s74 : S 74 1 = 0 ∧ ∀ j, j ≠ 1 → S 74 j = I 74 j := ⟨by rw [hS, sk_uI_s, sk_up_s], fun j hj => by rw [hS, sk_uI_s, sk_up_o hj, sk_uI_o (by decide), sk_uI_o (by decide), sk_uI_o (by decide), sk_uI_o (by decide), sk_uI_o (by decide), sk_uI_o (by decide)]⟩
    have s60 : S 60 = I 60 := so 60 (by decide) (by decide) (by decide) (by decide)
    have stm : sk_tm S := by
      unfold sk_tm
      rw [s21, s60]
      exact htp
    clear hS
    refine AW_cV (M' := mX10_next) (d' := d + 5) rfl kkX10_223 lcX10_next rfl rfl rfl rfl rfl rfl (by omega) ?_
    refine c_M_next (d := d) stm (by rw [s23, s21]; omega) (fun T hT => ?_)
    have t60 : T 60 = I 60 := by rw [hT.1.2 60 (by decide), s60]
    have t21 : T 59 21 = I 59 2 := by rw [hT.1.1 21 (by decide) (by decide) (by decide) (by decide), s21]
    have mat := sk_mat_next (t := I 60) (n := I 59 2) (i := 0) htp.1 s60 s21 (by rw [s23]; rfl) hT
    have t25 : sk_in (T 59 25) := by
      have hb := sk_end_b (sk_spb (S 60)) (n := S 59 21) (i := S 59 23) (by rw [s23, s21]; exact htp.1)
      obtain ⟨-, f1, f2, f3⟩ := hT
      have o25 : S 59 25 = I 59 25 := s59 25 (by decide) (by decide) (by decide) (by decide)
      by_cases hlt : T 59 22 < S 59 21
      · rw [(f3 hlt).2.2]
        exact sk_mnu_in _ _ _ _ ⟨by rw [f1]; omega, hlt⟩ (by rw [o25]; exact h25)
      · rw [(f2 (by omega)).2.2, o25]
        exact h25
    have hR : sk_MR (I 60) (I 59 2) p (-1) (sk_ri0 p K) T := by
      refine ⟨wf0.1, ⟨⟨N, n1, n2, n3, n4, n5, n6⟩, ⟨t60, t21, ?_, ?_, t25⟩, 0, w3, mat⟩, ⟨?_, ?_, ?_⟩, fun s s0 s1 => ?_⟩
      · unfold sk_tm
        rw [t60, t21]
        exact htp
      · rw [hT.1.1 26 (by decide) (by decide) (by decide) (by decide), s26]
      · rw [w9, hT.1.2 63 (by decide), s63.1]
      · rw [w10, hT.1.2 66 (by decide), s66.1]
      · rw [w11, hT.1.2 74 (by decide), s74.1]
      · rw [w10] at s1; omega
    have hO : sk_MO p (sk_ri0 p K) T := fun m m0 m1 => by rw [w9] at m1; omega
    have fo : ∀ c, c ≠ 59 → c ≠ 63 → c ≠ 66 → c ≠ 74 → T c = I c := fun c c1 c2 c3 c4 => by rw [hT.1.2 c c1, so c c1 c2 c3 c4]
    have f59 : ∀ j, j ≠ 2 → ¬ (21 ≤ j ∧ j ≤ 27) → T 59 j = I 59 j := fun j j1 j2 => by rw [hT.1.1 j (by omega) (by omega) (by omega) (by omega), s59 j j1 (by omega) (by omega) (by omega)]
    have f2 : T 59 2 = 0 := by rw [hT.1.1 2 (by decide) (by decide) (by decide) (by decide), s2]
    have fj : ∀ j, j ≠ 1 → T 63 j = I 63 j ∧ T 66 j = I 66 j ∧ T 74 j = I 74 j := fun j hj => ⟨by rw [hT.1.2 63 (by decide), s63.2 j hj], by rw [hT.1.2 66 (by decide), s66.2 j hj], by rw [hT.1.2 74 (by decide), s74.2 j hj]⟩
    have pf : ∀ I', sk_mf2 T I' → sk_in (I' 59 25) → ∀ U, (∀ c, c ≠ 59 → U c = I' c) → (∀ j, j ≠ 6 → j ≠ 26 → j ≠ 27 → U 59 j = I' 59 j) → sk_PF I U := by
      intro I' hf i25 U u1 u2
      refine ⟨fun c c1 c2 c3 => ?_, fun c j hc hj => ?_, ⟨?_, ?_, ?_⟩, fun j hj => ⟨?_, ?_⟩, fun j j1 j2 j3 => ?_, ?_, ?_⟩
      · rw [u1 c c1, hf.1 c c1 c2 c3, fo c c1 (by omega) (by omega) (by omega)]
      · rw [u1 c (by omega), hf.2.1 c j hc hj, fo c (by omega) (by omega) (by omega) (by omega)]
      · rw [u1 63 (by decide), (hf.2.2.1 0 (by decide)).1, (fj 0 (by decide)).1]
      · rw [u1 66 (by decide), (hf.2.2.1 0 (by decide)).2.1, (fj 0 (by decide)).2.1]
      · rw [u1 74 (by decide), (hf.2.2.1 0 (by decide)).2.2, (fj 0 (by decide)).2.2]
      · rw [u1 64 (by decide), (hf.2.2.2.1 j hj).1, fo 64 (by decide) (by decide) (by decide) (by decide)]
      · rw [u1 65 (by decide), (hf.2.2.2.1 j hj).2, fo 65 (by decide) (by decide) (by decide) (by decide)]
      · rw [u2 j j2 (by omega) (by omega), hf.2.2.2.2 j (by omega), f59 j j1 j3]
      · rw [u2 2 (by decide) (by decide) (by decide), hf.2.2.2.2 2 (by omega), f2]
      · rw [u2 25 (by decide) (by decide) (by decide)]; exact i25
    have fend : ∀ e I', sk_riI p (sk_ri0 p K) = .inl e → sk_M2 (sk_ri0 p K) T e I' → AW l E (d + 33) 0 0 mX10_program 56 [some (vr 59), some (vi 0), none, none] [vi 0] sk_G (I', L, sk_J cu sp io rp tp fp) Q := by
      intro e I' he hI
      obtain ⟨g1, g2, g3, ⟨⟨g4, g5⟩, g6⟩, g7⟩ := hI
      have h1 := h1 e he g7 (sk_uI I' 59 6 (I' 59 26)) (pf I' g1 g5 _ (fun c hc => sk_uI_o hc) (fun j j1 _ _ => by rw [sk_uI_s, sk_up_o j1])) (by rw [sk_uI_s, sk_up_s, g2])
      rw [← g3] at h1
      have pe := c_M_pend (l := l) (E := E) (d := d + 33) (L := L) (cu := cu) (sp := sp) (io := io) (rp := rp) (tp := tp) (fp := fp) (Q := Q) I' 0 none (by omega) g6 (by rw [g2]; exact g7) h1
      first | refine AW_e1 rfl ?_ | refine AW_e0 rfl ?_ | refine AW_n1 rfl ?_ | refine AW_n0 rfl ?_
      refine AW_run 80 rfl ?_
      refine AW_iald rfl rfl ⟨by omega, by omega⟩ (by decide) ?_
      exact pe
    have send : ∀ (z : Int × sk_SI) (I' : sk_SI), (∀ e, sk_amI p z.2 (z.2 p 10).toNat 0 = some e → sk_riI p (sk_ri0 p K) = .inl e) → (sk_amI p z.2 (z.2 p 10).toNat 0 = none → sk_riI p (sk_ri0 p K) = .inr (0, z.2)) → (∃ D, sk_wf p z.2 D) → z.2 32 = sk_ri0 p K 32 → sk_MR (I 60) (I 59 2) p (-1) z.2 I' → sk_MO p z.2 I' → sk_mf2 T I' → AW l E (d + 33) 0 0 mX10_program 56 [some (vr 59), some (vi 0), none, none] [vi 0] sk_G (I', L, sk_J cu sp io rp tp fp) Q := by
      intro z I' hz1 hz2 hwD q32 hRz hOz hfz
      obtain ⟨D, hw⟩ := hwD
      have h10 := hw.1.2.2.2.1
      have i25 := hRz.2.1.2.1.2.2.2.2
      have th := c_M_there (l := l) (E := E) (d := d + 33) (L := L) (cu := cu) (sp := sp) (io := io) (rp := rp) (tp := tp) (fp := fp) (Q := Q) hp _ z.2 I' D hw hRz (fun e he => by
        have e5 : ∀ (k : Nat) (s : Int), sk_amI p z.2 k s = some e → e.1 = 5 := by
          intro k
          induction k with
          | zero => intro s hs; cases hs
          | succ k ih =>
            intro s hs
            unfold sk_amI at hs
            split at hs
            · cases hs; rfl
            · exact ih _ hs
        have e5 := e5 _ _ he
        rw [q32]
        exact h1 e (hz1 e he) (by omega) _ (pf I' hfz i25 _ (fun c hc => by rw [sk_uI_o hc, sk_uI_o hc, sk_uI_o hc]) (fun j j1 j2 j3 => by rw [sk_uI_s, sk_up_o j1, sk_uI_s, sk_up_o j3, sk_uI_s, sk_up_o j2])) (by rw [sk_uI_s, sk_up_s])) (fun he s x => by
        refine c_M_psnd hp z.2 I' I s x hRz hOz ⟨fun c c1 c2 c3 => ?_, fun j j1 j2 j3 => ?_, ?_⟩ (fun I2 hI2 => ?_)
        · rw [hfz.1 c c1 c2 c3, fo c c1 (by omega) (by omega) (by omega)]
        · rw [hfz.2.2.2.2 j (by omega), f59 j j1 j3]
        · rw [hfz.2.2.2.2 2 (by omega), f2]
        · exact h2 (0, z.2) (hz2 he) I2 hI2) (z.2 p 10).toNat 0 (by omega) (by omega) rfl
      first | refine AW_e1 rfl ?_ | refine AW_e0 rfl ?_ | refine AW_n1 rfl ?_ | refine AW_n0 rfl ?_
      refine AW_run 80 rfl ?_
      refine AW_iald rfl rfl ⟨by omega, by omega⟩ (by decide) ?_
      exact th
    refine AW_run 80 rfl ?_
    first | refine AW_e1 rfl ?_ | refine AW_e0 rfl ?_ | refine AW_n1 rfl ?_ | refine AW_n0 rfl ?_
    obtain ⟨md1, md2⟩ := sk_wf_md hp wf0
    refine c_M_meth hp (sk_ri0 p K) T hR hO (fun e he I' hI => ?_) (fun x hx I' hR2 hO2 hf b hb => ?_)
    · exact fend e I' (by unfold sk_riI; rw [he]) hI
    · obtain ⟨⟨D', wx⟩, fx, x9⟩ := md2 x hx
      have q32 := sk_fp_32 hp fx
      obtain ⟨ml1, ml2⟩ := sk_wf_ml hp 20 x.2 D' wx (by rw [x9, w9]; omega)
      refine c_M_mloop hp 20 x.2 I' D' b (by rw [x9, w9]; omega) wx hR2 hO2 hb (fun e he I2 hI2 => ?_) (fun z hz I2 hRz hOz hfz => ?_)
      · exact fend e I2 (by unfold sk_riI; rw [hx]; dsimp only; rw [he]) (sk_M2_tr hf hI2 q32)
      · obtain ⟨wz, fz, z9⟩ := ml2 z hz
        exact send z I2 (fun e he => by unfold sk_riI; rw [hx]; dsimp only; rw [hz]; dsimp only; rw [he]) (fun he => by unfold sk_riI; rw [hx]; dsimp only; rw [hz]; dsimp only; rw [he]) wz ((sk_fp_32 hp fz).trans q32) hRz hOz (sk_mf2_tr hf hfz)
  have body := body _ rfl
  refine AW_run 80 rfl ?_
  rw [sk_uI_id ht]
  refine AW_iast rfl rfl ⟨by omega, by omega⟩ (by decide) ?_
  refine AW_run 80 rfl ?_
  refine AW_iast rfl rfl ⟨by omega, by omega⟩ (by decide) ?_
  refine AW_run 80 rfl ?_
  refine AW_iast rfl rfl ⟨by omega, by omega⟩ (by decide) ?_
  (refine AW_run 80 rfl ?_; (try simp only [sk_uI_s, sk_uI_o, sk_up_s, sk_up_o, sk_uL_s, sk_uL_o, ne_eq, Nat.reduceEqDiff, Nat.reduceAdd, Int.reduceEq, not_false_eq_true]))
  exact body
end SKS9
