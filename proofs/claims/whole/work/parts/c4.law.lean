/-! ===== the law's loop ===== -/
theorem sr_in32 (y : Int32) : sk_in y.toInt := by
  have a := Int32.le_toInt y
  have b := Int32.toInt_lt y
  unfold sk_in
  omega
theorem sr_in_and (x m : Int) : sk_in (sk_and x m) := sr_in32 _
section SKL1
variable {l : Launch} {E : sk_En} {Q : Option sk_V → List sk_Sh → sk_St → Prop}
def sr_X (E : sk_En) (i : Int) : Int := (E.2.2.2.2.2.2 i.toNat).toInt
theorem sr_Xi (E : sk_En) (i : Int) : sk_in (sr_X E i) := sr_in32 _
def sr_nx (l : Launch) (E : sk_En) (i : Int) (Q : Option sk_V → List sk_Sh → sk_St → Prop) : Prop := ∀ (cu sp io rp tp fp : Nat) (I : sk_SI) (L : sk_SL), sr_R cu sp I L → AW l E 101 0 0 mL_law 607 [some (vr 1030), some (vr 0), some (vr 59), some (vi i)] [] sk_G (I, L, sk_J cu sp io rp tp fp) Q
theorem sr_case0 (i : Int) (hi : 0 ≤ i) (hn : i + 6 ≤ (E.2.2.2.2.2.1 : Int)) (hL : E.2.2.2.2.2.1 < 2147483648) (nx : sr_nx l E i Q) {cu sp io rp tp fp : Nat} {I : sk_SI} {L : sk_SL} (h : sr_R cu sp I L) : AW l E 101 0 0 mL_law 116 [some (vr 1030), some (vr 0), some (vr 59), some (vi i)] [] sk_G (I, L, sk_J cu sp io rp tp fp) Q := by
  have cl := fun io rp tp fp => sr_feed (l := l) (E := E) (io := io) (rp := rp) (tp := tp) (fp := fp) h (sr_X E (i + 1)) (sr_X E (i + 2)) (sr_X E (i + 3)) (sr_X E (i + 4)) (sr_X E (i + 5))
  have cl := cl io rp tp fp
  refine AW_run 80 rfl ?_
  refine AW_sld rfl ⟨by omega, by omega⟩ hL ?_
  refine AW_run 80 rfl ?_
  refine AW_sld rfl ⟨by omega, by omega⟩ hL ?_
  refine AW_run 80 rfl ?_
  refine AW_sld rfl ⟨by omega, by omega⟩ hL ?_
  refine AW_run 80 rfl ?_
  refine AW_sld rfl ⟨by omega, by omega⟩ hL ?_
  refine AW_run 80 rfl ?_
  refine AW_sld rfl ⟨by omega, by omega⟩ hL ?_
  refine AW_cV (M' := mX9_feed) (d' := 100) rfl kkL_13 lcX9_feed rfl rfl rfl rfl rfl rfl (Nat.le_refl _) ?_
  refine AW_post (fun v G' σ' hP => ?_) cl
  obtain ⟨a, I1, L1, cu1, sp1, io1, rp1, tp1, fp1, rfl, rfl, rfl, hm⟩ := hP
  clear cl
  refine AW_run 80 rfl ?_
  refine AW_sld rfl ⟨by omega, by omega⟩ hL ?_
  refine AW_run 80 rfl ?_
  refine AW_sld rfl ⟨by omega, by omega⟩ hL ?_
  refine AW_run 80 rfl ?_
  refine AW_sld rfl ⟨by omega, by omega⟩ hL ?_
  refine AW_run 80 rfl ?_
  refine AW_sld rfl ⟨by omega, by omega⟩ hL ?_
  refine AW_run 80 rfl ?_
  refine AW_sld rfl ⟨by omega, by omega⟩ hL ?_
  refine AW_cV (M' := mX10_feed) (d' := 100) rfl kkL_17 lcX10_feed rfl rfl rfl rfl rfl rfl (Nat.le_refl _) ?_
  refine hm _ (fun I2 h2 => ?_)
  refine AW_iceq_r rfl ?_
  exact nx _ _ _ _ _ _ _ _ h2
theorem sr_case1 (i : Int) (hi : 0 ≤ i) (hn : i + 6 ≤ (E.2.2.2.2.2.1 : Int)) (hL : E.2.2.2.2.2.1 < 2147483648) (nx : sr_nx l E i Q) {cu sp io rp tp fp : Nat} {I : sk_SI} {L : sk_SL} (h : sr_R cu sp I L) : AW l E 101 0 0 mL_law 179 [some (vr 1030), some (vr 0), some (vr 59), some (vi i)] [] sk_G (I, L, sk_J cu sp io rp tp fp) Q := by
  have cl := fun io rp tp fp => sr_trim (l := l) (E := E) (io := io) (rp := rp) (tp := tp) (fp := fp) h (sr_X E (i + 1)) (sr_Xi E _)
  have cl := cl io rp tp fp
  refine AW_run 80 rfl ?_
  refine AW_sld rfl ⟨by omega, by omega⟩ hL ?_
  refine AW_cV (M' := mX9_trim) (d' := 100) rfl kkL_18 lcX9_trim rfl rfl rfl rfl rfl rfl (Nat.le_refl _) ?_
  refine AW_post (fun v G' σ' hP => ?_) cl
  obtain ⟨a, I1, L1, cu1, sp1, io1, rp1, tp1, fp1, rfl, rfl, rfl, hm⟩ := hP
  clear cl
  refine AW_run 80 rfl ?_
  refine AW_sld rfl ⟨by omega, by omega⟩ hL ?_
  refine AW_cV (M' := mX10_trim) (d' := 100) rfl kkL_22 lcX10_trim rfl rfl rfl rfl rfl rfl (Nat.le_refl _) ?_
  refine hm _ (fun I2 h2 => ?_)
  refine AW_iceq_r rfl ?_
  exact nx _ _ _ _ _ _ _ _ h2
theorem sr_case2 (i : Int) (hi : 0 ≤ i) (hn : i + 6 ≤ (E.2.2.2.2.2.1 : Int)) (hL : E.2.2.2.2.2.1 < 2147483648) (nx : sr_nx l E i Q) {cu sp io rp tp fp : Nat} {I : sk_SI} {L : sk_SL} (h : sr_R cu sp I L) : AW l E 101 0 0 mL_law 202 [some (vr 1030), some (vr 0), some (vr 59), some (vi i)] [] sk_G (I, L, sk_J cu sp io rp tp fp) Q := by
  have cl := fun io rp tp fp => sr_programc (l := l) (E := E) (io := io) (rp := rp) (tp := tp) (fp := fp) h
  have cl := cl io rp tp fp
  refine AW_run 80 rfl ?_
  refine AW_cV (M' := mX9_program) (d' := 100) rfl kkL_23 lcX9_program rfl rfl rfl rfl rfl rfl (Nat.le_refl _) ?_
  refine AW_post (fun v G' σ' hP => ?_) cl
  obtain ⟨a, I1, L1, cu1, sp1, io1, rp1, tp1, fp1, rfl, rfl, rfl, hm⟩ := hP
  clear cl
  refine AW_run 80 rfl ?_
  refine AW_cV (M' := mX10_program) (d' := 100) rfl kkL_27 lcX10_program rfl rfl rfl rfl rfl rfl (Nat.le_refl _) ?_
  refine hm _ (fun I2 h2 => ?_)
  refine AW_iceq_r rfl ?_
  exact nx _ _ _ _ _ _ _ _ h2
theorem sr_case3 (i : Int) (hi : 0 ≤ i) (hn : i + 6 ≤ (E.2.2.2.2.2.1 : Int)) (hL : E.2.2.2.2.2.1 < 2147483648) (nx : sr_nx l E i Q) {cu sp io rp tp fp : Nat} {I : sk_SI} {L : sk_SL} (h : sr_R cu sp I L) : AW l E 101 0 0 mL_law 215 [some (vr 1030), some (vr 0), some (vr 59), some (vi i)] [] sk_G (I, L, sk_J cu sp io rp tp fp) Q := by
  have cl := fun io rp tp fp => sr_fault (l := l) (E := E) (io := io) (rp := rp) (tp := tp) (fp := fp) h
  have cl := cl io rp tp fp
  refine AW_run 80 rfl ?_
  refine AW_cV (M' := mX9_fault) (d' := 100) rfl kkL_28 lcX9_fault rfl rfl rfl rfl rfl rfl (Nat.le_refl _) ?_
  refine AW_post (fun v G' σ' hP => ?_) cl
  obtain ⟨a, I1, L1, cu1, sp1, io1, rp1, tp1, fp1, rfl, rfl, rfl, hm⟩ := hP
  clear cl
  refine AW_run 80 rfl ?_
  refine AW_cV (M' := mX10_fault) (d' := 100) rfl kkL_31 lcX10_fault rfl rfl rfl rfl rfl rfl (Nat.le_refl _) ?_
  refine hm _ (fun I2 h2 => ?_)
  refine AW_iceq_r rfl ?_
  exact nx _ _ _ _ _ _ _ _ h2
theorem sr_case4 (i : Int) (hi : 0 ≤ i) (hn : i + 6 ≤ (E.2.2.2.2.2.1 : Int)) (hL : E.2.2.2.2.2.1 < 2147483648) (nx : sr_nx l E i Q) {cu sp io rp tp fp : Nat} {I : sk_SI} {L : sk_SL} (h : sr_R cu sp I L) : AW l E 101 0 0 mL_law 228 [some (vr 1030), some (vr 0), some (vr 59), some (vi i)] [] sk_G (I, L, sk_J cu sp io rp tp fp) Q := by
  have cl := fun io rp tp fp => sr_rulec (l := l) (E := E) (io := io) (rp := rp) (tp := tp) (fp := fp) h (sr_X E (i + 1)) (sr_X E (i + 2)) (sr_X E (i + 3)) (sr_Xi E _) (sr_Xi E _) (sr_Xi E _)
  have cl := cl io rp tp fp
  refine AW_run 80 rfl ?_
  refine AW_sld rfl ⟨by omega, by omega⟩ hL ?_
  refine AW_run 80 rfl ?_
  refine AW_sld rfl ⟨by omega, by omega⟩ hL ?_
  refine AW_run 80 rfl ?_
  refine AW_sld rfl ⟨by omega, by omega⟩ hL ?_
  refine AW_cV (M' := mX9_rule) (d' := 100) rfl kkL_32 lcX9_rule rfl rfl rfl rfl rfl rfl (Nat.le_refl _) ?_
  refine AW_post (fun v G' σ' hP => ?_) cl
  obtain ⟨a, I1, L1, cu1, sp1, io1, rp1, tp1, fp1, rfl, rfl, rfl, hm⟩ := hP
  clear cl
  refine AW_run 80 rfl ?_
  refine AW_sld rfl ⟨by omega, by omega⟩ hL ?_
  refine AW_run 80 rfl ?_
  refine AW_sld rfl ⟨by omega, by omega⟩ hL ?_
  refine AW_run 80 rfl ?_
  refine AW_sld rfl ⟨by omega, by omega⟩ hL ?_
  refine AW_cV (M' := mX10_rule) (d' := 100) rfl kkL_36 lcX10_rule rfl rfl rfl rfl rfl rfl (Nat.le_refl _) ?_
  refine hm _ (fun I2 h2 => ?_)
  refine AW_iceq_r rfl ?_
  exact nx _ _ _ _ _ _ _ _ h2
theorem sr_case5 (i : Int) (hi : 0 ≤ i) (hn : i + 6 ≤ (E.2.2.2.2.2.1 : Int)) (hL : E.2.2.2.2.2.1 < 2147483648) (nx : sr_nx l E i Q) {cu sp io rp tp fp : Nat} {I : sk_SI} {L : sk_SL} (h : sr_R cu sp I L) : AW l E 101 0 0 mL_law 271 [some (vr 1030), some (vr 0), some (vr 59), some (vi i)] [] sk_G (I, L, sk_J cu sp io rp tp fp) Q := by
  have cl := fun io rp tp fp => sr_bitsc (l := l) (E := E) (io := io) (rp := rp) (tp := tp) (fp := fp) h (sr_X E (i + 1)) (sr_X E (i + 2)) (sr_Xi E _)
  have cl := cl io rp tp fp
  refine AW_run 80 rfl ?_
  refine AW_sld rfl ⟨by omega, by omega⟩ hL ?_
  refine AW_run 80 rfl ?_
  refine AW_sld rfl ⟨by omega, by omega⟩ hL ?_
  refine AW_cV (M' := mX9_bits) (d' := 100) rfl kkL_37 lcX9_bits rfl rfl rfl rfl rfl rfl (Nat.le_refl _) ?_
  refine AW_post (fun v G' σ' hP => ?_) cl
  obtain ⟨a, I1, L1, cu1, sp1, io1, rp1, tp1, fp1, rfl, rfl, rfl, hm⟩ := hP
  clear cl
  refine AW_run 80 rfl ?_
  refine AW_sld rfl ⟨by omega, by omega⟩ hL ?_
  refine AW_run 80 rfl ?_
  refine AW_sld rfl ⟨by omega, by omega⟩ hL ?_
  refine AW_cV (M' := mX10_bits) (d' := 100) rfl kkL_41 lcX10_bits rfl rfl rfl rfl rfl rfl (Nat.le_refl _) ?_
  refine hm _ (fun I2 h2 => ?_)
  refine AW_iceq_r rfl ?_
  exact nx _ _ _ _ _ _ _ _ h2
theorem sr_case6 (i : Int) (hi : 0 ≤ i) (hn : i + 6 ≤ (E.2.2.2.2.2.1 : Int)) (hL : E.2.2.2.2.2.1 < 2147483648) (nx : sr_nx l E i Q) {cu sp io rp tp fp : Nat} {I : sk_SI} {L : sk_SL} (h : sr_R cu sp I L) : AW l E 101 0 0 mL_law 304 [some (vr 1030), some (vr 0), some (vr 59), some (vi i)] [] sk_G (I, L, sk_J cu sp io rp tp fp) Q := by
  have cl := fun io rp tp fp => sr_forget (l := l) (E := E) (io := io) (rp := rp) (tp := tp) (fp := fp) h
  have cl := cl io rp tp fp
  refine AW_run 80 rfl ?_
  refine AW_cV (M' := mX9_forget) (d' := 100) rfl kkL_42 lcX9_forget rfl rfl rfl rfl rfl rfl (Nat.le_refl _) ?_
  refine AW_post (fun v G' σ' hP => ?_) cl
  obtain ⟨a, I1, L1, cu1, sp1, io1, rp1, tp1, fp1, rfl, rfl, rfl, hm⟩ := hP
  clear cl
  refine AW_run 80 rfl ?_
  refine AW_cV (M' := mX10_forget) (d' := 100) rfl kkL_45 lcX10_forget rfl rfl rfl rfl rfl rfl (Nat.le_refl _) ?_
  refine hm _ (fun I2 h2 => ?_)
  refine AW_iceq_r rfl ?_
  exact nx _ _ _ _ _ _ _ _ h2
theorem sr_case7 (i : Int) (hi : 0 ≤ i) (hn : i + 6 ≤ (E.2.2.2.2.2.1 : Int)) (hL : E.2.2.2.2.2.1 < 2147483648) (nx : sr_nx l E i Q) {cu sp io rp tp fp : Nat} {I : sk_SI} {L : sk_SL} (h : sr_R cu sp I L) : AW l E 101 0 0 mL_law 317 [some (vr 1030), some (vr 0), some (vr 59), some (vi i)] [] sk_G (I, L, sk_J cu sp io rp tp fp) Q := by
  have cl := fun io rp tp fp => sr_aboutc (l := l) (E := E) (io := io) (rp := rp) (tp := tp) (fp := fp) h (sr_X E (i + 1)) (sr_Xi E _)
  have cl := cl io rp tp fp
  refine AW_run 80 rfl ?_
  refine AW_sld rfl ⟨by omega, by omega⟩ hL ?_
  refine AW_cV (M' := mX9_about) (d' := 100) rfl kkL_46 lcX9_about rfl rfl rfl rfl rfl rfl (Nat.le_refl _) ?_
  refine AW_post (fun v G' σ' hP => ?_) cl
  obtain ⟨a, I1, L1, cu1, sp1, io1, rp1, tp1, fp1, rfl, rfl, rfl, hm⟩ := hP
  clear cl
  refine AW_run 80 rfl ?_
  refine AW_sld rfl ⟨by omega, by omega⟩ hL ?_
  refine AW_cV (M' := mX10_about) (d' := 100) rfl kkL_49 lcX10_about rfl rfl rfl rfl rfl rfl (Nat.le_refl _) ?_
  refine hm _ (fun I2 h2 => ?_)
  refine AW_iceq_r rfl ?_
  exact nx _ _ _ _ _ _ _ _ h2
theorem sr_case8 (i : Int) (hi : 0 ≤ i) (hn : i + 6 ≤ (E.2.2.2.2.2.1 : Int)) (hL : E.2.2.2.2.2.1 < 2147483648) (nx : sr_nx l E i Q) {cu sp io rp tp fp : Nat} {I : sk_SI} {L : sk_SL} (h : sr_R cu sp I L) : AW l E 101 0 0 mL_law 340 [some (vr 1030), some (vr 0), some (vr 59), some (vi i)] [] sk_G (I, L, sk_J cu sp io rp tp fp) Q := by
  have cl := fun io rp tp fp => sr_stepc (l := l) (E := E) (io := io) (rp := rp) (tp := tp) (fp := fp) h (sr_X E (i + 1)) (sr_X E (i + 2)) (sr_Xi E _) (sr_Xi E _)
  have cl := cl io rp tp fp
  refine AW_run 80 rfl ?_
  refine AW_sld rfl ⟨by omega, by omega⟩ hL ?_
  refine AW_run 80 rfl ?_
  refine AW_sld rfl ⟨by omega, by omega⟩ hL ?_
  refine AW_cV (M' := mX9_step) (d' := 100) rfl kkL_50 lcX9_step rfl rfl rfl rfl rfl rfl (Nat.le_refl _) ?_
  refine AW_post (fun v G' σ' hP => ?_) cl
  obtain ⟨a, I1, L1, cu1, sp1, io1, rp1, tp1, fp1, rfl, rfl, rfl, hm⟩ := hP
  clear cl
  refine AW_run 80 rfl ?_
  refine AW_sld rfl ⟨by omega, by omega⟩ hL ?_
  refine AW_run 80 rfl ?_
  refine AW_sld rfl ⟨by omega, by omega⟩ hL ?_
  refine AW_cV (M' := mX10_step_) (d' := 100) rfl kkL_53 lcX10_step_ rfl rfl rfl rfl rfl rfl (Nat.le_refl _) ?_
  refine hm _ (fun I2 h2 => ?_)
  refine AW_iceq_r rfl ?_
  exact nx _ _ _ _ _ _ _ _ h2
theorem sr_case9 (i : Int) (hi : 0 ≤ i) (hn : i + 6 ≤ (E.2.2.2.2.2.1 : Int)) (hL : E.2.2.2.2.2.1 < 2147483648) (nx : sr_nx l E i Q) {cu sp io rp tp fp : Nat} {I : sk_SI} {L : sk_SL} (h : sr_R cu sp I L) : AW l E 101 0 0 mL_law 373 [some (vr 1030), some (vr 0), some (vr 59), some (vi i)] [] sk_G (I, L, sk_J cu sp io rp tp fp) Q := by
  have cl := fun io rp tp fp => sr_runc (l := l) (E := E) (io := io) (rp := rp) (tp := tp) (fp := fp) h (sr_X E (i + 1)) (sr_X E (i + 2)) (sr_Xi E _) (sr_Xi E _)
  have cl := cl io rp tp fp
  refine AW_run 80 rfl ?_
  refine AW_sld rfl ⟨by omega, by omega⟩ hL ?_
  refine AW_run 80 rfl ?_
  refine AW_sld rfl ⟨by omega, by omega⟩ hL ?_
  refine AW_cV (M' := mX9_run) (d' := 100) rfl kkL_54 lcX9_run rfl rfl rfl rfl rfl rfl (Nat.le_refl _) ?_
  refine AW_post (fun v G' σ' hP => ?_) cl
  obtain ⟨a, I1, L1, cu1, sp1, io1, rp1, tp1, fp1, rfl, rfl, rfl, hm⟩ := hP
  clear cl
  refine AW_run 80 rfl ?_
  refine AW_sld rfl ⟨by omega, by omega⟩ hL ?_
  refine AW_run 80 rfl ?_
  refine AW_sld rfl ⟨by omega, by omega⟩ hL ?_
  refine AW_cV (M' := mX10_run) (d' := 100) rfl kkL_57 lcX10_run rfl rfl rfl rfl rfl rfl (Nat.le_refl _) ?_
  refine hm _ (fun I2 h2 => ?_)
  refine AW_iceq_r rfl ?_
  exact nx _ _ _ _ _ _ _ _ h2
theorem sr_case10 (i : Int) (hi : 0 ≤ i) (hn : i + 6 ≤ (E.2.2.2.2.2.1 : Int)) (hL : E.2.2.2.2.2.1 < 2147483648) (nx : sr_nx l E i Q) {cu sp io rp tp fp : Nat} {I : sk_SI} {L : sk_SL} (h : sr_R cu sp I L) : AW l E 101 0 0 mL_law 406 [some (vr 1030), some (vr 0), some (vr 59), some (vi i)] [] sk_G (I, L, sk_J cu sp io rp tp fp) Q := by
  have cl := fun io rp tp fp => sr_ranc (l := l) (E := E) (io := io) (rp := rp) (tp := tp) (fp := fp) h (sr_X E (i + 1)) (sr_Xi E _)
  have cl := cl io rp tp fp
  refine AW_run 80 rfl ?_
  refine AW_sld rfl ⟨by omega, by omega⟩ hL ?_
  refine AW_cV (M' := mX9_ran) (d' := 100) rfl kkL_58 lcX9_ran rfl rfl rfl rfl rfl rfl (Nat.le_refl _) ?_
  refine AW_post (fun v G' σ' hP => ?_) cl
  obtain ⟨a, I1, L1, cu1, sp1, io1, rp1, tp1, fp1, rfl, rfl, rfl, hm⟩ := hP
  clear cl
  refine AW_run 80 rfl ?_
  refine AW_sld rfl ⟨by omega, by omega⟩ hL ?_
  refine AW_cV (M' := mX10_ran) (d' := 100) rfl kkL_61 lcX10_ran rfl rfl rfl rfl rfl rfl (Nat.le_refl _) ?_
  refine hm _ (fun I2 h2 => ?_)
  refine AW_iceq_r rfl ?_
  exact nx _ _ _ _ _ _ _ _ h2
theorem sr_case11 (i : Int) (hi : 0 ≤ i) (hn : i + 6 ≤ (E.2.2.2.2.2.1 : Int)) (hL : E.2.2.2.2.2.1 < 2147483648) (nx : sr_nx l E i Q) {cu sp io rp tp fp : Nat} {I : sk_SI} {L : sk_SL} (h : sr_R cu sp I L) : AW l E 101 0 0 mL_law 429 [some (vr 1030), some (vr 0), some (vr 59), some (vi i)] [] sk_G (I, L, sk_J cu sp io rp tp fp) Q := by
  have cl := fun io rp tp fp => sr_notec (l := l) (E := E) (io := io) (rp := rp) (tp := tp) (fp := fp) h (sr_X E (i + 1)) (sr_Xi E _)
  have cl := cl io rp tp fp
  refine AW_run 80 rfl ?_
  refine AW_sld rfl ⟨by omega, by omega⟩ hL ?_
  refine AW_cV (M' := mX9_note) (d' := 100) rfl kkL_62 lcX9_note rfl rfl rfl rfl rfl rfl (Nat.le_refl _) ?_
  refine AW_post (fun v G' σ' hP => ?_) cl
  obtain ⟨a, I1, L1, cu1, sp1, io1, rp1, tp1, fp1, rfl, rfl, rfl, hm⟩ := hP
  clear cl
  refine AW_run 80 rfl ?_
  refine AW_sld rfl ⟨by omega, by omega⟩ hL ?_
  refine AW_cV (M' := mX10_note) (d' := 100) rfl kkL_65 lcX10_note rfl rfl rfl rfl rfl rfl (Nat.le_refl _) ?_
  refine hm _ (fun I2 h2 => ?_)
  refine AW_iceq_r rfl ?_
  exact nx _ _ _ _ _ _ _ _ h2
theorem sr_case12 (i : Int) (hi : 0 ≤ i) (hn : i + 6 ≤ (E.2.2.2.2.2.1 : Int)) (hL : E.2.2.2.2.2.1 < 2147483648) (nx : sr_nx l E i Q) {cu sp io rp tp fp : Nat} {I : sk_SI} {L : sk_SL} (h : sr_R cu sp I L) : AW l E 101 0 0 mL_law 452 [some (vr 1030), some (vr 0), some (vr 59), some (vi i)] [] sk_G (I, L, sk_J cu sp io rp tp fp) Q := by
  have cl := fun io rp tp fp => sr_aheadc (l := l) (E := E) (io := io) (rp := rp) (tp := tp) (fp := fp) h (sr_X E (i + 1)) (sr_Xi E _)
  have cl := cl io rp tp fp
  refine AW_run 80 rfl ?_
  refine AW_sld rfl ⟨by omega, by omega⟩ hL ?_
  refine AW_cV (M' := mX9_ahead) (d' := 100) rfl kkL_66 lcX9_ahead rfl rfl rfl rfl rfl rfl (Nat.le_refl _) ?_
  refine AW_post (fun v G' σ' hP => ?_) cl
  obtain ⟨a, I1, L1, cu1, sp1, io1, rp1, tp1, fp1, rfl, rfl, rfl, hm⟩ := hP
  clear cl
  refine AW_run 80 rfl ?_
  refine AW_sld rfl ⟨by omega, by omega⟩ hL ?_
  refine AW_cV (M' := mX10_ahead) (d' := 100) rfl kkL_69 lcX10_ahead rfl rfl rfl rfl rfl rfl (Nat.le_refl _) ?_
  refine hm _ (fun I2 h2 => ?_)
  refine AW_iceq_r rfl ?_
  exact nx _ _ _ _ _ _ _ _ h2
theorem sr_case13 (i : Int) (hi : 0 ≤ i) (hn : i + 6 ≤ (E.2.2.2.2.2.1 : Int)) (hL : E.2.2.2.2.2.1 < 2147483648) (nx : sr_nx l E i Q) {cu sp io rp tp fp : Nat} {I : sk_SI} {L : sk_SL} (h : sr_R cu sp I L) : AW l E 101 0 0 mL_law 475 [some (vr 1030), some (vr 0), some (vr 59), some (vi i)] [] sk_G (I, L, sk_J cu sp io rp tp fp) Q := by
  have cl := fun io rp tp fp => sr_walkedc (l := l) (E := E) (io := io) (rp := rp) (tp := tp) (fp := fp) h (sr_X E (i + 1)) (sr_X E (i + 2)) (sr_Xi E _) (sr_Xi E _)
  have cl := cl io rp tp fp
  refine AW_run 80 rfl ?_
  refine AW_sld rfl ⟨by omega, by omega⟩ hL ?_
  refine AW_run 80 rfl ?_
  refine AW_sld rfl ⟨by omega, by omega⟩ hL ?_
  refine AW_cV (M' := mX9_walked) (d' := 100) rfl kkL_70 lcX9_walked rfl rfl rfl rfl rfl rfl (Nat.le_refl _) ?_
  refine AW_post (fun v G' σ' hP => ?_) cl
  obtain ⟨a, I1, L1, cu1, sp1, io1, rp1, tp1, fp1, rfl, rfl, rfl, hm⟩ := hP
  clear cl
  refine AW_run 80 rfl ?_
  refine AW_sld rfl ⟨by omega, by omega⟩ hL ?_
  refine AW_run 80 rfl ?_
  refine AW_sld rfl ⟨by omega, by omega⟩ hL ?_
  refine AW_cV (M' := mX10_walked) (d' := 100) rfl kkL_73 lcX10_walked rfl rfl rfl rfl rfl rfl (Nat.le_refl _) ?_
  refine hm _ (fun I2 h2 => ?_)
  refine AW_iceq_r rfl ?_
  exact nx _ _ _ _ _ _ _ _ h2
theorem sr_case14 (i : Int) (hi : 0 ≤ i) (hn : i + 6 ≤ (E.2.2.2.2.2.1 : Int)) (hL : E.2.2.2.2.2.1 < 2147483648) (nx : sr_nx l E i Q) {cu sp io rp tp fp : Nat} {I : sk_SI} {L : sk_SL} (h : sr_R cu sp I L) : AW l E 101 0 0 mL_law 508 [some (vr 1030), some (vr 0), some (vr 59), some (vi i)] [] sk_G (I, L, sk_J cu sp io rp tp fp) Q := by
  have cl := fun io rp tp fp => sr_toldc (l := l) (E := E) (io := io) (rp := rp) (tp := tp) (fp := fp) h (sr_X E (i + 1)) (sr_Xi E _)
  have cl := cl io rp tp fp
  refine AW_run 80 rfl ?_
  refine AW_sld rfl ⟨by omega, by omega⟩ hL ?_
  refine AW_cV (M' := mX9_told) (d' := 100) rfl kkL_74 lcX9_told rfl rfl rfl rfl rfl rfl (Nat.le_refl _) ?_
  refine AW_post (fun v G' σ' hP => ?_) cl
  obtain ⟨a, I1, L1, cu1, sp1, io1, rp1, tp1, fp1, rfl, rfl, rfl, hm⟩ := hP
  clear cl
  refine AW_run 80 rfl ?_
  refine AW_sld rfl ⟨by omega, by omega⟩ hL ?_
  refine AW_cV (M' := mX10_told) (d' := 100) rfl kkL_77 lcX10_told rfl rfl rfl rfl rfl rfl (Nat.le_refl _) ?_
  refine hm _ (fun I2 h2 => ?_)
  refine AW_iceq_r rfl ?_
  exact nx _ _ _ _ _ _ _ _ h2
theorem sr_case15 (i : Int) (hi : 0 ≤ i) (hn : i + 6 ≤ (E.2.2.2.2.2.1 : Int)) (hL : E.2.2.2.2.2.1 < 2147483648) (nx : sr_nx l E i Q) {cu sp io rp tp fp : Nat} {I : sk_SI} {L : sk_SL} (h : sr_R cu sp I L) : AW l E 101 0 0 mL_law 531 [some (vr 1030), some (vr 0), some (vr 59), some (vi i)] [] sk_G (I, L, sk_J cu sp io rp tp fp) Q := by
  have cl := fun io rp tp fp => sr_pairc (l := l) (E := E) (io := io) (rp := rp) (tp := tp) (fp := fp) h (sr_X E (i + 1)) (sr_X E (i + 2)) (sr_X E (i + 3)) (sr_X E (i + 4)) (sr_Xi E _) (sr_Xi E _) (sr_Xi E _) (sr_Xi E _)
  have cl := cl io rp tp fp
  refine AW_run 80 rfl ?_
  refine AW_sld rfl ⟨by omega, by omega⟩ hL ?_
  refine AW_run 80 rfl ?_
  refine AW_sld rfl ⟨by omega, by omega⟩ hL ?_
  refine AW_run 80 rfl ?_
  refine AW_sld rfl ⟨by omega, by omega⟩ hL ?_
  refine AW_run 80 rfl ?_
  refine AW_sld rfl ⟨by omega, by omega⟩ hL ?_
  refine AW_cV (M' := mX9_pair) (d' := 100) rfl kkL_78 lcX9_pair rfl rfl rfl rfl rfl rfl (Nat.le_refl _) ?_
  refine AW_post (fun v G' σ' hP => ?_) cl
  obtain ⟨a, I1, L1, cu1, sp1, io1, rp1, tp1, fp1, rfl, rfl, rfl, hm⟩ := hP
  clear cl
  refine AW_run 80 rfl ?_
  refine AW_sld rfl ⟨by omega, by omega⟩ hL ?_
  refine AW_run 80 rfl ?_
  refine AW_sld rfl ⟨by omega, by omega⟩ hL ?_
  refine AW_run 80 rfl ?_
  refine AW_sld rfl ⟨by omega, by omega⟩ hL ?_
  refine AW_run 80 rfl ?_
  refine AW_sld rfl ⟨by omega, by omega⟩ hL ?_
  refine AW_cV (M' := mX10_pair) (d' := 100) rfl kkL_82 lcX10_pair rfl rfl rfl rfl rfl rfl (Nat.le_refl _) ?_
  refine hm _ (fun I2 h2 => ?_)
  refine AW_iceq_r rfl ?_
  exact nx _ _ _ _ _ _ _ _ h2
theorem sr_case16 (i : Int) (hi : 0 ≤ i) (hn : i + 6 ≤ (E.2.2.2.2.2.1 : Int)) (hL : E.2.2.2.2.2.1 < 2147483648) (nx : sr_nx l E i Q) {cu sp io rp tp fp : Nat} {I : sk_SI} {L : sk_SL} (h : sr_R cu sp I L) : AW l E 101 0 0 mL_law 584 [some (vr 1030), some (vr 0), some (vr 59), some (vi i)] [] sk_G (I, L, sk_J cu sp io rp tp fp) Q := by
  have cl := fun io rp tp fp => sr_countc (l := l) (E := E) (io := io) (rp := rp) (tp := tp) (fp := fp) h (sr_X E (i + 1)) (sr_Xi E _)
  have cl := cl io rp tp fp
  refine AW_run 80 rfl ?_
  refine AW_sld rfl ⟨by omega, by omega⟩ hL ?_
  refine AW_cV (M' := mX9_count) (d' := 100) rfl kkL_83 lcX9_count rfl rfl rfl rfl rfl rfl (Nat.le_refl _) ?_
  refine AW_post (fun v G' σ' hP => ?_) cl
  obtain ⟨a, I1, L1, cu1, sp1, io1, rp1, tp1, fp1, rfl, rfl, rfl, hm⟩ := hP
  clear cl
  refine AW_run 80 rfl ?_
  refine AW_sld rfl ⟨by omega, by omega⟩ hL ?_
  refine AW_cV (M' := mX10_count) (d' := 100) rfl kkL_86 lcX10_count rfl rfl rfl rfl rfl rfl (Nat.le_refl _) ?_
  refine hm _ (fun I2 h2 => ?_)
  refine AW_iceq_r rfl ?_
  exact nx _ _ _ _ _ _ _ _ h2
theorem sr_loop (hL : E.2.2.2.2.2.1 < 2147483648) (hq : ∀ I L J, Q (some (vi 1)) sk_G (I, L, J)) : ∀ (k : Nat) (i : Int), 0 ≤ i → (E.2.2.2.2.2.1 : Int) ≤ i + k → i ≤ 100000 + (E.2.2.2.2.2.1 : Int) → (E.2.2.2.2.2.1 : Int) ≤ 3072 → ∀ (cu sp io rp tp fp : Nat) (I : sk_SI) (L : sk_SL), sr_R cu sp I L → AW l E 101 0 0 mL_law 24 [some (vr 1030), some (vr 0), some (vr 59), some (vi i)] [vi ((E.2.2.2.2.2.1 : Int) - 6), vi i] sk_G (I, L, sk_J cu sp io rp tp fp) Q := by
  intro k
  induction k with
  | zero =>
    intro i hi hk hu h3 cu sp io rp tp fp I L h
    refine AW_icgt rfl (fun g => ?_) (fun g => by omega) (by unfold sk_in; omega) (by unfold sk_in; omega)
    refine AW_run 80 rfl ?_
    exact AW_zret rfl rfl (Or.inr rfl) (hq _ _ _)
  | succ k ih =>
    intro i hi hk hu h3 cu sp io rp tp fp I L h
    refine AW_icgt rfl (fun g => ?_) (fun g => ?_) (by unfold sk_in; omega) (by unfold sk_in; omega)
    · refine AW_run 80 rfl ?_
      exact AW_zret rfl rfl (Or.inr rfl) (hq _ _ _)
    · have nx : sr_nx l E i Q := by
        intro cu sp io rp tp fp I L h
        have ih2 := ih (i + 6) (by omega) (by omega) (by omega) h3 cu sp io rp tp fp I L h
        refine AW_run 80 rfl ?_
        refine AW_slen rfl ?_
        refine AW_run 80 rfl ?_
        exact ih2
      clear ih
      refine AW_run 80 rfl ?_
      refine AW_sld rfl ⟨by omega, by omega⟩ hL ?_
      refine AW_run 80 rfl ?_
      have iw := sr_in_and (E.2.2.2.2.2.2 i.toNat).toInt 31
      generalize sk_and (E.2.2.2.2.2.2 i.toNat).toInt 31 = X at *
      by_cases hX : 0 ≤ X ∧ X ≤ 16
      · rcases (show X = 0 ∨ X = 1 ∨ X = 2 ∨ X = 3 ∨ X = 4 ∨ X = 5 ∨ X = 6 ∨ X = 7 ∨ X = 8 ∨ X = 9 ∨ X = 10 ∨ X = 11 ∨ X = 12 ∨ X = 13 ∨ X = 14 ∨ X = 15 ∨ X = 16 by omega) with e | e | e | e | e | e | e | e | e | e | e | e | e | e | e | e | e
        · refine AW_tin 0 rfl (by omega) rfl iw ?_
          exact sr_case0 i hi (by omega) hL nx h
        · refine AW_tin 1 rfl (by omega) rfl iw ?_
          exact sr_case1 i hi (by omega) hL nx h
        · refine AW_tin 2 rfl (by omega) rfl iw ?_
          exact sr_case2 i hi (by omega) hL nx h
        · refine AW_tin 3 rfl (by omega) rfl iw ?_
          exact sr_case3 i hi (by omega) hL nx h
        · refine AW_tin 4 rfl (by omega) rfl iw ?_
          exact sr_case4 i hi (by omega) hL nx h
        · refine AW_tin 5 rfl (by omega) rfl iw ?_
          exact sr_case5 i hi (by omega) hL nx h
        · refine AW_tin 6 rfl (by omega) rfl iw ?_
          exact sr_case6 i hi (by omega) hL nx h
        · refine AW_tin 7 rfl (by omega) rfl iw ?_
          exact sr_case7 i hi (by omega) hL nx h
        · refine AW_tin 8 rfl (by omega) rfl iw ?_
          exact sr_case8 i hi (by omega) hL nx h
        · refine AW_tin 9 rfl (by omega) rfl iw ?_
          exact sr_case9 i hi (by omega) hL nx h
        · refine AW_tin 10 rfl (by omega) rfl iw ?_
          exact sr_case10 i hi (by omega) hL nx h
        · refine AW_tin 11 rfl (by omega) rfl iw ?_
          exact sr_case11 i hi (by omega) hL nx h
        · refine AW_tin 12 rfl (by omega) rfl iw ?_
          exact sr_case12 i hi (by omega) hL nx h
        · refine AW_tin 13 rfl (by omega) rfl iw ?_
          exact sr_case13 i hi (by omega) hL nx h
        · refine AW_tin 14 rfl (by omega) rfl iw ?_
          exact sr_case14 i hi (by omega) hL nx h
        · refine AW_tin 15 rfl (by omega) rfl iw ?_
          exact sr_case15 i hi (by omega) hL nx h
        · refine AW_tin 16 rfl (by omega) rfl iw ?_
          exact sr_case16 i hi (by omega) hL nx h
      · refine AW_tout rfl (by omega) iw ?_
        exact nx _ _ _ _ _ _ _ _ h
end SKL1
