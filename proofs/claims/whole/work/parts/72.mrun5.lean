/-! ===== the model's fail, finish, takeBit ===== -/
theorem sk_nb_comm (v : Int) (C : sk_SI) : sk_nte v (sk_bmp 2 C) = sk_bmp 2 (sk_nte v C) := by
  unfold sk_nte sk_bmp
  funext c j
  by_cases c5 : c = 5
  · subst c5; simp only [sk_uI_s, sk_uI_o, ne_eq, Nat.reduceEqDiff, not_false_eq_true]
  · by_cases c6 : c = 6
    · subst c6; simp only [sk_uI_s, sk_uI_o, ne_eq, Nat.reduceEqDiff, not_false_eq_true]
    · by_cases c44 : c = 44
      · subst c44; simp only [sk_uI_s, sk_uI_o, ne_eq, Nat.reduceEqDiff, not_false_eq_true]
      · rw [sk_uI_o c5, sk_uI_o c6, sk_uI_o c44, sk_uI_o c44, sk_uI_o c5, sk_uI_o c6]
theorem sk_fpu_t (r o n s : Int) (C : sk_SI) : sk_uI (sk_fpu r o n s C) 40 (C 35 5) 0 = sk_fpu r o n s C := sk_uI_id (by rw [(sk_fpu_r r o n s C).2.2.2.2.2, sk_up_s])
theorem sk_kr_in {r k : Int} (h : sk_kr r k) (hr : 0 ≤ r ∧ r ≤ 3) : 2 ≤ k ∧ k ≤ 20 ∧ (k = 7 ↔ r = 1) ∧ (k = 8 ↔ r = 2) ∧ (k = 20 ↔ r = 0) := by
  obtain ⟨h0, h1, h2, h3⟩ := h
  rcases (show r = 0 ∨ r = 1 ∨ r = 2 ∨ r = 3 by omega) with e | e | e | e
  · have := h0 e; omega
  · have := h1 e; omega
  · have := h2 e; omega
  · have := h3 e; omega
section SKY5
variable {l : Launch} {E : sk_En} {d : Nat} {L : sk_SL} {cu sp io rp tp fp p : Nat} {Q : Option sk_V → List sk_Sh → sk_St → Prop} {D lv mc : Int → Int} {a b : Int}
theorem c_M_fail_lp (hp : sk_pg p) (s o : Int) : ∀ (n : Nat) (C I : sk_SI), sk_XV p D lv mc a b C → sk_RR p C I → C 35 5 ≤ n → (∀ I', sk_RR p (sk_flL p n C) I' → sk_rfr I I' → Q none sk_G (I', L, sk_J cu sp io rp tp fp)) → AW l E (d + 1) 0 0 mX10_fail 31 [some (vr 59), some (vi s), some (vi o), none] [vi (I 59 37)] sk_G (I, L, sk_J cu sp io rp tp fp) Q := by
  intro n
  have emp : ∀ (C I : sk_SI), sk_RR p C I → C 35 5 = 0 → (∀ I', sk_RR p (sk_bmp 3 C) I' → sk_rfr I I' → Q none sk_G (I', L, sk_J cu sp io rp tp fp)) → AW l E (d + 1) 0 0 mX10_fail 31 [some (vr 59), some (vi s), some (vi o), none] [vi (I 59 37)] sk_G (I, L, sk_J cu sp io rp tp fp) Q := by
    intro C I h h0 hq
    have e37 : I 59 37 = 0 := by rw [h.1.2.1.1]; exact h0
    have hq := hq _ (sk_RR_bmp hp h 3 53 (by omega)) (sk_rfr_u (sk_rfr_rf I) 59 53 _ (by omega))
    refine AW_ifle rfl (fun g => ?_) (fun g => by omega) (by rw [e37]; unfold sk_in; omega)
    refine AW_run 80 rfl ?_
    refine AW_ifne rfl (fun g => absurd e37 g) (fun g => ?_) (by rw [e37]; unfold sk_in; omega)
    refine AW_run 80 rfl ?_
    exact AW_vret rfl rfl hq
  induction n with
  | zero =>
    intro C I hX h hn hq
    have := hX.2.1.1
    exact emp C I h (by omega) hq
  | succ n ih =>
    intro C I hX h hn hq
    unfold sk_flL at hq
    by_cases h0 : C 35 5 = 0
    · rw [if_pos h0] at hq
      exact emp C I h h0 hq
    · rw [if_neg h0] at hq
      have hd : 0 < C 35 5 := by have := hX.2.1.1; omega
      have hd2 := sk_FV_d hX.2.1
      have e37 : I 59 37 = C 35 5 := h.1.2.1.1
      obtain ⟨r1, r2, r3, r4, r5⟩ := h.1.2.1.2 (C 35 5 - 1) (by omega) (by omega)
      obtain ⟨f1, f2, f3, f4, f5, f6, f7, f8, f9, f10⟩ := hX.2.1.2 (C 35 5 - 1) (by omega) (by omega)
      obtain ⟨k1, k2, k7, k8, k20⟩ := sk_kr_in r1 f6
      have hcl := sk_RR_cl hp h hd f6
      have c35 := sk_clI_d C
      have ki : sk_in (I 83 (I 59 37 - 1)) := by rw [e37]; unfold sk_in; omega
      have i37 : 0 < I 59 37 ∧ I 59 37 ≤ 600 := by omega
      refine AW_ifle rfl (fun g => by omega) (fun g => ?_) (by unfold sk_in; omega)
      refine AW_run 80 rfl ?_
      refine AW_iald rfl rfl ⟨by omega, by omega⟩ (by decide) ?_
      refine AW_run 80 rfl ?_
      refine AW_iceq rfl (fun g2 => ?_) (fun g2 => ?_) ki
      · rw [e37] at g2
        have g1 := k7.mp g2
        rw [if_pos g1] at hq
        have g9 := f9 (Or.inl g1)
        have g8 := f8 (by omega)
        rw [if_pos g8.1] at hq
        have e84 : I 84 (I 59 37 - 1) = C 37 (C 35 5 - 1) := by rw [e37]; exact r2 (Or.inl g1)
        have p0 : sk_clI C p = C p := (sk_sm_cl (I := C) hp).1 0 (by omega)
        have hs2 : 0 ≤ C 37 (C 35 5 - 1) ∧ C 37 (C 35 5 - 1) < C p 10 := ⟨g9.1, g9.2.1⟩
        have v10 := hX.1.1.2.1
        have e73 : sk_mcl I 73 (C 37 (C 35 5 - 1)) = C (p + 9) (C 37 (C 35 5 - 1)) := by rw [(sk_rfr_mcl I).1 73 (by decide) (by decide)]; exact (h.1.1.2.1 _ hs2.1 hs2.2).2.2.2.2.2.2
        have hpu := sk_RR_push hp hcl (by omega) 3 (C 37 (C 35 5 - 1)) (C (p + 9) (C 37 (C 35 5 - 1))) (C 39 (C 35 5 - 1 - 1)) 0 14 (by omega) ⟨fun z => by omega, fun z => by omega, fun z => by omega, fun _ => by omega⟩ (by rw [p0]; exact hs2) (by rw [c35, sk_clI_o C 38 (by decide) (by decide), (sk_sm_cl (I := C) hp).1 7 (by omega)]; exact r5 g1) (by rw [c35, sk_clI_o C 39 (by decide) (by decide)])
        rw [sk_fpu_t] at hpu
        have hq := hq _ hpu (sk_rfr_tr (sk_rfr_mcl I) (sk_rfr_mop _ _ _ _ _))
        have m37 : sk_mcl I 59 37 = C 35 5 - 1 := by rw [hcl.1.2.1.1, c35]
        refine AW_run 80 rfl ?_
        refine AW_ifne rfl (fun g3 => ?_) (fun g3 => by omega) (by unfold sk_in; omega)
        refine AW_run 80 rfl ?_
        refine AW_iald rfl rfl ⟨by omega, by omega⟩ (by decide) ?_
        rw [e84]
        refine AW_run 80 rfl ?_
        refine AW_cV (M' := mX10_close) rfl kkX10_290 lcX10_close rfl rfl rfl rfl rfl rfl (Nat.le_refl _) ?_
        refine c_M_close i37 ki ?_
        generalize sk_mcl I = S at *
        refine AW_run 80 rfl ?_
        refine AW_iald rfl rfl ⟨by omega, by omega⟩ (by decide) ?_
        rw [e73]
        refine AW_run 80 rfl ?_
        refine AW_cV (M' := mX10_open) rfl kkX10_269 lcX10_open rfl rfl rfl rfl rfl rfl (Nat.le_refl _) ?_
        refine c_M_open _ _ _ _ (by omega) (by omega) ?_
        refine AW_run 80 rfl ?_
        exact AW_vret rfl rfl hq
      · rw [e37] at g2
        rw [if_neg (fun z => g2 (k7.mpr z))] at hq
        have ih2 := ih (sk_clI C) (sk_mcl I) (sk_XV_cl hp hX hd) hcl (by omega) (fun I' h1 h2 => hq I' h1 (sk_rfr_tr (sk_rfr_mcl I) h2))
        refine AW_run 80 rfl ?_
        refine AW_cV (M' := mX10_close) rfl kkX10_290 lcX10_close rfl rfl rfl rfl rfl rfl (Nat.le_refl _) ?_
        refine c_M_close i37 ki ?_
        refine AW_run 80 rfl ?_
        exact ih2
theorem c_M_failF (hp : sk_pg p) (s o : Int) (C I : sk_SI) (hX : sk_XV p D lv mc a b C) (h : sk_RR p C I) (h58 : 0 ≤ C 5 1 ∧ C 5 1 < 3000) (hq : ∀ I', sk_RR p (sk_flI p s o C) I' → sk_rfr I I' → Q none sk_G (I', L, sk_J cu sp io rp tp fp)) : AW l E (d + 1) 0 0 mX10_fail 0 [some (vr 59), some (vi s), some (vi o), none] [] sk_G (I, L, sk_J cu sp io rp tp fp) Q := by
  have h1 := sk_RR_nte hp (sk_RR_bmp hp h 2 52 (by omega)) (10000 + 1000 * (o + 1) + s)
  rw [sk_nb_comm] at h1
  have X1 := sk_XV_bmp hp (sk_XV_nte hp hX (10000 + 1000 * (o + 1) + s)) 2 (by omega)
  have e35 : sk_bmp 2 (sk_nte (10000 + 1000 * (o + 1) + s) C) 35 5 = C 35 5 := by unfold sk_bmp sk_nte; (try simp only [sk_uI_s, sk_uI_o, sk_up_s, sk_up_o, sk_uL_s, sk_uL_o, ne_eq, Nat.reduceEqDiff, Nat.reduceAdd, Int.reduceEq, not_false_eq_true])
  have fr : sk_rfr I (sk_msy (10000 + 1000 * (o + 1) + s) (sk_uI I 59 52 (I 59 52 + 1))) := by
    unfold sk_msy
    exact sk_rfr_u (sk_rfr_u (sk_rfr_u (sk_rfr_rf I) 59 52 _ (by omega)) 90 _ _ (by omega)) 59 58 _ (by omega)
  have e58 : I 59 58 = C 5 1 := h.1.2.2.2.2.2.2.2.1
  have lp := c_M_fail_lp (l := l) (E := E) (d := d) (L := L) (cu := cu) (sp := sp) (io := io) (rp := rp) (tp := tp) (fp := fp) (Q := Q) hp s o 480 _ _ X1 h1 (by rw [e35]; exact (sk_FV_d hX.2.1).2) (fun I' g1 g2 => hq I' (by unfold sk_flI; exact g1) (sk_rfr_tr fr g2))
  refine AW_run 80 rfl ?_
  refine AW_cV (M' := mX10_say) rfl kkX10_288 lcX10_say rfl rfl rfl rfl rfl rfl (Nat.le_refl _) ?_
  refine c_M_say _ (by (try simp only [sk_uI_s, sk_uI_o, sk_up_s, sk_up_o, sk_uL_s, sk_uL_o, ne_eq, Nat.reduceEqDiff, Nat.reduceAdd, Int.reduceEq, not_false_eq_true]); omega) ?_
  generalize sk_msy (10000 + 1000 * (o + 1) + s) (sk_uI I 59 52 (I 59 52 + 1)) = S at *
  refine AW_run 80 rfl ?_
  exact lp
theorem c_M_finishF (hp : sk_pg p) (C I : sk_SI) (hX : sk_XV p D lv mc a b C) (h : sk_RR p C I) (hd : 0 < C 35 5) (hq : ∀ I', sk_RR p (sk_ebI p C) I' → sk_rfr I I' → Q none sk_G (I', L, sk_J cu sp io rp tp fp)) : AW l E (d + 1) 0 0 mX10_finish 0 [some (vr 59), none] [] sk_G (I, L, sk_J cu sp io rp tp fp) Q := by
  have hd2 := sk_FV_d hX.2.1
  have e37 : I 59 37 = C 35 5 := h.1.2.1.1
  obtain ⟨r1, r2, r3, r4, r5⟩ := h.1.2.1.2 (C 35 5 - 1) (by omega) (by omega)
  obtain ⟨f1, f2, f3, f4, f5, f6, f7, f8, f9, f10⟩ := hX.2.1.2 (C 35 5 - 1) (by omega) (by omega)
  obtain ⟨k1, k2, k7, k8, k20⟩ := sk_kr_in r1 f6
  have v10 := hX.1.1.2.1
  have ki : sk_in (I 83 (C 35 5 - 1)) := by unfold sk_in; omega
  unfold sk_ebI at hq
  have clo : ¬ (C 36 (C 35 5 - 1) = 2 ∧ 0 < C 40 (C 35 5 - 1)) → AW l E (d + 1) 0 0 mX10_finish 56 [some (vr 59), some (vi (C 35 5 - 1))] [vr 59] sk_G (I, L, sk_J cu sp io rp tp fp) Q := by
    intro hn
    rw [if_neg hn] at hq
    have hq := hq _ (sk_RR_cl hp h hd f6) (sk_rfr_mcl I)
    refine AW_cV (M' := mX10_close) rfl kkX10_290 lcX10_close rfl rfl rfl rfl rfl rfl (Nat.le_refl _) ?_
    refine c_M_close (by omega) (by rw [e37]; exact ki) ?_
    refine AW_run 80 rfl ?_
    exact AW_vret rfl rfl hq
  refine AW_run 80 rfl ?_
  rw [e37]
  refine AW_iald rfl rfl ⟨by omega, by omega⟩ (by decide) ?_
  refine AW_run 80 rfl ?_
  refine AW_icne rfl (fun g => ?_) (fun g => ?_) ki
  · have clo := clo (fun z => g (k8.mpr z.1))
    refine AW_run 80 rfl ?_
    exact clo
  · have g2 := k8.mp g
    have g9 := f9 (Or.inr g2)
    have g10 := f10 g2
    have e87 := r4 g2
    have e84 := r2 (Or.inr g2)
    refine AW_run 80 rfl ?_
    refine AW_iald rfl rfl ⟨by omega, by omega⟩ (by decide) ?_
    rw [e87]
    refine AW_ifle rfl (fun g3 => ?_) (fun g3 => ?_) (by unfold sk_in; omega)
    · have clo := clo (fun z => by omega)
      refine AW_run 80 rfl ?_
      exact clo
    · rw [if_pos ⟨g2, by omega⟩] at hq
      have e72 : I 72 (C 37 (C 35 5 - 1)) = C (p + 8) (C 37 (C 35 5 - 1)) := (h.1.1.2.1 _ g9.1 g9.2.1).2.2.2.2.2.1
      have hq := hq _ (sk_RR_again hp h hd (C 40 (C 35 5 - 1) - 1) (C (p + 8) (C 37 (C 35 5 - 1)))) (sk_rfr_u (sk_rfr_u (sk_rfr_rf I) 87 _ _ (by omega)) 59 43 _ (by omega))
      refine AW_run 80 rfl ?_
      refine AW_iald rfl rfl ⟨by omega, by omega⟩ (by decide) ?_
      rw [e87]
      refine AW_run 80 rfl ?_
      refine AW_iast rfl rfl ⟨by omega, by omega⟩ (by decide) ?_
      refine AW_run 80 rfl ?_
      refine AW_iald rfl rfl ⟨by omega, by omega⟩ (by decide) ?_
      (try simp only [sk_uI_s, sk_uI_o, sk_up_s, sk_up_o, sk_uL_s, sk_uL_o, ne_eq, Nat.reduceEqDiff, Nat.reduceAdd, Int.reduceEq, not_false_eq_true])
      rw [e84]
      refine AW_iald rfl rfl ⟨by omega, by omega⟩ (by decide) ?_
      (try simp only [sk_uI_s, sk_uI_o, sk_up_s, sk_up_o, sk_uL_s, sk_uL_o, ne_eq, Nat.reduceEqDiff, Nat.reduceAdd, Int.reduceEq, not_false_eq_true])
      rw [e72]
      refine AW_run 80 rfl ?_
      exact AW_vret rfl rfl hq
theorem c_M_bitF (hp : sk_pg p) (C I : sk_SI) (hX : sk_XV p D lv mc a b C) (h : sk_RR p C I) (hq : ∀ v I', (v = 1 ↔ sk_bit C = 1) → sk_in v → sk_RR p (if sk_bit C = -1 then C else sk_bmp 5 C) I' → sk_rfr I I' → Q (some (vi v)) sk_G (I', L, sk_J cu sp io rp tp fp)) : AW l E d 0 0 mX10_takeBit 0 [some (vr 59)] [] sk_G (I, L, sk_J cu sp io rp tp fp) Q := by
  have h3 := hX.1.2.2.1
  have hb := hX.1.2.2.2.1
  have t5 := hX.2.2.2.2.2.2.2.2.2.1
  have e55 : I 59 55 = C 44 5 := h.1.2.2.2.2.2.2.1.2.2.2.2.2.1
  have e5 : I 59 5 = C 3 1 := h.1.1.2.2.2.2
  have e62 : I 62 = C 4 := h.1.1.2.2.2.1
  unfold sk_bit at hq
  refine AW_run 80 rfl ?_
  refine AW_icne rfl (fun g => ?_) (fun g => ?_) (by rw [e55]; unfold sk_in; omega) (by rw [e5]; unfold sk_in; omega)
  · have hb := hb (C 44 5) t5.1 (by omega)
    rw [if_pos ⟨t5.1, by omega⟩, if_neg (by omega)] at hq
    have hq := hq (C 4 (C 44 5)) _ Iff.rfl (by unfold sk_in; omega) (sk_RR_bmp hp h 5 55 (by omega)) (sk_rfr_u (sk_rfr_rf I) 59 55 _ (by omega))
    (refine AW_run 80 rfl ?_; (try simp only [sk_uI_s, sk_uI_o, sk_up_s, sk_up_o, sk_uL_s, sk_uL_o, ne_eq, Nat.reduceEqDiff, Nat.reduceAdd, Int.reduceEq, not_false_eq_true]))
    rw [show I 59 55 + 1 - 1 = C 44 5 by omega]
    refine AW_iald rfl rfl ⟨by omega, by omega⟩ (by decide) ?_
    (try simp only [sk_uI_s, sk_uI_o, sk_up_s, sk_up_o, sk_uL_s, sk_uL_o, ne_eq, Nat.reduceEqDiff, Nat.reduceAdd, Int.reduceEq, not_false_eq_true])
    rw [e62]
    exact AW_iret rfl rfl hq
  · rw [if_neg (by omega), if_pos rfl] at hq
    have hq := hq 0 I (by omega) (by unfold sk_in; omega) h (sk_rfr_rf I)
    refine AW_run 80 rfl ?_
    exact AW_iret rfl rfl hq
end SKY5
