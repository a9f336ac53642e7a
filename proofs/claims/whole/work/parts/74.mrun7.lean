/-! ===== the model's doJob ===== -/
theorem sk_spin_s (s t : Int) (I : sk_SI) : sk_uI (sk_uI (sk_mop 8 s (-1) t I) 87 (I 59 37) (t - 1)) 59 43 (-1) = sk_mop 8 s (-1) (t - 1) I := by
  unfold sk_mop
  funext c j
  by_cases c59 : c = 59
  · subst c59
    simp only [sk_uI_s, sk_uI_o, ne_eq, Nat.reduceEqDiff, not_false_eq_true]
    by_cases e : j = 43
    · subst e; rw [sk_up_s, sk_up_s]
    · rw [sk_up_o e, sk_up_o e]
  · rw [sk_uI_o c59, sk_uI_o c59, sk_uI_o c59]
    by_cases c87 : c = 87
    · subst c87
      simp only [sk_uI_s, sk_uI_o, ne_eq, Nat.reduceEqDiff, not_false_eq_true]
      by_cases e : j = I 59 37
      · subst e; rw [sk_up_s, sk_up_s]
      · rw [sk_up_o e, sk_up_o e, sk_up_o e]
    · rw [sk_uI_o c87, sk_uI_o c59, sk_uI_o c59, sk_uI_o c87, sk_uI_o c87]
section SKY7
variable {l : Launch} {E : sk_En} {d : Nat} {L : sk_SL} {cu sp io rp tp fp p : Nat} {Q : Option sk_V → List sk_Sh → sk_St → Prop} {D lv mc : Int → Int} {a b : Int}
theorem sk_RR_spin {C I : sk_SI} (h : sk_RR p C I) (hd : 0 < C 35 5) (s : Int) (hs : 0 ≤ s ∧ s < C p 10) (hn : C 38 (C 35 5 - 1) = C (p + 7) s) : sk_RR p C (sk_mcl (sk_mop 8 s (-1) 0 I)) := by
  obtain ⟨⟨a1, a2, a3, a4, a5, a6, a7⟩, b1, b2⟩ := h
  obtain ⟨m59, m37, m43, m83, m84, m85, m86, m87⟩ := sk_mop_r 8 s (-1) 0 I
  have mo := sk_mop_o 8 s (-1) 0 I
  have hfr := sk_rfr_tr (sk_rfr_mop 8 s (-1) 0 I) (sk_rfr_mcl (sk_mop 8 s (-1) 0 I))
  have e37 := a2.1
  have e71 : I 71 s = C (p + 7) s := (a1.2.1 s hs.1 hs.2).2.2.2.2.1
  generalize sk_mop 8 s (-1) 0 I = T at *
  have z37 : T 59 37 - 1 = C 35 5 := by omega
  have io : ∀ c, c ≠ 59 → sk_mcl T c = T c := fun c hc => by unfold sk_mcl; rw [sk_uI_o hc, sk_uI_o hc, sk_uI_o hc, sk_uI_o hc]
  have ij : ∀ j, j ≠ 37 → j ≠ 35 → j ≠ 43 → j ≠ 44 → sk_mcl T 59 j = T 59 j := fun j j1 j2 j3 j4 => by unfold sk_mcl; rw [sk_uI_s, sk_up_o j4, sk_uI_s, sk_up_o j3, sk_uI_s, sk_up_o j2, sk_uI_s, sk_up_o j1]
  have i37 : sk_mcl T 59 37 = C 35 5 := by unfold sk_mcl; (try simp only [sk_uI_s, sk_uI_o, sk_up_s, sk_up_o, sk_uL_s, sk_uL_o, ne_eq, Nat.reduceEqDiff, Nat.reduceAdd, Int.reduceEq, not_false_eq_true]); exact z37
  have i35 : sk_mcl T 59 35 = I 59 35 := by unfold sk_mcl; (try simp only [sk_uI_s, sk_uI_o, sk_up_s, sk_up_o, sk_uL_s, sk_uL_o, ne_eq, Nat.reduceEqDiff, Nat.reduceAdd, Int.reduceEq, not_false_eq_true]); rw [z37, m85, e37, sk_up_s]
  have i43 : sk_mcl T 59 43 = C (p + 7) s := by unfold sk_mcl; (try simp only [sk_uI_s, sk_uI_o, sk_up_s, sk_up_o, sk_uL_s, sk_uL_o, ne_eq, Nat.reduceEqDiff, Nat.reduceAdd, Int.reduceEq, not_false_eq_true]); rw [z37, m86, e37, sk_up_s, if_neg (by omega)]; exact e71
  have i44 : sk_mcl T 59 44 = I 59 44 := by unfold sk_mcl; (try simp only [sk_uI_s, sk_uI_o, sk_up_s, sk_up_o, sk_uL_s, sk_uL_o, ne_eq, Nat.reduceEqDiff, Nat.reduceAdd, Int.reduceEq, not_false_eq_true]); rw [z37, m83, e37, sk_up_s, m59 44 (by decide) (by decide), if_neg (by decide)]; omega
  have hs0 := sk_sm_rf p C
  obtain ⟨t1, t2⟩ := a3 hd
  refine ⟨⟨sk_q1_cg a1 hs0 hfr, ⟨i37, fun i i0 i1 => ?_⟩, fun _ => ⟨by rw [i35]; exact t1, by rw [i43]; exact hn.symm⟩, sk_q4_cg a4 hs0 rfl rfl rfl (by rw [ij 29 (by decide) (by decide) (by decide) (by decide), m59 29 (by decide) (by decide)]) (fun c hc => by rw [io c (by omega), mo c (by omega) (by omega)]), sk_q5_cg a5 rfl (by rw [io 82 (by decide), mo 82 (by decide) (by decide)]), sk_q6_cg a6 rfl rfl rfl (by rw [ij 47 (by decide) (by decide) (by decide) (by decide), m59 47 (by decide) (by decide)]) (by rw [io 88 (by decide), mo 88 (by decide) (by decide)]) (by rw [io 89 (by decide), mo 89 (by decide) (by decide)]), sk_q7_cg a7 (fun _ _ => rfl) rfl rfl rfl (fun j h1 h2 => by rw [ij j (by omega) (by omega) (by omega) (by omega), m59 j (by omega) (by omega)]) (by rw [io 90 (by decide), mo 90 (by decide) (by decide)])⟩, fun _ => ?_, ?_⟩
  · have := a2.2 i i0 i1
    unfold sk_q21 at this ⊢
    have ne : i ≠ I 59 37 := by omega
    rw [io 83 (by decide), io 84 (by decide), io 85 (by decide), io 86 (by decide), io 87 (by decide), m83, m84, m85, m86, m87, sk_up_o ne, sk_up_o ne, sk_up_o ne, sk_up_o ne, sk_up_o ne]
    exact this
  · rw [i44]; exact b1 hd
  · rw [ij 54 (by decide) (by decide) (by decide) (by decide), m59 54 (by decide) (by decide)]; exact b2
theorem c_M_spin (m bs lim s : Int) (C I : sk_SI) (h : sk_RR p C I) (hd : 0 < C 35 5 ∧ C 35 5 ≤ 480) (he : C 34 13 = -1) (hs : 0 ≤ s ∧ s < C p 10) (h10 : C p 10 ≤ 200) (h8 : C (p + 8) s = -1) (hn : C 38 (C 35 5 - 1) = C (p + 7) s) (hk : ∀ I', sk_RR p C I' → sk_rfr I I' → AW l E (d + 4) 0 0 mX10_doJob 35 [some (vr 59), some (vi m), some (vi bs), some (vi lim)] [vi (I' 59 37)] sk_G (I', L, sk_J cu sp io rp tp fp) Q) : ∀ (t : Nat), t ≤ 99 → AW l E (d + 4) 0 0 mX10_doJob 35 [some (vr 59), some (vi m), some (vi bs), some (vi lim)] [vi (sk_mop 8 s (-1) t I 59 37)] sk_G (sk_mop 8 s (-1) t I, L, sk_J cu sp io rp tp fp) Q := by
  have e37 : I 59 37 = C 35 5 := h.1.2.1.1
  have e49 : I 59 49 = -1 := by rw [h.1.2.2.2.2.2.2.1.2.1]; exact he
  have e72 : I 72 s = -1 := by rw [(h.1.1.2.1 s hs.1 hs.2).2.2.2.2.2.1]; exact h8
  intro t
  induction t with
  | zero =>
    intro _
    have hk := hk _ (sk_RR_spin h hd.1 s hs hn) (sk_rfr_tr (sk_rfr_mop 8 s (-1) 0 I) (sk_rfr_mcl _))
    obtain ⟨m59, m37, m43, m83, m84, m85, m86, m87⟩ := sk_mop_r 8 s (-1) ((0 : Nat) : Int) I
    have k83 : sk_mop 8 s (-1) ((0 : Nat) : Int) I 83 (C 35 5) = 8 := by rw [m83, e37, sk_up_s]
    have k87 : sk_mop 8 s (-1) ((0 : Nat) : Int) I 87 (C 35 5) = 0 := by rw [m87, e37, sk_up_s]; rfl
    have o49 : sk_mop 8 s (-1) ((0 : Nat) : Int) I 59 49 = -1 := by rw [m59 49 (by decide) (by decide)]; exact e49
    change AW l E (d + 4) 0 0 mX10_doJob 35 _ [vi (sk_mcl (sk_mop 8 s (-1) ((0 : Nat) : Int) I) 59 37)] sk_G (sk_mcl (sk_mop 8 s (-1) ((0 : Nat) : Int) I), L, sk_J cu sp io rp tp fp) Q at hk
    generalize sk_mop 8 s (-1) ((0 : Nat) : Int) I = T at *
    have z37 : T 59 37 - 1 = C 35 5 := by omega
    refine AW_ifle rfl (fun g => by omega) (fun g => ?_) (by unfold sk_in; omega)
    refine AW_run 80 rfl ?_
    refine AW_icne rfl (fun g => absurd o49 g) (fun g => ?_) (by rw [o49]; unfold sk_in; omega)
    refine AW_run 80 rfl ?_
    refine AW_icne rfl (fun g => absurd m43 g) (fun g => ?_) (by rw [m43]; unfold sk_in; omega)
    refine AW_run 80 rfl ?_
    refine AW_cV (M' := mX10_finish) (d' := d + 3) rfl kkX10_325 lcX10_finish rfl rfl rfl rfl rfl rfl (by omega) ?_
    refine AW_run 80 rfl ?_
    rw [z37]
    refine AW_iald rfl rfl ⟨by omega, by omega⟩ (by decide) ?_
    rw [k83]
    refine AW_run 80 rfl ?_
    refine AW_icne rfl (fun g => absurd rfl g) (fun g => ?_) (by unfold sk_in; omega)
    refine AW_run 80 rfl ?_
    refine AW_iald rfl rfl ⟨by omega, by omega⟩ (by decide) ?_
    rw [k87]
    refine AW_ifle rfl (fun g => ?_) (fun g => absurd (Int.le_refl 0) g) (by unfold sk_in; omega)
    refine AW_run 80 rfl ?_
    refine AW_cV (M' := mX10_close) (d' := d + 2) rfl kkX10_290 lcX10_close rfl rfl rfl rfl rfl rfl (by omega) ?_
    refine c_M_close (by omega) (by rw [z37, k83]; unfold sk_in; omega) ?_
    refine AW_run 80 rfl ?_
    refine AW_vret rfl rfl ?_
    refine AW_run 80 rfl ?_
    exact hk
  | succ t ih =>
    intro ht
    have ih := ih (by omega)
    obtain ⟨m59, m37, m43, m83, m84, m85, m86, m87⟩ := sk_mop_r 8 s (-1) ((t + 1 : Nat) : Int) I
    have k83 : sk_mop 8 s (-1) ((t + 1 : Nat) : Int) I 83 (C 35 5) = 8 := by rw [m83, e37, sk_up_s]
    have k84 : sk_mop 8 s (-1) ((t + 1 : Nat) : Int) I 84 (C 35 5) = s := by rw [m84, e37, sk_up_s]
    have k87 : sk_mop 8 s (-1) ((t + 1 : Nat) : Int) I 87 (C 35 5) = (t : Int) + 1 := by rw [m87, e37, sk_up_s]; omega
    have k72 : sk_mop 8 s (-1) ((t + 1 : Nat) : Int) I 72 s = -1 := by rw [sk_mop_o _ _ _ _ _ 72 (by decide) (by decide)]; exact e72
    have o49 : sk_mop 8 s (-1) ((t + 1 : Nat) : Int) I 59 49 = -1 := by rw [m59 49 (by decide) (by decide)]; exact e49
    have hsp := sk_spin_s s ((t + 1 : Nat) : Int) I
    rw [e37, show ((t + 1 : Nat) : Int) - 1 = (t : Int) by omega] at hsp
    rw [← hsp] at ih
    generalize sk_mop 8 s (-1) ((t + 1 : Nat) : Int) I = T at *
    have z37 : T 59 37 - 1 = C 35 5 := by omega
    refine AW_ifle rfl (fun g => by omega) (fun g => ?_) (by unfold sk_in; omega)
    refine AW_run 80 rfl ?_
    refine AW_icne rfl (fun g => absurd o49 g) (fun g => ?_) (by rw [o49]; unfold sk_in; omega)
    refine AW_run 80 rfl ?_
    refine AW_icne rfl (fun g => absurd m43 g) (fun g => ?_) (by rw [m43]; unfold sk_in; omega)
    refine AW_run 80 rfl ?_
    refine AW_cV (M' := mX10_finish) (d' := d + 3) rfl kkX10_325 lcX10_finish rfl rfl rfl rfl rfl rfl (by omega) ?_
    refine AW_run 80 rfl ?_
    rw [z37]
    refine AW_iald rfl rfl ⟨by omega, by omega⟩ (by decide) ?_
    rw [k83]
    refine AW_run 80 rfl ?_
    refine AW_icne rfl (fun g => absurd rfl g) (fun g => ?_) (by unfold sk_in; omega)
    refine AW_run 80 rfl ?_
    refine AW_iald rfl rfl ⟨by omega, by omega⟩ (by decide) ?_
    rw [k87]
    refine AW_ifle rfl (fun g => by omega) (fun g => ?_) (by unfold sk_in; omega)
    refine AW_run 80 rfl ?_
    refine AW_iald rfl rfl ⟨by omega, by omega⟩ (by decide) ?_
    rw [k87]
    refine AW_run 80 rfl ?_
    rw [show (t : Int) + 1 - 1 = t by omega]
    refine AW_iast rfl rfl ⟨by omega, by omega⟩ (by decide) ?_
    refine AW_run 80 rfl ?_
    refine AW_iald rfl rfl ⟨by omega, by omega⟩ (by decide) ?_
    (try simp only [sk_uI_s, sk_uI_o, sk_up_s, sk_up_o, sk_uL_s, sk_uL_o, ne_eq, Nat.reduceEqDiff, Nat.reduceAdd, Int.reduceEq, not_false_eq_true])
    rw [k84]
    refine AW_iald rfl rfl ⟨by omega, by omega⟩ (by decide) ?_
    (try simp only [sk_uI_s, sk_uI_o, sk_up_s, sk_up_o, sk_uL_s, sk_uL_o, ne_eq, Nat.reduceEqDiff, Nat.reduceAdd, Int.reduceEq, not_false_eq_true])
    rw [k72]
    refine AW_run 80 rfl ?_
    refine AW_vret rfl rfl ?_
    refine AW_run 80 rfl ?_
    exact ih
end SKY7
