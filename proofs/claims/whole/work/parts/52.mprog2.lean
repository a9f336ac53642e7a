/-! ===== the model's program ===== -/
/-- what a text with a fault leaves -/
def sk_PF (I I' : sk_SI) : Prop := (∀ c, c ≠ 59 → ¬ (63 ≤ c ∧ c ≤ 74) → c ≠ 76 → I' c = I c) ∧ (∀ c j, 67 ≤ c ∧ c ≤ 73 → j < 200 → I' c j = I c j) ∧ (I' 63 0 = I 63 0 ∧ I' 66 0 = I 66 0 ∧ I' 74 0 = I 74 0) ∧ (∀ j, j < 20 → I' 64 j = I 64 j ∧ I' 65 j = I 65 j) ∧ (∀ j, j ≠ 2 → j ≠ 6 → ¬ (21 ≤ j ∧ j ≤ 27) → I' 59 j = I 59 j) ∧ I' 59 2 = 0 ∧ sk_in (I' 59 25)
/-- what a sound one leaves -/
def sk_PS (p : Nat) (C I I' : sk_SI) : Prop := (∀ c, c ≠ 59 → ¬ (63 ≤ c ∧ c ≤ 74) → c ≠ 76 → I' c = I c) ∧ (∀ s, 0 ≤ s → s < C p 10 → I' 67 s = C (p + 3) s ∧ I' 68 s = C (p + 4) s ∧ I' 69 s = C (p + 5) s ∧ I' 70 s = C (p + 6) s ∧ I' 71 s = C (p + 7) s ∧ I' 72 s = C (p + 8) s ∧ I' 73 s = C (p + 9) s) ∧ (I' 63 0 = C p 9 ∧ I' 66 0 = C p 10 ∧ I' 74 0 = C p 11) ∧ (∀ m, 0 ≤ m → m < C p 9 → I' 64 m = C (p + 1) m ∧ I' 65 m = C (p + 2) m) ∧ (∀ j, j ≠ 2 → j ≠ 6 → j ≠ 7 → j ≠ 50 → j ≠ 59 → ¬ (21 ≤ j ∧ j ≤ 27) → I' 59 j = I 59 j) ∧ (I' 59 2 = 0 ∧ I' 59 6 = 0 ∧ I' 59 7 = 1 ∧ I' 59 50 = 0 ∧ I' 59 59 = 0) ∧ sk_in (I' 59 25)
section SKS7
variable {l : Launch} {E : sk_En} {d : Nat} {L : sk_SL} {cu sp io rp tp fp p : Nat} {t : Int → Int} {n : Int} {Q : Option sk_V → List sk_Sh → sk_St → Prop}
theorem c_M_mloop (hp : sk_pg p) : ∀ (k : Nat) (C I : sk_SI) (D : Int → Int) (b : Int), 21 ≤ C p 9 + k → sk_wf p C D → sk_MR t n p (-1) C I → sk_MO p C I → (b = if sk_tok C (C 29 3) = 20 then 0 else 1) → (∀ e, sk_mlI p k C = .inl e → ∀ I', sk_M2 C I e I' → AW l E (d + 33) 0 0 mX10_program 56 [some (vr 59), some (vi 0), none, none] [vi 0] sk_G (I', L, sk_J cu sp io rp tp fp) Q) → (∀ z, sk_mlI p k C = .inr z → ∀ I', sk_MR t n p (-1) z.2 I' → sk_MO p z.2 I' → sk_mf2 I I' → AW l E (d + 33) 0 0 mX10_program 56 [some (vr 59), some (vi 0), none, none] [vi 0] sk_G (I', L, sk_J cu sp io rp tp fp) Q) → AW l E (d + 33) 0 0 mX10_program 56 [some (vr 59), some (vi b), none, none] [vi b] sk_G (I, L, sk_J cu sp io rp tp fp) Q
  | 0, C, I, D, b, hk, hw, h, ho, hb, h1, h2 => by
    have := hw.1.2.2.2.2.1
    omega
  | k + 1, C, I, D, b, hk, hw, h, ho, hb, h1, h2 => by
    by_cases ht : sk_tok C (C 29 3) = 20
    · rw [if_pos ht] at hb
      subst hb
      exact h2 (0, C) (by unfold sk_mlI; rw [if_pos ht]) I h ho (sk_mf2_rf I)
    · rw [if_neg ht] at hb
      subst hb
      unfold sk_mlI at h1 h2
      rw [if_neg ht] at h1 h2
      obtain ⟨w1, w2⟩ := sk_wf_md hp hw
      first | refine AW_e1 rfl ?_ | refine AW_e0 rfl ?_ | refine AW_n1 rfl ?_ | refine AW_n0 rfl ?_
      refine c_M_meth hp C I h ho (fun e he I' hI => ?_) (fun x hx I' hR hO hf b hb => ?_)
      · rw [he] at h1
        exact h1 e rfl I' hI
      · rw [hx] at h1 h2
        dsimp only at h1 h2
        obtain ⟨⟨D', wx⟩, fx, x9⟩ := w2 x hx
        have q32 := sk_fp_32 hp fx
        exact c_M_mloop hp k x.2 I' D' b (by omega) wx hR hO hb (fun e he I2 hI2 => h1 e he I2 (sk_M2_tr hf hI2 q32)) (fun z hz I2 hR2 hO2 hf2 => h2 z hz I2 hR2 hO2 (sk_mf2_tr hf hf2))
/-- the end of a text with a fault -/
theorem c_M_pend (I : sk_SI) (s : Int) (x : Option sk_V) (hs : 0 ≤ s ∧ s ≤ 200) (h66 : 0 ≤ I 66 1 ∧ I 66 1 ≤ 200) (h26 : 1 ≤ I 59 26 ∧ I 59 26 ≤ 5) (hq : Q (some (vi (-100 - I 59 27))) sk_G (sk_uI I 59 6 (I 59 26), L, sk_J cu sp io rp tp fp)) : AW l E d 0 0 mX10_program 184 [some (vr 59), some (vi 0), some (vi s), x] [vi (I 66 1), vi s] sk_G (I, L, sk_J cu sp io rp tp fp) Q := by
  have z1 : sk_in (I 59 26) := by unfold sk_in; omega
  have z2 : I 59 26 ≠ 0 := by omega
  have fin : AW l E d 0 0 mX10_program 268 [some (vr 59), some (vi 0), some (vi s), x] [vi (I 59 26)] sk_G (sk_uI I 59 6 (I 59 26), L, sk_J cu sp io rp tp fp) Q := by
    refine AW_ifeq rfl (fun g => absurd g z2) (fun g => ?_) z1
    (refine AW_run 80 rfl ?_; (try simp only [sk_uI_s, sk_uI_o, sk_up_s, sk_up_o, sk_uL_s, sk_uL_o, ne_eq, Nat.reduceEqDiff, Nat.reduceAdd, Int.reduceEq, not_false_eq_true]))
    exact AW_iret rfl rfl hq
  refine AW_icge rfl (fun g => ?_) (fun g => ?_) (by unfold sk_in; omega) (by unfold sk_in; omega)
  · (refine AW_run 80 rfl ?_; (try simp only [sk_uI_s, sk_uI_o, sk_up_s, sk_up_o, sk_uL_s, sk_uL_o, ne_eq, Nat.reduceEqDiff, Nat.reduceAdd, Int.reduceEq, not_false_eq_true]))
    exact fin
  · refine AW_run 80 rfl ?_
    refine AW_ifne rfl (fun g => ?_) (fun g => absurd g z2) z1
    (refine AW_run 80 rfl ?_; (try simp only [sk_uI_s, sk_uI_o, sk_up_s, sk_up_o, sk_uL_s, sk_uL_o, ne_eq, Nat.reduceEqDiff, Nat.reduceAdd, Int.reduceEq, not_false_eq_true]))
    exact fin
theorem c_M_there (hp : sk_pg p) (R : Option (Int × Int)) (C I : sk_SI) (D : Int → Int) (hw : sk_wf p C D) (h : sk_MR t n p (-1) C I) (h1 : ∀ e, R = some e → Q (some (vi (-100 - C 32 e.2))) sk_G (sk_uI (sk_uI (sk_uI I 59 26 e.1) 59 27 (C 32 e.2)) 59 6 e.1, L, sk_J cu sp io rp tp fp)) (h2 : R = none → ∀ s x, AW l E d 0 0 mX10_program 268 [some (vr 59), some (vi 0), some (vi s), x] [vi 0] sk_G (sk_uI I 59 6 0, L, sk_J cu sp io rp tp fp) Q) : ∀ (k : Nat) (s : Int), 0 ≤ s → s + k = C p 10 → sk_amI p C k s = R → AW l E d 0 0 mX10_program 184 [some (vr 59), some (vi 0), some (vi s), none] [vi (I 66 1), vi s] sk_G (I, L, sk_J cu sp io rp tp fp) Q := by
  have e66 : I 66 1 = C p 10 := h.2.2.1.2.1
  have e63 : I 63 1 = C p 9 := h.2.2.1.1
  have h10 := h.1.2.2.2.1
  have h9 := h.1.2.2.2.2.1
  have h26 := h.2.1.2.1.2.2.2.1
  intro k
  induction k with
  | zero =>
    intro s s0 s1 hA
    have h2 := h2 hA.symm
    refine AW_icge rfl (fun g => ?_) (fun g => by omega) (by unfold sk_in; omega) (by unfold sk_in; omega)
    have h2 := h2 s none
    (refine AW_run 80 rfl ?_; (try simp only [sk_uI_s, sk_uI_o, sk_up_s, sk_up_o, sk_uL_s, sk_uL_o, ne_eq, Nat.reduceEqDiff, Nat.reduceAdd, Int.reduceEq, not_false_eq_true]))
    rw [h26]
    exact h2
  | succ k ih =>
    intro s s0 s1 hA
    obtain ⟨⟨r3, r4, r5, -⟩, rc⟩ := h.2.2.2 s s0 (by omega)
    obtain ⟨a1, a2, a3, a4⟩ := hw.2.2.1 s s0 (by omega)
    have b1 : -1 ≤ sk_mf (C (p + 3) s) ∧ sk_mf (C (p + 3) s) ≤ 999 := by
      have tb : ∀ w, w < 13 → -1 ≤ sk_mf ((w : Nat) : Int) ∧ sk_mf ((w : Nat) : Int) ≤ 999 := by decide
      have := tb (C (p + 3) s).toNat (by omega)
      rw [show (((C (p + 3) s).toNat : Nat) : Int) = C (p + 3) s by omega] at this
      exact this
    unfold sk_no at a3
    have i3 : sk_in (I 67 (200 + s)) := by rw [r3]; unfold sk_in; omega
    have i5 : sk_in (I 69 (200 + s)) := by rw [r5]; unfold sk_in; omega
    have hb2 : sk_in (200 + s) := by unfold sk_in; omega
    unfold sk_amI at hA
    have step : ¬ ((C (p + 3) s = 1 ∨ C (p + 3) s = 6) ∧ C p 9 ≤ C (p + 5) s) → AW l E d 0 0 mX10_program 184 [some (vr 59), some (vi 0), some (vi (s + 1)), none] [vi (I 66 1), vi (s + 1)] sk_G (I, L, sk_J cu sp io rp tp fp) Q := by
      intro g
      rw [if_neg g] at hA
      exact ih (s + 1) (by omega) (by omega) hA
    have named : (C (p + 3) s = 1 ∨ C (p + 3) s = 6) → AW l E d 0 0 mX10_program 225 [some (vr 59), some (vi 0), some (vi s), some (vi (I 67 (200 + s)))] [vi (200 + s), vr 69] sk_G (I, L, sk_J cu sp io rp tp fp) Q := by
      intro hn
      refine AW_iald rfl rfl ⟨by omega, by omega⟩ (by decide) ?_
      refine AW_run 80 rfl ?_
      refine AW_iald rfl rfl ⟨by omega, by omega⟩ (by decide) ?_
      refine AW_run 80 rfl ?_
      refine AW_iclt rfl (fun g => ?_) (fun g => ?_) i5 (by unfold sk_in; omega)
      · have step := step (by omega)
        refine AW_run 80 rfl ?_
        refine AW_iald rfl rfl ⟨by omega, by omega⟩ (by decide) ?_
        refine AW_run 80 rfl ?_
        exact AW_lk step ⟨rfl, rfl, rfl, trivial⟩
      · have hc : (C (p + 3) s = 1 ∨ C (p + 3) s = 6) ∧ C p 9 ≤ C (p + 5) s := ⟨hn, by omega⟩
        rw [if_pos hc] at hA
        have h1 := h1 _ hA.symm
        have rc := rc (by omega) hn
        have pe := c_M_pend (l := l) (E := E) (d := d) (L := L) (cu := cu) (sp := sp) (io := io) (rp := rp) (tp := tp) (fp := fp) (Q := Q) (sk_uI (sk_uI I 59 26 5) 59 27 (I 76 s)) (s + 1) (some (vi (I 67 (200 + s)))) (by omega) (by (try simp only [sk_uI_s, sk_uI_o, sk_up_s, sk_up_o, sk_uL_s, sk_uL_o, ne_eq, Nat.reduceEqDiff, Nat.reduceAdd, Int.reduceEq, not_false_eq_true]); omega) (by (try simp only [sk_uI_s, sk_uI_o, sk_up_s, sk_up_o, sk_uL_s, sk_uL_o, ne_eq, Nat.reduceEqDiff, Nat.reduceAdd, Int.reduceEq, not_false_eq_true]); omega) (by (try simp only [sk_uI_s, sk_uI_o, sk_up_s, sk_up_o, sk_uL_s, sk_uL_o, ne_eq, Nat.reduceEqDiff, Nat.reduceAdd, Int.reduceEq, not_false_eq_true]); rw [rc]; exact h1)
        refine AW_run 80 rfl ?_
        refine AW_iald rfl rfl ⟨by omega, by omega⟩ (by decide) ?_
        refine AW_run 80 rfl ?_
        refine AW_iald rfl rfl ⟨by omega, by omega⟩ (by decide) ?_
        refine AW_run 80 rfl ?_
        (try simp only [sk_uI_s, sk_uI_o, sk_up_s, sk_up_o, sk_uL_s, sk_uL_o, ne_eq, Nat.reduceEqDiff, Nat.reduceAdd, Int.reduceEq, not_false_eq_true])
        simp only [sk_uI_s, sk_uI_o, ne_eq, Nat.reduceEqDiff, not_false_eq_true] at pe
        exact pe
    refine AW_icge rfl (fun g => by omega) (fun g => ?_) (by unfold sk_in; omega) (by unfold sk_in; omega)
    refine AW_run 80 rfl ?_
    refine AW_ifne rfl (fun g => absurd h26 g) (fun g => ?_) (by rw [h26]; unfold sk_in; omega)
    refine AW_run 80 rfl ?_
    refine AW_iald rfl rfl ⟨by omega, by omega⟩ (by decide) ?_
    refine AW_run 80 rfl ?_
    refine AW_iceq rfl (fun g2 => ?_) (fun g2 => ?_) i3
    · have named := named (by omega)
      refine AW_run 80 rfl ?_
      exact named
    · refine AW_run 80 rfl ?_
      refine AW_icne rfl (fun g3 => ?_) (fun g3 => ?_) i3
      · have step := step (by omega)
        refine AW_run 80 rfl ?_
        refine AW_iald rfl rfl ⟨by omega, by omega⟩ (by decide) ?_
        refine AW_run 80 rfl ?_
        exact AW_lk step ⟨rfl, rfl, rfl, trivial⟩
      · have named := named (by omega)
        refine AW_run 80 rfl ?_
        exact named
end SKS7
