/-! ===== Runner.begin, execute; SealKeeper.run ===== -/
theorem sk_mm0 (x : Int) : max 0 (min 0 x) = 0 := by omega
def sk_bg (tu : Int) (I : sk_SI) : sk_SI := sk_fil 44 8 0 (sk_fil 41 4 (-1) (sk_uI (sk_uI (sk_uI (sk_uI (sk_uI (sk_uI (sk_uI I 34 11 tu) 34 10 0) 34 13 (-1)) 34 8 1) 5 1 0) 45 4 0) 35 5 0))
def sk_bg0 (p : Nat) (m tu : Int) (I : sk_SI) : sk_SI := sk_poI m (-1) (sk_bg tu I)
def sk_rn (p : Nat) (m tu : Int) (I : sk_SI) : sk_SI := sk_it p 13051 (sk_bg0 p m tu I)
/-- what must hold before a run -/
def sk_rp (p : Nat) (D : Int → Int) (I : sk_SI) : Prop := sk_pv p D I ∧ sk_ru I ∧ (0 ≤ I 3 1 ∧ I 3 1 ≤ 400) ∧ (∀ i, 0 ≤ i → i < I 3 1 → 0 ≤ I 4 i ∧ I 4 i ≤ 1) ∧ (0 ≤ I 5 1 ∧ I 5 1 ≤ 3000)
theorem sk_bg_o (tu : Int) (I : sk_SI) (c : Nat) (h : c ≠ 34 ∧ c ≠ 5 ∧ c ≠ 45 ∧ c ≠ 35 ∧ c ≠ 41 ∧ c ≠ 44) : sk_bg tu I c = I c := by
  unfold sk_bg
  rw [sk_fil_o h.2.2.2.2.2, sk_fil_o h.2.2.2.2.1, sk_uI_o h.2.2.2.1, sk_uI_o h.2.2.1, sk_uI_o h.2.1, sk_uI_o h.1, sk_uI_o h.1, sk_uI_o h.1, sk_uI_o h.1]
theorem sk_bg_34 (tu : Int) (I : sk_SI) : sk_bg tu I 34 11 = tu ∧ sk_bg tu I 34 10 = 0 ∧ sk_bg tu I 34 13 = -1 ∧ sk_bg tu I 34 8 = 1 ∧ (∀ j, j ≠ 11 → j ≠ 10 → j ≠ 13 → j ≠ 8 → sk_bg tu I 34 j = I 34 j) ∧ sk_bg tu I 5 1 = 0 ∧ (∀ j, j ≠ 1 → sk_bg tu I 5 j = I 5 j) ∧ sk_bg tu I 45 4 = 0 ∧ (∀ j, j ≠ 4 → sk_bg tu I 45 j = I 45 j) ∧ sk_bg tu I 35 5 = 0 ∧ (∀ j, j ≠ 5 → sk_bg tu I 35 j = I 35 j) ∧ (∀ j, sk_bg tu I 41 j = if 0 ≤ j ∧ j < 4 then -1 else I 41 j) ∧ ∀ j, sk_bg tu I 44 j = if 0 ≤ j ∧ j < 8 then 0 else I 44 j := by
  unfold sk_bg
  have e1 : ∀ {S : sk_SI} {c : Nat}, c ≠ 44 → c ≠ 41 → sk_fil 44 8 0 (sk_fil 41 4 (-1) S) c = S c := fun h1 h2 => by rw [sk_fil_o h1, sk_fil_o h2]
  rw [e1 (by decide) (by decide), e1 (by decide) (by decide), e1 (by decide) (by decide), e1 (by decide) (by decide)]
  refine ⟨by (try simp only [sk_uI_s, sk_uI_o, sk_up_s, sk_up_o, sk_uL_s, sk_uL_o, ne_eq, Nat.reduceEqDiff, Nat.reduceAdd, Int.reduceEq, not_false_eq_true]), by (try simp only [sk_uI_s, sk_uI_o, sk_up_s, sk_up_o, sk_uL_s, sk_uL_o, ne_eq, Nat.reduceEqDiff, Nat.reduceAdd, Int.reduceEq, not_false_eq_true]), by (try simp only [sk_uI_s, sk_uI_o, sk_up_s, sk_up_o, sk_uL_s, sk_uL_o, ne_eq, Nat.reduceEqDiff, Nat.reduceAdd, Int.reduceEq, not_false_eq_true]), by (try simp only [sk_uI_s, sk_uI_o, sk_up_s, sk_up_o, sk_uL_s, sk_uL_o, ne_eq, Nat.reduceEqDiff, Nat.reduceAdd, Int.reduceEq, not_false_eq_true]), fun j j1 j2 j3 j4 => ?_, by (try simp only [sk_uI_s, sk_uI_o, sk_up_s, sk_up_o, sk_uL_s, sk_uL_o, ne_eq, Nat.reduceEqDiff, Nat.reduceAdd, Int.reduceEq, not_false_eq_true]), fun j hj => ?_, by (try simp only [sk_uI_s, sk_uI_o, sk_up_s, sk_up_o, sk_uL_s, sk_uL_o, ne_eq, Nat.reduceEqDiff, Nat.reduceAdd, Int.reduceEq, not_false_eq_true]), fun j hj => ?_, by (try simp only [sk_uI_s, sk_uI_o, sk_up_s, sk_up_o, sk_uL_s, sk_uL_o, ne_eq, Nat.reduceEqDiff, Nat.reduceAdd, Int.reduceEq, not_false_eq_true]), fun j hj => ?_, fun j => ?_, fun j => ?_⟩
  · rw [sk_uI_o (by decide), sk_uI_o (by decide), sk_uI_o (by decide), sk_uI_s, sk_up_o j4, sk_uI_s, sk_up_o j3, sk_uI_s, sk_up_o j2, sk_uI_s, sk_up_o j1]
  · rw [sk_uI_o (by decide), sk_uI_o (by decide), sk_uI_s, sk_up_o hj, sk_uI_o (by decide), sk_uI_o (by decide), sk_uI_o (by decide), sk_uI_o (by decide)]
  · rw [sk_uI_o (by decide), sk_uI_s, sk_up_o hj, sk_uI_o (by decide), sk_uI_o (by decide), sk_uI_o (by decide), sk_uI_o (by decide), sk_uI_o (by decide)]
  · rw [sk_uI_s, sk_up_o hj, sk_uI_o (by decide), sk_uI_o (by decide), sk_uI_o (by decide), sk_uI_o (by decide), sk_uI_o (by decide), sk_uI_o (by decide)]
  · rw [sk_fil_o (by decide), sk_fil_s]
    by_cases h : 0 ≤ j ∧ j < 4
    · rw [if_pos h, if_pos h]
    · rw [if_neg h, if_neg h]
      (try simp only [sk_uI_s, sk_uI_o, sk_up_s, sk_up_o, sk_uL_s, sk_uL_o, ne_eq, Nat.reduceEqDiff, Nat.reduceAdd, Int.reduceEq, not_false_eq_true])
  · rw [sk_fil_s]
    by_cases h : 0 ≤ j ∧ j < 8
    · rw [if_pos h, if_pos h]
    · rw [if_neg h, if_neg h, sk_fil_o (by decide)]
      (try simp only [sk_uI_s, sk_uI_o, sk_up_s, sk_up_o, sk_uL_s, sk_uL_o, ne_eq, Nat.reduceEqDiff, Nat.reduceAdd, Int.reduceEq, not_false_eq_true])
theorem sk_XE_bg {p : Nat} (hp : sk_pg p) {D : Int → Int} {I : sk_SI} (h : sk_rp p D I) (m tu : Int) (hm : 0 ≤ m ∧ m < I p 9) (ht : 0 ≤ tu ∧ tu ≤ 3000) : sk_XE p D (sk_bg0 p m tu I) ∧ sk_bg0 p m tu I 34 13 = -1 := by
  obtain ⟨h1, h2, h3, h4, h5⟩ := h
  obtain ⟨b11, b10, b13, b8, bj, b5, b5j, b45, b45j, b35, b35j, b41, b44⟩ := sk_bg_34 tu I
  have bo := sk_bg_o tu I
  have bp : ∀ k, k ≤ 9 → sk_bg tu I (p + k) = I (p + k) := fun k hk => bo _ ⟨sk_pne hp hk (by omega), sk_pne hp hk (by omega), sk_pne hp hk (by omega), sk_pne hp hk (by omega), sk_pne hp hk (by omega), sk_pne hp hk (by omega)⟩
  have hX : sk_XV p D (fun _ => 0) (fun _ => 0) 0 0 (sk_bg tu I) := by
    refine ⟨⟨sk_pv_cg h1 bp, ?_, by rw [bo 3 (by decide)]; exact h3, by rw [bo 3 (by decide), bo 4 (by decide)]; exact h4, by rw [b11]; exact ht⟩, ⟨by rw [b35]; omega, fun i i0 i1 => by rw [b35] at i1; omega⟩, fun z => by rw [b35] at z; omega, fun e e0 e1 => by rw [b45] at e1; omega, ⟨by rw [b10]; omega, fun j j0 j1 => by rw [b10] at j1; omega⟩, fun k k0 k1 => ?_, ?_⟩
    · intro i i0 i1
      rw [bo 8 (by decide)]
      exact h2 i i0 i1
    · rw [b41, if_pos ⟨k0, k1⟩, b45]
      omega
    · unfold sk_TV
      rw [b44, b44, b44, b44, if_pos (by omega), if_pos (by omega), if_pos (by omega), if_pos (by omega), b11, b10, bo 3 (by decide), b5, b45]
      omega
  have bp0 : sk_bg tu I p = I p := bp 0 (by omega)
  refine ⟨⟨_, _, sk_XV_po hp hX m (-1) (by rw [bp0]; exact hm) (by rw [b45]; omega)⟩, ?_⟩
  unfold sk_bg0 sk_poI
  rw [if_pos (by rw [b10]; omega), sk_uI_s, sk_up_o (by decide), sk_uI_o (by decide), sk_uI_o (by decide)]
  exact b13
section SKX6
variable {l : Launch} {E : sk_En} {d : Nat} {L : sk_SL} {cu sp io rp tp fp p : Nat} {Q : Option sk_V → List sk_Sh → sk_St → Prop} {D : Int → Int}
theorem c_X_begin (hp : sk_pg p) (tu : Int) (I : sk_SI) (h5 : 0 ≤ I 5 1 ∧ I 5 1 ≤ 3000) (hq : Q none sk_G (sk_bg tu I, L, sk_J cu sp io p p fp)) : AW l E (d + 2) 0 0 mX6_begin 0 [some (vr 34), some (vr p), some (vi tu)] [] sk_G (I, L, sk_J cu sp io rp tp fp) Q := by
  unfold sk_bg at hq
  refine AW_run 80 rfl ?_
  rw [sk_J_rp]
  refine AW_putZ rfl rfl (Or.inr rfl) ?_
  refine AW_run 80 rfl ?_
  refine AW_cV (M' := mX4_cutTo) rfl kkX6_103 lcX4_cutTo rfl rfl rfl rfl rfl rfl (Nat.le_refl _) ?_
  refine c_Row_cut 5 3000 (by unfold sk_row; omega) 0 (by unfold sk_in; omega) (by (try simp only [sk_uI_s, sk_uI_o, sk_up_s, sk_up_o, sk_uL_s, sk_uL_o, ne_eq, Nat.reduceEqDiff, Nat.reduceAdd, Int.reduceEq, not_false_eq_true]); exact h5.2) (by (try simp only [sk_uI_s, sk_uI_o, sk_up_s, sk_up_o, sk_uL_s, sk_uL_o, ne_eq, Nat.reduceEqDiff, Nat.reduceAdd, Int.reduceEq, not_false_eq_true]); exact h5.1) ?_
  rw [sk_mm0]
  refine AW_run 80 rfl ?_
  refine AW_cV (M' := mX7_clear) (d' := d) rfl kkX6_106 lcX7_clear rfl rfl rfl rfl rfl rfl (by omega) ?_
  refine c_St_clear p ?_
  refine AW_run 80 rfl ?_
  refine AW_cV (M' := mX1_clear) (d' := d) rfl kkX6_110 lcX1_clear rfl rfl rfl rfl rfl rfl (by omega) ?_
  refine c_Fr_clear ?_
  refine AW_run 80 rfl ?_
  refine AW_cS (M' := mJ7_fill_53178) (d' := d) rfl kkX6_112 lcJ7_fill_53178 rfl rfl rfl (by omega) ?_
  refine c_fill 41 4 (by omega) (-1) _ _ ?_
  refine AW_run 80 rfl ?_
  refine AW_cS (M' := mJ7_fill_53178) (d' := d) rfl kkX6_112 lcJ7_fill_53178 rfl rfl rfl (by omega) ?_
  refine c_fill 44 8 (by omega) 0 _ _ ?_
  refine AW_run 80 rfl ?_
  exact AW_vret rfl rfl hq
theorem c_X_exec (hp : sk_pg p) (m tu : Int) (I : sk_SI) (h : sk_rp p D I) (hm : 0 ≤ m ∧ m < I p 9) (ht : 0 ≤ tu ∧ tu ≤ 3000) (hq : Q (some (vi (sk_rn p m tu I 34 13))) sk_G (sk_uI (sk_rn p m tu I) 44 6 (sk_rn p m tu I 5 1), L, sk_J cu sp io p p fp)) : AW l E (d + 6) 0 0 mX6_execute 0 [some (vr 34), some (vr p), some (vi m), some (vi tu), none] [] sk_G (I, L, sk_J cu sp io rp tp fp) Q := by
  obtain ⟨hX, h13⟩ := sk_XE_bg hp h m tu hm ht
  have lp := c_X_lp (l := l) (E := E) (d := d) (L := L) (cu := cu) (sp := sp) (io := io) (fp := fp) (Q := Q) hp m tu 13050 (sk_bg0 p m tu I) 0 hX (sk_ph_0 hX).2 (by omega) (by omega) (by omega) (fun i' => by
    unfold sk_rn at hq
    generalize sk_it p (13050 + 1) (sk_bg0 p m tu I) = S at *
    refine AW_run 80 rfl ?_
    refine AW_iast rfl rfl ⟨by omega, by omega⟩ (by decide) ?_
    (refine AW_run 80 rfl ?_; (try simp only [sk_uI_s, sk_uI_o, sk_up_s, sk_up_o, sk_uL_s, sk_uL_o, ne_eq, Nat.reduceEqDiff, Nat.reduceAdd, Int.reduceEq, not_false_eq_true]))
    exact AW_iret rfl rfl hq)
  unfold sk_bg0 at lp
  have b10 : 0 ≤ sk_bg tu I 34 10 ∧ sk_bg tu I 34 10 ≤ 21 := by rw [(sk_bg_34 tu I).2.1]; omega
  refine AW_run 80 rfl ?_
  refine AW_cV (M' := mX6_begin) (d' := d + 5) rfl kkX6_51 lcX6_begin rfl rfl rfl rfl rfl rfl (by omega) ?_
  refine c_X_begin (d := d + 3) hp tu I h.2.2.2.2 ?_
  generalize sk_bg tu I = B at *
  refine AW_run 80 rfl ?_
  refine AW_cV (M' := mX6_putOff) (d' := d + 5) rfl kkX6_55 lcX6_putOff rfl rfl rfl rfl rfl rfl (by omega) ?_
  refine c_X_po (d := d + 4) m (-1) b10 ?_
  generalize sk_poI m (-1) B = B0 at *
  refine AW_run 80 rfl ?_
  refine AW_ldcM rfl ?_
  exact lp
theorem c_K_run (m tu : Int) (I : sk_SI) (hc : sk_pg cu) (h9 : 0 ≤ I cu 9 ∧ I cu 9 ≤ 20) (him : sk_in m) (hit : sk_in tu) (h0 : I cu 9 = 0 → Q (some (vi (-4))) sk_G (I, L, sk_J cu sp io rp tp fp)) (h1 : 0 < I cu 9 → ¬ ((0 ≤ m ∧ m < I cu 9) ∧ (0 ≤ tu ∧ tu ≤ 3000)) → Q (some (vi (-3))) sk_G (I, L, sk_J cu sp io rp tp fp)) (h : 0 < I cu 9 → sk_rp cu D I) (h2 : 0 < I cu 9 → (0 ≤ m ∧ m < I cu 9) → (0 ≤ tu ∧ tu ≤ 3000) → Q (some (vi (sk_rn cu m tu I 34 13))) sk_G (sk_uI (sk_rn cu m tu I) 44 6 (sk_rn cu m tu I 5 1), L, sk_J cu sp io cu cu fp)) : AW l E (d + 7) 0 0 mX9_run 0 [some (vr 0), some (vi m), some (vi tu)] [] sk_G (I, L, sk_J cu sp io rp tp fp) Q := by
  have bad : 0 < I cu 9 → ¬ ((0 ≤ m ∧ m < I cu 9) ∧ (0 ≤ tu ∧ tu ≤ 3000)) → AW l E (d + 7) 0 0 mX9_run 34 [some (vr 0), some (vi m), some (vi tu)] [] sk_G (I, L, sk_J cu sp io rp tp fp) Q := by
    intro a b
    have h1 := h1 a b
    refine AW_run 80 rfl ?_
    exact AW_iret rfl rfl h1
  have good : 0 < I cu 9 → (0 ≤ m ∧ m < I cu 9) → (0 ≤ tu ∧ tu ≤ 3000) → AW l E (d + 7) 0 0 mX9_run 47 [some (vr 0), some (vi m), some (vi tu)] [vi tu, vi m, vr cu, vr 34] sk_G (I, L, sk_J cu sp io rp tp fp) Q := by
    intro a b c
    have h2 := h2 a b c
    refine AW_cV (M' := mX6_execute) (d' := d + 6) rfl kkX9_140 lcX6_execute rfl rfl rfl rfl rfl rfl (by omega) ?_
    refine c_X_exec (D := D) hc m tu I (h a) b c ?_
    exact AW_iret rfl rfl h2
  refine AW_run 80 rfl ?_
  refine AW_cV (M' := mX9_hasProgram) rfl kkX9_113 lcX9_hasProgram rfl rfl rfl rfl rfl rfl (Nat.le_refl _) ?_
  refine c_K_has hc h9 (fun g => ?_) (fun g => ?_)
  · have bad := bad g
    have good := good g
    have h9i : sk_in (I cu 9) := by unfold sk_in; omega
    rcases hc with rfl | rfl <;>
    · refine AW_run 80 rfl ?_
      first | refine AW_e1 rfl ?_ | refine AW_e0 rfl ?_ | refine AW_n1 rfl ?_ | refine AW_n0 rfl ?_
      refine AW_run 80 rfl ?_
      refine AW_withinS rfl kkX9_82 rfl (by omega) (fun w1 w2 => ?_) (fun w3 => ?_)
      · refine AW_run 80 rfl ?_
        first | refine AW_e1 rfl ?_ | refine AW_e0 rfl ?_ | refine AW_n1 rfl ?_ | refine AW_n0 rfl ?_
        refine AW_run 80 rfl ?_
        refine AW_withinS rfl kkX9_82 rfl (by omega) (fun w4 w5 => ?_) (fun w6 => ?_)
        · have good := good ⟨w1, w2⟩ ⟨w4, by omega⟩
          refine AW_run 80 rfl ?_
          first | refine AW_e1 rfl ?_ | refine AW_e0 rfl ?_ | refine AW_n1 rfl ?_ | refine AW_n0 rfl ?_
          refine AW_run 80 rfl ?_
          exact good
        · have bad := bad (fun z => w6 ⟨z.2.1, by omega⟩)
          refine AW_run 80 rfl ?_
          first | refine AW_e1 rfl ?_ | refine AW_e0 rfl ?_ | refine AW_n1 rfl ?_ | refine AW_n0 rfl ?_
          exact bad
      · have bad := bad (fun z => w3 z.1)
        refine AW_run 80 rfl ?_
        first | refine AW_e1 rfl ?_ | refine AW_e0 rfl ?_ | refine AW_n1 rfl ?_ | refine AW_n0 rfl ?_
        exact bad
  · have h0 := h0 g
    refine AW_run 80 rfl ?_
    first | refine AW_e1 rfl ?_ | refine AW_e0 rfl ?_ | refine AW_n1 rfl ?_ | refine AW_n0 rfl ?_
    refine AW_run 80 rfl ?_
    exact AW_iret rfl rfl h0
end SKX6
