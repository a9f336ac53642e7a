/-! ===== Reader.readInto, SealKeeper.program ===== -/
section SKR9
variable {l : Launch} {E : sk_En} {d : Nat} {L : sk_SL} {cu sp io rp tp fp : Nat} {Q : Option sk_V → List sk_Sh → sk_St → Prop}
/-- the end of readInto, at a fault -/
theorem c_R_into_f (p : Nat) (I : sk_SI) (m : Int) (h30 : I 30 2 ≤ 1201) (h4 : 0 ≤ I 29 4 ∧ I 29 4 < I 30 2) (hq : Q (some (vi 0)) sk_G (sk_uI I 29 6 (I 32 (I 29 4)), L, sk_J cu sp p rp tp fp)) : AW l E (d + 1) 0 0 mX3_readInto 95 [some (vr 29), some (vr p), some (vr 1), some (vi 0), some (vi m)] [vi 0, vr 29] sk_G (I, L, sk_J cu sp p rp tp fp) Q := by
  first | refine AW_e1 rfl ?_ | refine AW_e0 rfl ?_ | refine AW_n1 rfl ?_ | refine AW_n0 rfl ?_
  refine AW_run 80 rfl ?_
  refine AW_cV (M' := mX8_placeOf) rfl kkX3_56 lcX8_placeOf rfl rfl rfl rfl rfl rfl (Nat.le_refl _) ?_
  refine c_T_placeOf _ (by unfold sk_in; omega) (by omega) (fun _ _ => ?_) (fun z => by omega)
  refine AW_run 80 rfl ?_
  exact AW_zret rfl rfl (Or.inl rfl) hq
/-- and where all is sound -/
theorem c_R_into_s (p : Nat) (I : sk_SI) (m : Int) (hq : Q (some (vi 1)) sk_G (sk_uI I 29 6 0, L, sk_J cu sp p rp tp fp)) : AW l E d 0 0 mX3_readInto 95 [some (vr 29), some (vr p), some (vr 1), some (vi 1), some (vi m)] [vi 1, vr 29] sk_G (I, L, sk_J cu sp p rp tp fp) Q := by
  first | refine AW_e1 rfl ?_ | refine AW_e0 rfl ?_ | refine AW_n1 rfl ?_ | refine AW_n0 rfl ?_
  refine AW_run 80 rfl ?_
  exact AW_zret rfl rfl (Or.inr rfl) hq
theorem c_R_into_lp (p : Nat) (hp : sk_pg p) : ∀ (n : Nat) (m : Int) (I : sk_SI) (D : Int → Int), 1 ≤ m → m + n = 21 → sk_wf p I D → 1 ≤ I p 9 → (∀ e, sk_mlI p n I = .inl e → ∀ I', sk_flt p I e I' → Q (some (vi 0)) sk_G (sk_uI I' 29 6 (I' 32 e.2), L, sk_J cu sp p rp tp fp)) → (∀ z, sk_mlI p n I = .inr z → (∀ e, sk_amI p z.2 (z.2 p 10).toNat 0 = some e → ∀ I', sk_flt p z.2 e I' → Q (some (vi 0)) sk_G (sk_uI I' 29 6 (I' 32 e.2), L, sk_J cu sp p rp tp fp)) ∧ (sk_amI p z.2 (z.2 p 10).toNat 0 = none → Q (some (vi 1)) sk_G (sk_uI z.2 29 6 0, L, sk_J cu sp p rp tp fp))) → AW l E (d + 44) 0 0 mX3_readInto 42 [some (vr 29), some (vr p), some (vr 1), some (vi 1), some (vi m)] [vi 20, vi m] sk_G (I, L, sk_J cu sp p rp tp fp) Q := by
  intro n
  have fin : ∀ (m : Int) (I : sk_SI) (D : Int → Int), sk_wf p I D → (∀ e, sk_amI p I (I p 10).toNat 0 = some e → ∀ I', sk_flt p I e I' → Q (some (vi 0)) sk_G (sk_uI I' 29 6 (I' 32 e.2), L, sk_J cu sp p rp tp fp)) → (sk_amI p I (I p 10).toNat 0 = none → Q (some (vi 1)) sk_G (sk_uI I 29 6 0, L, sk_J cu sp p rp tp fp)) → AW l E (d + 44) 0 0 mX3_readInto 76 [some (vr 29), some (vr p), some (vr 1), some (vi 1), some (vi m)] [] sk_G (I, L, sk_J cu sp p rp tp fp) Q := by
    intro m I D h h1 h2
    have h9 := h.1.2.2.2.2.1
    have h10 := h.1.2.2.2.1
    have h30 := h.1.1.2.1
    refine AW_run 80 rfl ?_
    first | refine AW_e1 rfl ?_ | refine AW_e0 rfl ?_ | refine AW_n1 rfl ?_ | refine AW_n0 rfl ?_
    refine AW_run 80 rfl ?_
    refine AW_cV (M' := mX3_allMethodsAreThere) (d' := d + 43) rfl kkX3_50 lcX3_allMethodsAreThere rfl rfl rfl rfl rfl rfl (by omega) ?_
    refine c_R_there (d := d + 42) p hp h10 (by unfold sk_in; omega) (fun s s0 s1 => ?_) (fun e he => ?_) (fun he => ?_)
    · obtain ⟨a1, a2, a3, a4⟩ := h.2.2.1 s s0 s1
      have b1 : -1 ≤ sk_mf (I (p + 3) s) ∧ sk_mf (I (p + 3) s) ≤ 999 := by
        have tb : ∀ w, w < 13 → -1 ≤ sk_mf ((w : Nat) : Int) ∧ sk_mf ((w : Nat) : Int) ≤ 999 := by decide
        have := tb (I (p + 3) s).toNat (by omega)
        rw [show (((I (p + 3) s).toNat : Nat) : Int) = I (p + 3) s by omega] at this
        exact this
      unfold sk_no at a3
      exact ⟨by unfold sk_in; omega, by unfold sk_in; omega⟩
    · have fb := sk_am_fb h.2.1 (I p 10).toNat 0 (by omega) (by omega) e he
      have hf := sk_flt_bk p hp I e.1 e.2
      have q30 := sk_fp_30 hp hf.1
      have hq := h1 e he _ hf
      have e4 : sk_bk I e.1 e.2 29 4 = e.2 := hf.2.2
      generalize sk_bk I e.1 e.2 = B at *
      unfold sk_fb at fb
      refine AW_run 80 rfl ?_
      first | refine AW_e1 rfl ?_ | refine AW_e0 rfl ?_ | refine AW_n1 rfl ?_ | refine AW_n0 rfl ?_
      refine AW_run 80 rfl ?_
      refine c_R_into_f (d := d + 43) p B _ (by rw [q30]; exact h30) (by rw [q30, e4]; exact fb) ?_
      rw [e4]
      exact hq
    · have hq := h2 he
      refine AW_run 80 rfl ?_
      first | refine AW_e1 rfl ?_ | refine AW_e0 rfl ?_ | refine AW_n1 rfl ?_ | refine AW_n0 rfl ?_
      refine AW_run 80 rfl ?_
      exact c_R_into_s p I _ hq
  induction n with
  | zero =>
    intro m I D h1 hm hw h9 k1 k2
    refine AW_icgt rfl (fun g => ?_) (fun g => by omega)
    obtain ⟨z1, z2⟩ := k2 (0, I) rfl
    exact fin _ I D hw z1 z2
  | succ n ih =>
    intro m I D h1 hm hw h9 k1 k2
    have hb := sk_tok_b hw.1.1 (I 29 3)
    have hn := hw.1.1.2.2.2
    have h30 := hw.1.1.2.1
    refine AW_icgt rfl (fun g => by omega) (fun g => ?_)
    refine AW_run 80 rfl ?_
    first | refine AW_e1 rfl ?_ | refine AW_e0 rfl ?_ | refine AW_n1 rfl ?_ | refine AW_n0 rfl ?_
    refine AW_run 80 rfl ?_
    refine AW_cV (M' := mX8_tokenAt) rfl kkX3_46 lcX8_tokenAt rfl rfl rfl rfl rfl rfl (Nat.le_refl _) ?_
    refine c_T_tok _ hw.1.1 (by unfold sk_in; omega) ?_
    refine AW_run 80 rfl ?_
    refine AW_iceq rfl (fun g2 => ?_) (fun g2 => ?_) (by unfold sk_in; omega)
    · obtain ⟨z1, z2⟩ := k2 (0, I) (by unfold sk_mlI; rw [if_pos g2])
      exact fin _ I D hw z1 z2
    · unfold sk_mlI at k1 k2
      rw [if_neg g2] at k1 k2
      obtain ⟨a1, a2⟩ := sk_wf_md hp hw
      refine AW_run 80 rfl ?_
      refine AW_cV (M' := mX3_readMethod) (d' := d + 43) rfl kkX3_42 lcX3_readMethod rfl rfl rfl rfl rfl rfl (by omega) ?_
      refine c_R_method p hp hw.1 (fun e he I' hI' => ?_) (fun z hz => ?_)
      · rw [he] at k1
        have fb := a1 e he
        have hq := k1 e rfl I' hI'
        have q30 := sk_fp_30 hp hI'.1
        have e4 : I' 29 4 = e.2 := hI'.2.2
        unfold sk_fb at fb
        have fin0 : AW l E (d + 44) 0 0 mX3_readInto 95 [some (vr 29), some (vr p), some (vr 1), some (vi 0), some (vi (m + 1))] [vi 0, vr 29] sk_G (I', L, sk_J cu sp p rp tp fp) Q :=
          c_R_into_f (d := d + 43) p I' _ (by rw [q30]; exact h30) (by rw [q30, e4]; exact fb) (by rw [e4]; exact hq)
        refine AW_run 80 rfl ?_
        refine AW_icgt rfl (fun g3 => ?_) (fun g3 => ?_) (by unfold sk_in; omega)
        · refine AW_run 80 rfl ?_
          first | refine AW_e1 rfl ?_ | refine AW_e0 rfl ?_ | refine AW_n1 rfl ?_ | refine AW_n0 rfl ?_
          refine AW_run 80 rfl ?_
          exact fin0
        · refine AW_run 80 rfl ?_
          first | refine AW_e1 rfl ?_ | refine AW_e0 rfl ?_ | refine AW_n1 rfl ?_ | refine AW_n0 rfl ?_
          refine AW_run 80 rfl ?_
          first | refine AW_e1 rfl ?_ | refine AW_e0 rfl ?_ | refine AW_n1 rfl ?_ | refine AW_n0 rfl ?_
          refine AW_run 80 rfl ?_
          exact fin0
      · obtain ⟨⟨D', b1⟩, b2, b3⟩ := a2 z hz
        rw [hz] at k1 k2
        dsimp only at k1 k2
        have ih2 := ih (m + 1) z.2 D' (by omega) (by omega) b1 (by omega) (fun e he I' hI' => k1 e he I' (sk_flt_tr b2 hI')) k2
        refine AW_run 80 rfl ?_
        exact ih2
theorem c_R_into (p : Nat) (hp : sk_pg p) (I : sk_SI) (ht : sk_tp I) (h1 : ∀ e, sk_riI p (sk_ri0 p I) = .inl e → ∀ I', sk_flt p (sk_ri0 p I) e I' → Q (some (vi 0)) sk_G (sk_uI I' 29 6 (I' 32 e.2), L, sk_J cu sp p rp tp fp)) (h2 : ∀ x, sk_riI p (sk_ri0 p I) = .inr x → Q (some (vi 1)) sk_G (sk_uI x.2 29 6 0, L, sk_J cu sp p rp tp fp)) : AW l E (d + 44) 0 0 mX3_readInto 0 [some (vr 29), some (vr p), some (vr 1), none, none] [] sk_G (I, L, sk_J cu sp io rp tp fp) Q := by
  obtain ⟨w0, w1, w2, w3, w4⟩ := sk_ri0_wf hp ht
  have h30 := w0.1.1.2.1
  have htC : sk_tp (sk_uI (sk_uI (sk_uI I p 9 0) p 10 0) p 11 0) := by
    have q : 1 ≠ p ∧ 2 ≠ p := by rcases hp with rfl | rfl <;> omega
    unfold sk_tp
    rw [sk_uI_o q.1, sk_uI_o q.1, sk_uI_o q.1, sk_uI_o q.2, sk_uI_o q.2, sk_uI_o q.2]
    exact ht
  have body : AW l E (d + 44) 0 0 mX3_readInto 31 [some (vr 29), some (vr p), some (vr 1), none, none] [vr 29] sk_G (sk_ri0 p I, L, sk_J cu sp p rp tp fp) Q := by
    generalize sk_ri0 p I = R at *
    obtain ⟨a1, a2⟩ := sk_wf_md hp w0
    refine AW_cV (M' := mX3_readMethod) (d' := d + 43) rfl kkX3_42 lcX3_readMethod rfl rfl rfl rfl rfl rfl (by omega) ?_
    refine c_R_method p hp w0.1 (fun e he I' hI' => ?_) (fun z hz => ?_)
    · have hq := h1 e (by unfold sk_riI; rw [he]) I' hI'
      have fb := a1 e he
      have q30 := sk_fp_30 hp hI'.1
      have e4 : I' 29 4 = e.2 := hI'.2.2
      unfold sk_fb at fb
      have fin0 : AW l E (d + 44) 0 0 mX3_readInto 95 [some (vr 29), some (vr p), some (vr 1), some (vi 0), some (vi 1)] [vi 0, vr 29] sk_G (I', L, sk_J cu sp p rp tp fp) Q :=
        c_R_into_f (d := d + 43) p I' _ (by rw [q30]; exact h30) (by rw [q30, e4]; exact fb) (by rw [e4]; exact hq)
      refine AW_run 80 rfl ?_
      refine AW_icgt rfl (fun g3 => by omega) (fun g3 => ?_)
      refine AW_run 80 rfl ?_
      first | refine AW_e1 rfl ?_ | refine AW_e0 rfl ?_ | refine AW_n1 rfl ?_ | refine AW_n0 rfl ?_
      refine AW_run 80 rfl ?_
      first | refine AW_e1 rfl ?_ | refine AW_e0 rfl ?_ | refine AW_n1 rfl ?_ | refine AW_n0 rfl ?_
      refine AW_run 80 rfl ?_
      exact fin0
    · obtain ⟨⟨D', b1⟩, b2, b3⟩ := a2 z hz
      have lp := c_R_into_lp (l := l) (E := E) (d := d) (L := L) (cu := cu) (sp := sp) (rp := rp) (tp := tp) (fp := fp) (Q := Q) p hp 20 1 z.2 D' (by omega) (by omega) b1 (by rw [b3, w3]; omega) (fun e he I' hI' => h1 e (by unfold sk_riI; rw [hz]; dsimp only; rw [he]) I' (sk_flt_tr b2 hI')) (fun u hu => by
        obtain ⟨⟨D2, c1⟩, c2, c3⟩ := (sk_wf_ml hp 20 z.2 D' b1 (by rw [b3, w3]; omega)).2 u hu
        exact ⟨fun e he I' hI' => h1 e (by unfold sk_riI; rw [hz]; dsimp only; rw [hu]; dsimp only; rw [he]) I' (sk_flt_tr (sk_fp_tr b2 c2) hI'), fun he => h2 (0, u.2) (by unfold sk_riI; rw [hz]; dsimp only; rw [hu]; dsimp only; rw [he])⟩)
      refine AW_run 80 rfl ?_
      exact lp
  have hp' := hp
  rcases hp with rfl | rfl <;>
  · refine AW_run 80 rfl ?_
    rw [sk_J_into]
    refine AW_cV (M' := mX2_clear) rfl kkX3_26 lcX2_clear rfl rfl rfl rfl rfl rfl (Nat.le_refl _) ?_
    refine c_Pg_clear _ hp' ?_
    refine AW_run 80 rfl ?_
    refine AW_cV (M' := mX8_cut) (d' := d + 43) rfl kkX3_31 lcX8_cut rfl rfl rfl rfl rfl rfl (by omega) ?_
    refine c_T_cut (d := d + 37) htC ?_
    refine AW_run 80 rfl ?_
    exact body
end SKR9
