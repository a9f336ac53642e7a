/-! ===== a number below 0 is no step's ===== -/
section SKR6n
variable {l : Launch} {E : sk_En} {d : Nat} {I : sk_SI} {L : sk_SL} {cu sp io rp tp fp : Nat} {Q : Option sk_V → List sk_Sh → sk_St → Prop} {G : List sk_Sh} {σ : sk_St}
theorem c_within_n (a b : Int) (ha : sk_in a) (h0 : a < 0) (hF : Q (some (vi 0)) G σ) : AW l E d 0 0 mX9_within 0 [some (vi a), some (vi b)] [] G σ Q := by
  refine AW_run 80 rfl ?_
  refine AW_iflt rfl (fun h => ?_) (fun h => ?_)
  · refine AW_run 80 rfl ?_
    exact AW_zret rfl rfl (Or.inl rfl) hF
  · omega
theorem c_Pg_hasN (p : Nat) (hp : sk_pg p) (s : Int) (hs : sk_in s) (h0 : s < 0) (hF : Q (some (vi 0)) sk_G (I, L, sk_J cu sp io rp tp fp)) : AW l E (d + 1) 0 0 mX2_hasStep 0 [some (vr p), some (vi s)] [] sk_G (I, L, sk_J cu sp io rp tp fp) Q := by
  rcases hp with rfl | rfl <;>
  · refine AW_run 80 rfl ?_
    refine AW_callSN (d' := 0) rfl kkX2_49 lcX9_within rfl rfl rfl (by omega) (Nat.zero_add 0).symm (Nat.zero_add 0).symm (c_within_n s _ hs h0 ?_)
    refine AW_run 80 rfl ?_
    exact AW_zret rfl rfl (Or.inl rfl) hF
end SKR6n
/-! ===== Reader.readBlock, by its function ===== -/
section SKR6
variable {l : Launch} {E : sk_En} {d : Nat} {L : sk_SL} {cu sp rp tp fp : Nat}
theorem c_R_loop (p k : Nat) (hp : sk_pg p) (hk : k + 1 ≤ 12) (hRB : sk_RB l E d k p L (sk_J cu sp p rp tp fp)) (Q : Option sk_V → List sk_Sh → sk_St → Prop) : ∀ (m : Nat) (i f la : Int) (S : sk_SI), 0 ≤ i → i + m = 201 → sk_iv p S → -1 ≤ f ∧ f ≤ 199 → -1 ≤ la ∧ la < S p 10 → (∀ e, sk_lpI (sk_stI (sk_blI p k) p) p m f la S = .inl e → ∀ I', sk_flt p S e I' → Q (some (vi (-2))) sk_G (I', L, sk_J cu sp p rp tp fp)) → (∀ x, sk_lpI (sk_stI (sk_blI p k) p) p m f la S = .inr x → Q (some (vi x.1)) sk_G (x.2, L, sk_J cu sp p rp tp fp)) →
    AW l E (d + (3 * k + 9)) 0 0 mX3_readBlock 60 [some (vr 29), some (vi (12 - k)), some (vi f), some (vi la), some (vi i), none] [vi 200, vi i] sk_G (S, L, sk_J cu sp p rp tp fp) Q := by
  intro m
  have fin : ∀ (f la i : Int) (S : sk_SI) (ls : List (Option sk_V)), sk_iv p S → ls = [some (vr 29), some (vi (12 - k)), some (vi f), some (vi la), some (vi i), none] → (∀ e, sk_tkI 17 S = .inl e → ∀ I', sk_flt p S e I' → Q (some (vi (-2))) sk_G (I', L, sk_J cu sp p rp tp fp)) → (∀ x, sk_tkI 17 S = .inr x → Q (some (vi f)) sk_G (x.2, L, sk_J cu sp p rp tp fp)) → AW l E (d + (3 * k + 9)) 0 0 mX3_readBlock 138 ls [] sk_G (S, L, sk_J cu sp p rp tp fp) Q := by
    intro f la i S ls h hls h1 h2
    subst hls
    refine AW_run 80 rfl ?_
    refine AW_cV (M' := mX3_take) rfl kkX3_62 lcX3_take rfl rfl rfl rfl rfl rfl (Nat.le_refl _) ?_
    refine c_R_takeF p hp rfl 17 h.1 (by unfold sk_in; omega) (fun e he I' hI' => ?_) (fun x hx => ?_)
    · refine AW_run 80 rfl ?_
      first | refine AW_e1 rfl ?_ | refine AW_e0 rfl ?_ | refine AW_n1 rfl ?_ | refine AW_n0 rfl ?_
      refine AW_run 80 rfl ?_
      exact AW_iret rfl rfl (h1 e he I' hI')
    · refine AW_run 80 rfl ?_
      first | refine AW_e1 rfl ?_ | refine AW_e0 rfl ?_ | refine AW_n1 rfl ?_ | refine AW_n0 rfl ?_
      refine AW_run 80 rfl ?_
      exact AW_iret rfl rfl (h2 x hx)
  induction m with
  | zero =>
    intro i f la S h0 hi hv hf hla h1 h2
    refine AW_icgt rfl (fun g => ?_) (fun g => ?_)
    · refine fin f la i S _ hv rfl (fun e he => h1 e (by unfold sk_lpI; rw [he])) (fun x hx => h2 (f, x.2) (by unfold sk_lpI; rw [hx]))
    · omega
  | succ m ih =>
    intro i f la S h0 hi hv hf hla h1 h2
    have hb := sk_tok_b hv.1 (S 29 3)
    have hn := hv.1.2.2.2
    have hp' := hp
    refine AW_icgt rfl (fun g => ?_) (fun g => ?_)
    · omega
    · refine AW_run 80 rfl ?_
      refine AW_cV (M' := mX8_tokenAt) rfl kkX3_46 lcX8_tokenAt rfl rfl rfl rfl rfl rfl (Nat.le_refl _) ?_
      refine c_T_tok _ hv.1 (by unfold sk_in; omega) ?_
      refine AW_run 80 rfl ?_
      refine AW_iceq rfl (fun g2 => ?_) (fun g2 => ?_) (by unfold sk_in; omega)
      · refine fin f la i S _ hv rfl (fun e he => ?_) (fun x hx => ?_)
        · unfold sk_tkI at he
          rw [if_pos g2] at he
          cases he
        · refine h2 (f, x.2) ?_
          unfold sk_tkI at hx
          rw [if_pos g2] at hx
          cases hx
          unfold sk_lpI
          rw [if_pos g2]
      · have hu : sk_lpI (sk_stI (sk_blI p k) p) p (m + 1) f la S = (match sk_stI (sk_blI p k) p S with
          | .inl e => .inl e
          | .inr x => if 0 ≤ la then sk_lpI (sk_stI (sk_blI p k) p) p m f x.1 (sk_uI x.2 (p + 7) la x.1) else sk_lpI (sk_stI (sk_blI p k) p) p m x.1 x.1 x.2) := by
          rw [sk_lpI, if_neg g2]
          all_goals rfl
        rw [hu] at h1 h2
        refine AW_run 80 rfl ?_
        refine AW_cV (M' := mX3_readStep) (d' := d + (3 * k + 8)) rfl kkX3_97 lcX3_readStep rfl rfl rfl rfl rfl rfl (by omega) ?_
        refine c_R_step p k hp (by omega) hv hRB (fun e he I' hI' => ?_) (fun x hx => ?_)
        · have hQ := h1 e (by rw [he]) I' hI'
          rcases hp with rfl | rfl <;>
          · refine AW_run 80 rfl ?_
            refine AW_cV (M' := mX2_hasStep) rfl kkX3_100 lcX2_hasStep rfl rfl rfl rfl rfl rfl (Nat.le_refl _) ?_
            refine c_Pg_hasN _ hp' (-2) (by unfold sk_in; omega) (by omega) ?_
            refine AW_run 80 rfl ?_
            first | refine AW_e1 rfl ?_ | refine AW_e0 rfl ?_ | refine AW_n1 rfl ?_ | refine AW_n0 rfl ?_
            refine AW_run 80 rfl ?_
            exact AW_iret rfl rfl hQ
        · obtain ⟨gx, ex1, ex2⟩ := sk_gd_st hp (fun A u hA hu => (sk_gd_bl hp k (by omega) A u hA hu).1) hv hx
          rw [hx] at h1 h2
          dsimp only at h1 h2
          have h10 := gx.1.2.2.2.1
          have hS10 := hv.2.2.2.1
          have gle := gx.2.2.1
          rcases hp with rfl | rfl <;>
          · refine AW_run 80 rfl ?_
            refine AW_cV (M' := mX2_hasStep) rfl kkX3_100 lcX2_hasStep rfl rfl rfl rfl rfl rfl (Nat.le_refl _) ?_
            refine c_Pg_has _ hp' x.1 (by unfold sk_in; omega) h10 (fun _ _ => ?_) (fun z => by omega)
            refine AW_run 80 rfl ?_
            first | refine AW_e1 rfl ?_ | refine AW_e0 rfl ?_ | refine AW_n1 rfl ?_ | refine AW_n0 rfl ?_
            refine AW_run 80 rfl ?_
            refine AW_cV (M' := mX2_hasStep) rfl kkX3_100 lcX2_hasStep rfl rfl rfl rfl rfl rfl (Nat.le_refl _) ?_
            refine c_Pg_has _ hp' la (by unfold sk_in; omega) h10 (fun a b => ?_) (fun z => ?_)
            · rw [if_pos a] at h1 h2
              have gr := sk_gd_row hp' gx.1 _ la x.1 (Or.inr ⟨Nat.le_add_right_of_le (k := 6) (Nat.le_refl _), Nat.le_succ_of_le (Nat.le_succ _)⟩)
              have gle2 := gr.2.2.1
              have ih2 := ih (i + 1) f x.1 _ (by omega) (by omega) gr.1 hf (by omega) (fun e he I' hI' => h1 e he I' (sk_flt_tr (sk_gd_tr gx gr).2.1 hI')) (fun y hy => h2 y hy)
              refine AW_run 80 rfl ?_
              first | refine AW_e1 rfl ?_ | refine AW_e0 rfl ?_ | refine AW_n1 rfl ?_ | refine AW_n0 rfl ?_
              refine AW_run 80 rfl ?_
              refine AW_iast rfl rfl ⟨by omega, by omega⟩ (by decide) ?_
              refine AW_run 80 rfl ?_
              exact AW_lk ih2 ⟨rfl, rfl, rfl, rfl, rfl, trivial⟩
            · rw [if_neg (by omega)] at h1 h2
              have ih2 := ih (i + 1) x.1 x.1 x.2 (by omega) (by omega) gx.1 (by omega) (by omega) (fun e he I' hI' => h1 e he I' (sk_flt_tr gx.2.1 hI')) (fun y hy => h2 y hy)
              refine AW_run 80 rfl ?_
              first | refine AW_e1 rfl ?_ | refine AW_e0 rfl ?_ | refine AW_n1 rfl ?_ | refine AW_n0 rfl ?_
              refine AW_run 80 rfl ?_
              exact AW_lk ih2 ⟨rfl, rfl, rfl, rfl, rfl, trivial⟩
end SKR6
section SKR7
variable {l : Launch} {E : sk_En} {d : Nat} {L : sk_SL} {cu sp rp tp fp : Nat}
theorem c_R_block (p : Nat) (hp : sk_pg p) : ∀ (k : Nat), k ≤ 12 → sk_RB l E d k p L (sk_J cu sp p rp tp fp)
  | 0, hk => by
    intro I Q h h1 h2
    refine AW_run 80 rfl ?_
    refine AW_cV (M' := mX3_take) rfl kkX3_62 lcX3_take rfl rfl rfl rfl rfl rfl (Nat.le_refl _) ?_
    refine c_R_takeF p hp rfl 16 h.1 (by unfold sk_in; omega) (fun e he I' hI' => ?_) (fun x hx => ?_)
    · refine AW_run 80 rfl ?_
      first | refine AW_e1 rfl ?_ | refine AW_e0 rfl ?_ | refine AW_n1 rfl ?_ | refine AW_n0 rfl ?_
      refine AW_run 80 rfl ?_
      exact AW_iret rfl rfl (h1 e (by unfold sk_blI; rw [he]) I' hI')
    · have gx := sk_gd_tk hp h (by decide) hx
      have hn := gx.1.1.2.2.2
      refine AW_run 80 rfl ?_
      first | refine AW_e1 rfl ?_ | refine AW_e0 rfl ?_ | refine AW_n1 rfl ?_ | refine AW_n0 rfl ?_
      refine AW_run 80 rfl ?_
      refine AW_icle rfl (fun g => by omega) (fun g => ?_) (by unfold sk_in; omega)
      refine AW_run 80 rfl ?_
      refine AW_cV (M' := mX3_broken) rfl kkX3_69 lcX3_broken rfl rfl rfl rfl rfl rfl (Nat.le_refl _) ?_
      refine c_R_broken _ _ ?_
      exact AW_iret rfl rfl (h1 (3, x.2 29 3 - 1) (by unfold sk_blI; rw [hx]) _ (sk_flt_tr gx.2.1 (sk_flt_bk _ hp x.2 3 _)))
  | k + 1, hk => by
    intro I Q h h1 h2
    have ih := c_R_block p hp k (by omega)
    refine AW_run 80 rfl ?_
    refine AW_cV (M' := mX3_take) rfl kkX3_62 lcX3_take rfl rfl rfl rfl rfl rfl (Nat.le_refl _) ?_
    refine c_R_takeF p hp rfl 16 h.1 (by unfold sk_in; omega) (fun e he I' hI' => ?_) (fun x hx => ?_)
    · refine AW_run 80 rfl ?_
      first | refine AW_e1 rfl ?_ | refine AW_e0 rfl ?_ | refine AW_n1 rfl ?_ | refine AW_n0 rfl ?_
      refine AW_run 80 rfl ?_
      exact AW_iret rfl rfl (h1 e (by unfold sk_blI; rw [he]) I' hI')
    · have gx := sk_gd_tk hp h (by decide) hx
      have hn := gx.1.1.2.2.2
      have h11 := gx.1.2.2.2.2.2
      have hm : 0 ≤ max (x.2 p 11) (12 - (k : Int)) ∧ max (x.2 p 11) (12 - (k : Int)) ≤ 12 := by omega
      have g11 := sk_iv_11 hp gx.1 _ hm
      have h10 := g11.1.2.2.2.1
      have lp := c_R_loop (l := l) (E := E) (d := d) (L := L) (cu := cu) (sp := sp) (rp := rp) (tp := tp) (fp := fp) p k hp hk ih Q 201 0 (-1) (-1) _ (by omega) (by omega) g11.1 (by omega) (by omega) (fun e he I' hI' => h1 e (by unfold sk_blI; rw [hx]; exact he) I' (sk_flt_tr (sk_fp_tr gx.2.1 g11.2.1) hI')) (fun y hy => h2 y (by unfold sk_blI; rw [hx]; exact hy))
      have ek : (13 : Int) - ((k + 1 : Nat) : Int) = 12 - k := by omega
      have ed : d + (3 * (k + 1) + 6) = d + (3 * k + 9) := by omega
      rw [ed]
      rcases hp with rfl | rfl <;>
      · refine AW_run 80 rfl ?_
        first | refine AW_e1 rfl ?_ | refine AW_e0 rfl ?_ | refine AW_n1 rfl ?_ | refine AW_n0 rfl ?_
        refine AW_run 80 rfl ?_
        refine AW_icle rfl (fun g => ?_) (fun g => by omega) (by unfold sk_in; omega)
        refine AW_run 80 rfl ?_
        refine AW_max rfl kw_pX3_92 (by omega) rfl (by unfold sk_in; omega) (by unfold sk_in; omega) ?_
        rw [ek]
        refine AW_run 80 rfl ?_
        exact AW_lk lp ⟨rfl, rfl, rfl, rfl, rfl, trivial⟩
end SKR7
