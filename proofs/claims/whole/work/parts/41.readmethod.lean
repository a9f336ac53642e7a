/-! ===== Reader.readMethod, allMethodsAreThere ===== -/
def sk_amS (p : Nat) (o : Int) (I : sk_SI) : sk_SI := sk_uI (sk_uI (sk_uI I (p + 1) (I p 9) o) (p + 2) (I p 9) (-1)) p 9 (I p 9 + 1)
def sk_mdI (p : Nat) (I : sk_SI) : sk_PR := match sk_tkI 15 I with
  | .inl e => .inl e
  | .inr x => if 20 ≤ x.2 p 9 then .inl (4, x.2 29 3 - 1) else match sk_nuI 7 x.2 with
    | .inl e => .inl e
    | .inr y => match sk_blI p 12 (sk_amS p y.1 y.2) with
      | .inl e => .inl e
      | .inr z => .inr (0, sk_uI z.2 (p + 2) (y.2 p 9) z.1)
theorem sk_iv_9 {p : Nat} {I : sk_SI} (hp : sk_pg p) (h : sk_iv p I) (v : Int) (hv : 0 ≤ v ∧ v ≤ 20) : sk_iv p (sk_uI I p 9 v) ∧ sk_fp p I (sk_uI I p 9 v) := by
  have o : ∀ c, c ≠ p → sk_uI I p 9 v c = I c := fun c hc => sk_uI_o hc
  have h29 : 29 ≠ p := by rcases hp with rfl | rfl <;> omega
  have h30 : 30 ≠ p := by rcases hp with rfl | rfl <;> omega
  have h31 : 31 ≠ p := by rcases hp with rfl | rfl <;> omega
  have hf := sk_fp_pg p hp I p 9 v (by omega)
  obtain ⟨a1, a2, a3, a4, a5, a6⟩ := h
  refine ⟨⟨sk_tv_fp hp a1 hf (by rw [o 29 h29]; exact a1.2.2.2), ?_, ?_, ?_, ?_, ?_⟩, hf⟩
  · rw [o 29 h29, o 30 h30]; exact a2
  · rw [o 30 h30, o 31 h31]; exact a3
  · rw [sk_uI_s, sk_up_o (by decide)]; exact a4
  · rw [sk_uI_s, sk_up_s]; exact hv
  · rw [sk_uI_s, sk_up_o (by decide)]; exact a6
theorem sk_iv_am {p : Nat} {I : sk_SI} (hp : sk_pg p) (h : sk_iv p I) (o : Int) (h9 : I p 9 < 20) : sk_iv p (sk_amS p o I) ∧ sk_fp p I (sk_amS p o I) ∧ sk_amS p o I p 9 = I p 9 + 1 ∧ sk_amS p o I p 10 = I p 10 ∧ (∀ c, p + 3 ≤ c → sk_amS p o I c = I c) ∧ sk_amS p o I (p + 1) = sk_up (I (p + 1)) (I p 9) o ∧ sk_amS p o I (p + 2) = sk_up (I (p + 2)) (I p 9) (-1) := by
  have g1 := sk_gd_row hp h (p + 1) (I p 9) o (by omega)
  have g2 := sk_gd_tr g1 (sk_gd_row hp g1.1 (p + 2) (I p 9) (-1) (by omega))
  have h0 := h.2.2.2.2.1
  have g3 := sk_iv_9 hp g2.1 (I p 9 + 1) (by omega)
  unfold sk_amS
  refine ⟨g3.1, sk_fp_tr g2.2.1 g3.2, ?_, ?_, fun c hc => ?_, ?_, ?_⟩
  · rw [sk_uI_s, sk_up_s]
  · rw [sk_uI_s, sk_up_o (by decide), sk_uI_o (by omega), sk_uI_o (by omega)]
  · rw [sk_uI_o (by omega), sk_uI_o (by omega), sk_uI_o (by omega)]
  · rw [sk_uI_o (by omega), sk_uI_o (by omega), sk_uI_s]
  · rw [sk_uI_o (by omega), sk_uI_s, sk_uI_o (by omega)]
section SKR8
variable {l : Launch} {E : sk_En} {d : Nat} {I : sk_SI} {L : sk_SL} {cu sp rp tp fp : Nat} {Q : Option sk_V → List sk_Sh → sk_St → Prop}
theorem c_R_method (p : Nat) (hp : sk_pg p) (h : sk_iv p I) (h1 : ∀ e, sk_mdI p I = .inl e → ∀ I', sk_flt p I e I' → Q (some (vi 0)) sk_G (I', L, sk_J cu sp p rp tp fp)) (h2 : ∀ x, sk_mdI p I = .inr x → Q (some (vi 1)) sk_G (x.2, L, sk_J cu sp p rp tp fp)) : AW l E (d + 43) 0 0 mX3_readMethod 0 [some (vr 29), none, none, none] [] sk_G (I, L, sk_J cu sp p rp tp fp) Q := by
  have hp' := hp
  have blk := c_R_block (l := l) (E := E) (d := d) (L := L) (cu := cu) (sp := sp) (rp := rp) (tp := tp) (fp := fp) p hp 12 (by omega)
  unfold sk_mdI at h1 h2
  refine AW_run 80 rfl ?_
  refine AW_cV (M' := mX3_take) rfl kkX3_62 lcX3_take rfl rfl rfl rfl rfl rfl (Nat.le_refl _) ?_
  refine c_R_takeF p hp rfl 15 h.1 (by unfold sk_in; omega) (fun e he I' hI' => ?_) (fun x hx => ?_)
  · rw [he] at h1
    refine AW_run 80 rfl ?_
    first | refine AW_e1 rfl ?_ | refine AW_e0 rfl ?_ | refine AW_n1 rfl ?_ | refine AW_n0 rfl ?_
    refine AW_run 80 rfl ?_
    exact AW_zret rfl rfl (Or.inl rfl) (h1 e rfl I' hI')
  · have gx := sk_gd_tk hp h (by decide) hx
    rw [hx] at h1 h2
    dsimp only at h1 h2
    have hn := gx.1.1.2.2.2
    have h9 := gx.1.2.2.2.2.1
    have many : 20 ≤ x.2 p 9 → Q (some (vi 0)) sk_G (sk_bk x.2 4 (x.2 29 3 - 1), L, sk_J cu sp p rp tp fp) := by
      intro g
      rw [if_pos g] at h1
      exact h1 _ rfl _ (sk_flt_tr gx.2.1 (sk_flt_bk _ hp x.2 4 _))
    have rest : ∀ y, ¬ 20 ≤ x.2 p 9 → sk_nuI 7 x.2 = .inr y → 0 ≤ y.1 → AW l E (d + 43) 0 0 mX3_readMethod 63 [some (vr 29), some (vi y.1), some (vi (y.2 p 9)), none] [vi 1, vr 29] sk_G (sk_amS p y.1 y.2, L, sk_J cu sp p rp tp fp) Q := by
      intro y g hy hy0
      rw [if_neg g, hy] at h1 h2
      dsimp only at h1 h2
      obtain ⟨q1, q2, q3, q4⟩ := sk_nuI_r hy
      have gy := sk_gd_adv hp gx.1 (by omega)
      rw [← q1] at gy
      have e9 := gy.2.2.2
      obtain ⟨a1, a2, a3, a4, a5⟩ := sk_iv_am hp gy.1 y.1 (by omega)
      refine AW_cV (M' := mX3_readBlock) (d' := d + 42) rfl kkX3_79 lcX3_readBlock rfl rfl rfl rfl rfl rfl (by omega) ?_
      refine blk (sk_amS p y.1 y.2) _ a1 (fun e he I' hI' => ?_) (fun z hz => ?_)
      · refine AW_run 80 rfl ?_
        refine AW_iceq rfl (fun g3 => ?_) (fun g3 => by omega)
        refine AW_run 80 rfl ?_
        exact AW_zret rfl rfl (Or.inl rfl) (h1 e (by rw [he]) I' (sk_flt_tr (sk_fp_tr (sk_gd_tr gx gy).2.1 a2) hI'))
      · obtain ⟨gz, gz1, gz2⟩ := sk_gd_bl hp' 12 (by omega) _ z a1 hz
        rw [hz] at h2
        have h2 := h2 _ rfl
        have h10 := gz.1.2.2.2.1
        rcases hp with rfl | rfl <;>
        · refine AW_run 80 rfl ?_
          refine AW_iceq rfl (fun g3 => by omega) (fun g3 => ?_) (by unfold sk_in; omega)
          refine AW_run 80 rfl ?_
          refine AW_within rfl kkX3_82 rfl (by omega) (fun w1 w2 => ?_) (fun w3 => by omega)
          refine AW_run 80 rfl ?_
          first | refine AW_e1 rfl ?_ | refine AW_e0 rfl ?_ | refine AW_n1 rfl ?_ | refine AW_n0 rfl ?_
          refine AW_run 80 rfl ?_
          refine AW_iast rfl rfl ⟨by omega, by omega⟩ (by decide) ?_
          refine AW_run 80 rfl ?_
          exact AW_zret rfl rfl (Or.inr rfl) h2
    have num : ¬ 20 ≤ x.2 p 9 → AW l E (d + 43) 0 0 mX3_readMethod 40 [some (vr 29), none, none, none] [vi 7, vr 29] sk_G (x.2, L, sk_J cu sp p rp tp fp) Q := by
      intro g
      have rest := fun y hy hy0 => rest y g hy hy0
      rw [if_neg g] at h1
      refine AW_cV (M' := mX3_readNumber) rfl kkX3_73 lcX3_readNumber rfl rfl rfl rfl rfl rfl (Nat.le_refl _) ?_
      refine c_R_numF (I := x.2) 7 gx.1.1 (by omega) (fun e he => ?_) (fun y hy y0 y1 => ?_)
      · refine AW_run 80 rfl ?_
        refine AW_icne rfl (fun g3 => by omega) (fun g3 => ?_)
        refine AW_run 80 rfl ?_
        refine AW_zret rfl rfl (Or.inl rfl) (h1 e (by rw [he]) _ (sk_flt_tr gx.2.1 (sk_flt_bk _ hp' x.2 e.1 e.2)))
      · have rest := rest y hy y0
        obtain ⟨q1, q2, q3, q4⟩ := sk_nuI_r hy
        have gy := sk_gd_adv hp gx.1 (by omega)
        rw [← q1] at gy
        have e9 := gy.2.2.2
        rcases hp with rfl | rfl <;>
        · refine AW_run 80 rfl ?_
          refine AW_icne rfl (fun g3 => ?_) (fun g3 => by omega) (by unfold sk_in; omega)
          refine AW_run 80 rfl ?_
          refine AW_cV (M' := mX2_addMethod) rfl kkX3_76 lcX2_addMethod rfl rfl rfl rfl rfl rfl (Nat.le_refl _) ?_
          refine c_Pg_addMethod _ hp' y.1 (by omega) ?_
          refine AW_run 80 rfl ?_
          exact rest
    rcases hp with rfl | rfl <;>
    · refine AW_run 80 rfl ?_
      first | refine AW_e1 rfl ?_ | refine AW_e0 rfl ?_ | refine AW_n1 rfl ?_ | refine AW_n0 rfl ?_
      refine AW_run 80 rfl ?_
      refine AW_iclt rfl (fun g => ?_) (fun g => ?_) (by unfold sk_in; omega)
      · refine AW_run 80 rfl ?_
        exact num (by omega)
      · have many := many (by omega)
        refine AW_run 80 rfl ?_
        refine AW_cV (M' := mX3_broken) rfl kkX3_69 lcX3_broken rfl rfl rfl rfl rfl rfl (Nat.le_refl _) ?_
        refine c_R_broken _ _ ?_
        refine AW_run 80 rfl ?_
        exact AW_zret rfl rfl (Or.inl rfl) many
/-- the first step that names a method that isn't there -/
def sk_amI (p : Nat) (I : sk_SI) : Nat → Int → Option (Int × Int)
  | 0, _ => none
  | n + 1, s => if (I (p + 3) s = 1 ∨ I (p + 3) s = 6) ∧ I p 9 ≤ I (p + 5) s then some (5, I 33 s) else sk_amI p I n (s + 1)
theorem c_R_there_lp (p : Nat) (hp : sk_pg p) (hs : 0 ≤ I p 10 ∧ I p 10 ≤ 200) (hm : sk_in (I p 9)) (hw : ∀ s, 0 ≤ s → s < I p 10 → sk_in (I (p + 3) s) ∧ sk_in (I (p + 5) s)) : ∀ (n : Nat) (s : Int) (ls : List (Option sk_V)), 0 ≤ s → s + n = I p 10 → ls.take 2 = [some (vr 29), some (vi s)] → ls.length = 3 → (∀ e, sk_amI p I n s = some e → Q (some (vi 0)) sk_G (sk_bk I e.1 e.2, L, sk_J cu sp p rp tp fp)) → (sk_amI p I n s = none → Q (some (vi 1)) sk_G (I, L, sk_J cu sp p rp tp fp)) → AW l E (d + 1) 0 0 mX3_allMethodsAreThere 10 ls [vi (I p 10), vi s] sk_G (I, L, sk_J cu sp p rp tp fp) Q := by
  intro n
  induction n with
  | zero =>
    intro s ls h0 hn hl hl3 h1 h2
    obtain ⟨a, b, c, rfl⟩ : ∃ a b c, ls = [a, b, c] := by
      match ls, hl3 with
      | [a, b, c], _ => exact ⟨a, b, c, rfl⟩
    simp only [List.take, List.cons.injEq, and_true] at hl
    obtain ⟨rfl, rfl⟩ := hl
    refine AW_icge rfl (fun g => ?_) (fun g => by omega)
    refine AW_run 80 rfl ?_
    exact AW_zret rfl rfl (Or.inr rfl) (h2 rfl)
  | succ n ih =>
    intro s ls h0 hn hl hl3 h1 h2
    obtain ⟨a, b, c, rfl⟩ : ∃ a b c, ls = [a, b, c] := by
      match ls, hl3 with
      | [a, b, c], _ => exact ⟨a, b, c, rfl⟩
    simp only [List.take, List.cons.injEq, and_true] at hl
    obtain ⟨rfl, rfl⟩ := hl
    have hws := hw s h0 (by omega)
    have ih2 := fun c (h : ¬ ((I (p + 3) s = 1 ∨ I (p + 3) s = 6) ∧ I p 9 ≤ I (p + 5) s)) => ih (s + 1) [some (vr 29), some (vi (s + 1)), c] (by omega) (by omega) rfl rfl (fun e he => h1 e (by unfold sk_amI; rw [if_neg h]; exact he)) (fun he => h2 (by unfold sk_amI; rw [if_neg h]; exact he))
    have bad : ((I (p + 3) s = 1 ∨ I (p + 3) s = 6) ∧ I p 9 ≤ I (p + 5) s) → Q (some (vi 0)) sk_G (sk_bk I 5 (I 33 s), L, sk_J cu sp p rp tp fp) := fun h => h1 (5, I 33 s) (by unfold sk_amI; rw [if_pos h])
    have named : (I (p + 3) s = 1 ∨ I (p + 3) s = 6) → AW l E (d + 1) 0 0 mX3_allMethodsAreThere 47 [some (vr 29), some (vi s), some (vi 1)] [vi 1] sk_G (I, L, sk_J cu sp p rp tp fp) Q := by
      intro hnm
      rcases hp with rfl | rfl <;>
      · first | refine AW_e1 rfl ?_ | refine AW_e0 rfl ?_ | refine AW_n1 rfl ?_ | refine AW_n0 rfl ?_
        refine AW_run 80 rfl ?_
        refine AW_iald rfl rfl ⟨by omega, by omega⟩ (by decide) ?_
        refine AW_run 80 rfl ?_
        refine AW_iclt rfl (fun g => ?_) (fun g => ?_) hws.2 hm
        · have ih2 := ih2 (some (vi 1)) (fun z => absurd z.2 (Int.not_le.mpr g))
          refine AW_run 80 rfl ?_
          exact ih2
        · have bad := bad ⟨hnm, Int.not_lt.mp g⟩
          refine AW_run 80 rfl ?_
          refine AW_iald rfl rfl ⟨by omega, by omega⟩ (by decide) ?_
          refine AW_run 80 rfl ?_
          refine AW_cV (M' := mX3_broken) rfl kkX3_69 lcX3_broken rfl rfl rfl rfl rfl rfl (Nat.le_refl _) ?_
          refine c_R_broken _ _ ?_
          refine AW_run 80 rfl ?_
          exact AW_zret rfl rfl (Or.inl rfl) bad
    refine AW_icge rfl (fun g => by omega) (fun g => ?_)
    rcases hp with rfl | rfl <;>
    · refine AW_run 80 rfl ?_
      refine AW_iald rfl rfl ⟨by omega, by omega⟩ (by decide) ?_
      refine AW_run 80 rfl ?_
      refine AW_iceq rfl (fun g => ?_) (fun g => ?_) hws.1
      · refine AW_run 80 rfl ?_
        exact named (Or.inl g)
      · refine AW_run 80 rfl ?_
        refine AW_iald rfl rfl ⟨by omega, by omega⟩ (by decide) ?_
        refine AW_run 80 rfl ?_
        refine AW_icne rfl (fun g2 => ?_) (fun g2 => ?_) hws.1
        · have ih2 := ih2 (some (vi 0)) (fun z => z.1.elim (fun y => g y) (fun y => g2 y))
          refine AW_run 80 rfl ?_
          first | refine AW_e1 rfl ?_ | refine AW_e0 rfl ?_ | refine AW_n1 rfl ?_ | refine AW_n0 rfl ?_
          refine AW_run 80 rfl ?_
          exact ih2
        · refine AW_run 80 rfl ?_
          exact named (Or.inr g2)
theorem c_R_there (p : Nat) (hp : sk_pg p) (hs : 0 ≤ I p 10 ∧ I p 10 ≤ 200) (hm : sk_in (I p 9)) (hw : ∀ s, 0 ≤ s → s < I p 10 → sk_in (I (p + 3) s) ∧ sk_in (I (p + 5) s)) (h1 : ∀ e, sk_amI p I (I p 10).toNat 0 = some e → Q (some (vi 0)) sk_G (sk_bk I e.1 e.2, L, sk_J cu sp p rp tp fp)) (h2 : sk_amI p I (I p 10).toNat 0 = none → Q (some (vi 1)) sk_G (I, L, sk_J cu sp p rp tp fp)) : AW l E (d + 1) 0 0 mX3_allMethodsAreThere 0 [some (vr 29), none, none] [] sk_G (I, L, sk_J cu sp p rp tp fp) Q := by
  have lp := c_R_there_lp (l := l) (E := E) (d := d) (L := L) (cu := cu) (sp := sp) (rp := rp) (tp := tp) (fp := fp) (Q := Q) p hp hs hm hw (I p 10).toNat 0 [some (vr 29), some (vi 0), none] (by omega) (by omega) rfl rfl h1 h2
  rcases hp with rfl | rfl <;>
  · refine AW_run 80 rfl ?_
    exact lp
end SKR8
