/-! ===== a pair comes, or is one too many ===== -/
section SKF9
variable {p : Nat} {C : sk_SI} {rm wk dp m : Int} {rT B : sk_Tb} {Go : sk_Or} {I : sk_SI} {L : sk_SL} {TT : Int → sk_Tb}
theorem sf_tm_of (hO : sf_od I TT) (hn : I 48 12 = 300) (hw : sf_wi p C rm rT I TT) (hno : ∀ q, 0 ≤ q → q < I 48 12 → ¬ (I 49 q = m ∧ TT q = B)) (hx : ∀ A G P O, sk_clo p C rm rT A G P O → A m B) : sf_tm p C rm rT := by
  intro A G P O hc e he
  have hin := hw A G P O hc
  have ex : ∀ i : Nat, ∃ k : Nat, i ≤ 300 → k < 300 ∧ e k = (if i < 300 then (I 49 i, TT i) else (m, B)) := by
    intro i
    by_cases g : i < 300
    · obtain ⟨k, k0, k1, k2⟩ := he _ _ (hin.1 i (by omega) (by omega)).1
      refine ⟨k.toNat, fun _ => ⟨by omega, ?_⟩⟩
      rw [if_pos g, show ((k.toNat : Nat) : Int) = k by omega, k2]
    · obtain ⟨k, k0, k1, k2⟩ := he _ _ (hx A G P O hc)
      refine ⟨k.toNat, fun _ => ⟨by omega, ?_⟩⟩
      rw [if_neg g, show ((k.toNat : Nat) : Int) = k by omega, k2]
  obtain ⟨f, hf⟩ := Classical.axiomOfChoice ex
  refine sf_pig 300 f (fun i hi => (hf i hi).1) (fun i j hi hj hij => ?_)
  have a := (hf i hi).2
  have b := (hf j hj).2
  rw [hij, b] at a
  by_cases gi : i < 300
  · by_cases gj : j < 300
    · rw [if_pos gi, if_pos gj] at a
      have a1 := congrArg Prod.fst a
      have a2 := congrArg Prod.snd a
      dsimp only at a1 a2
      have := sf_dis hO (q := j) (q' := i) ⟨by omega, by omega⟩ ⟨by omega, by omega⟩ a1 a2
      omega
    · rw [if_pos gi, if_neg gj] at a
      have a1 := congrArg Prod.fst a
      have a2 := congrArg Prod.snd a
      dsimp only at a1 a2
      exact absurd ⟨a1.symm, a2.symm⟩ (hno i (by omega) (by omega))
  · by_cases gj : j < 300
    · rw [if_neg gi, if_pos gj] at a
      have a1 := congrArg Prod.fst a
      have a2 := congrArg Prod.snd a
      dsimp only at a1 a2
      exact absurd ⟨a1, a2⟩ (hno j (by omega) (by omega))
    · omega
theorem sf_iv_14 (hp : sk_pg p) (h : sf_iv p C rm rT Go wk I L TT) (hn : I 48 12 = 300) (hno : ∀ q, 0 ≤ q → q < I 48 12 → ¬ (I 49 q = m ∧ TT q = B)) (hx : I 48 14 = 0 → ∀ A G P O, sk_clo p C rm rT A G P O → A m B) : sf_iv p C rm rT Go wk (sk_uI I 48 14 1) L TT ∧ sf_gr dp I L TT (sk_uI I 48 14 1) L TT ∧ sk_uI I 48 14 1 48 14 = 1 := by
  obtain ⟨h1, ⟨⟨h2, h2'⟩, h3, h4, h5⟩, h6, h7, h8, h9⟩ := h
  have ep : sk_uI I 48 14 1 p = I p := sk_uI_o (by rcases hp with rfl | rfl <;> decide)
  have e12 : sk_uI I 48 14 1 48 12 = I 48 12 := by rw [sk_uI_s, sk_up_o (by decide)]
  have e13 : sk_uI I 48 14 1 48 13 = I 48 13 := by rw [sk_uI_s, sk_up_o (by decide)]
  have e14 : sk_uI I 48 14 1 48 14 = 1 := by rw [sk_uI_s, sk_up_s]
  have e49 : sk_uI I 48 14 1 49 = I 49 := sk_uI_o (by decide)
  have e51 : sk_uI I 48 14 1 51 = I 51 := sk_uI_o (by decide)
  have e52 : sk_uI I 48 14 1 52 = I 52 := sk_uI_o (by decide)
  have e54 : sk_uI I 48 14 1 54 = I 54 := sk_uI_o (by decide)
  have e55 : sk_uI I 48 14 1 55 = I 55 := sk_uI_o (by decide)
  have e57 : sk_uI I 48 14 1 57 = I 57 := sk_uI_o (by decide)
  have e58 : sk_uI I 48 14 1 58 = I 58 := sk_uI_o (by decide)
  have tm : sf_tm p C rm rT := by
    rcases h7 with z | z
    · exact sf_tm_of h3 hn (h8 z).2 hno (hx z)
    · exact h9 z
  refine ⟨⟨fun c a b c' d e f g i => ?_, ⟨⟨?_, ?_⟩, ?_, ?_, ?_⟩, ?_, ?_, ?_, fun _ => tm⟩, ⟨?_, ?_, ?_, ?_, ?_, fun _ _ => rfl⟩, e14⟩
  · rw [sk_uI_o a]
    exact h1 c a b c' d e f g i
  · rw [e12]; exact h2
  · rw [e12, ep, e49, e51, e52]; exact h2'
  · unfold sf_od; rw [e12, e49, e54]; exact h3
  · unfold sf_ct; rw [e12, e49, e55]; exact h4
  · unfold sf_zo; rw [e57, e58]; exact h5
  · rw [e12, e13]; exact h6
  · exact Or.inr e14
  · intro z; omega
  · rw [e12]; exact Int.le_refl _
  · rw [e49, e51, e52]
    exact fun _ _ _ => ⟨rfl, rfl, rfl, rfl, fun _ _ z => z⟩
  · rw [e12]
    intro q a b
    omega
  · rw [e57, e58]
    exact fun _ => ⟨id, id⟩
  · exact fun _ => e14
theorem sf_iv_ins (hp : sk_pg p) (h : sf_iv p C rm rT Go wk I L TT) {pl : Int} (hn : I 48 12 < 300) (hno : ∀ q, 0 ≤ q → q < I 48 12 → ¬ (I 49 q = m ∧ TT q = B)) (hx : I 48 14 = 0 → ∀ A G P O, sk_clo p C rm rT A G P O → A m B) (hpl : 0 ≤ pl ∧ pl ≤ I 48 12) (h1' : ∀ i, 0 ≤ i → i < pl → sk_ah (I 49 (I 54 i)) (TT (I 54 i)) m B) (h2' : ∀ i, pl ≤ i → i < I 48 12 → ¬ sk_ah (I 49 (I 54 i)) (TT (I 54 i)) m B) (hm : 0 ≤ m ∧ m < I p 9) (hB8 : sk_t8 B) (hB : sf_cn B) (hL : sk_ht (L 56) ((dp + 1) * 8) B) : sf_iv p C rm rT Go wk (sf_iI m pl I) (sf_iL (dp + 1) (I 48 12) L) (sf_nT TT (I 48 12) B) ∧ sf_gr dp I L TT (sf_iI m pl I) (sf_iL (dp + 1) (I 48 12) L) (sf_nT TT (I 48 12) B) ∧ sf_iI m pl I 49 (I 48 12) = m ∧ sf_nT TT (I 48 12) B (I 48 12) = B ∧ sf_iI m pl I 48 12 = I 48 12 + 1 := by
  obtain ⟨h1, ⟨h2, h3, h4, h5⟩, h6, h7, h8, h9⟩ := h
  have n0 := h2.1
  have e12 := sf_iI_48 m pl I
  have e13 := sf_iI_48o m pl I (j := 13) (by decide)
  have e14 := sf_iI_48o m pl I (j := 14) (by decide)
  have e57 : sf_iI m pl I 57 = I 57 := sf_iI_o m pl I (by decide)
  have e58 : sf_iI m pl I 58 = I 58 := sf_iI_o m pl I (by decide)
  have eo : ∀ q, q < I 48 12 → sf_iI m pl I 49 q = I 49 q ∧ sf_iI m pl I 51 q = I 51 q ∧ sf_iI m pl I 52 q = I 52 q ∧ sf_nT TT (I 48 12) B q = TT q := fun q hq => ⟨by rw [sf_iI_49, sk_up_o (by omega)], by rw [sf_iI_51, sk_up_o (by omega)], by rw [sf_iI_52, sk_up_o (by omega)], sf_nT_o (by omega)⟩
  have en : sf_iI m pl I 49 (I 48 12) = m ∧ sf_iI m pl I 51 (I 48 12) = 0 ∧ sf_iI m pl I 52 (I 48 12) = 1 ∧ sf_nT TT (I 48 12) B (I 48 12) = B := ⟨by rw [sf_iI_49, sk_up_s], by rw [sf_iI_51, sk_up_s], by rw [sf_iI_52, sk_up_s], sf_nT_s⟩
  refine ⟨⟨fun c a b c' d e f g i => ?_, ⟨sf_ins_pr hp h2 hn hm hB8 hB hL, sf_ins_od h2 h3 hpl hB h1' h2' hno, sf_ins_ct n0.1 h4, ?_⟩, ?_, ?_, fun z => ?_, ?_⟩, ⟨?_, fun q q0 q1 => ?_, fun q q0 q1 => ?_, ?_, ?_, fun i hi => ?_⟩, en.1, en.2.2.2, e12⟩
  · rw [sf_iI_o m pl I ⟨a, b, c', d, e, f⟩]
    exact h1 c a b c' d e f g i
  · unfold sf_zo; rw [e57, e58]; exact h5
  · rw [e12, e13]
    refine ⟨h6.1, h6.2.1, ?_⟩
    have := h6.2.2
    omega
  · rw [e14]; exact h7
  · rw [e14] at z
    obtain ⟨g1, g2⟩ := h8 z
    refine ⟨fun m' T' x => ?_, fun A G P O hc => ⟨fun q q0 q1 => ?_, ?_⟩⟩
    · rw [g1 m' T' x, e12]
      constructor
      · rintro ⟨q, q0, q1, q2, q3, q4⟩
        obtain ⟨y1, y2, y3, y4⟩ := eo q q1
        exact ⟨q, q0, by omega, by rw [y1, q2], by rw [y4, q3], by rw [y2]; exact q4⟩
      · rintro ⟨q, q0, q1, q2, q3, q4⟩
        by_cases e : q = I 48 12
        · rw [e, en.2.1, sf_b_0] at q4
          exact q4.elim
        · obtain ⟨y1, y2, y3, y4⟩ := eo q (by omega)
          exact ⟨q, q0, by omega, by rw [← y1, q2], by rw [← y4, q3], by rw [← y2]; exact q4⟩
    · by_cases e : q = I 48 12
      · rw [e, en.1, en.2.1, en.2.2.2]
        exact ⟨hx z A G P O hc, fun x hb => ((sf_b_0 x).mp hb).elim⟩
      · rw [e12] at q1
        obtain ⟨y1, y2, y3, y4⟩ := eo q (by omega)
        rw [y1, y2, y4]
        exact (g2 A G P O hc).1 q q0 (by omega)
    · rw [e57, e58]
      exact (g2 A G P O hc).2
  · rw [e14]; exact h9
  · rw [e12]; omega
  · obtain ⟨y1, y2, y3, y4⟩ := eo q q1
    refine ⟨y1, y4, y2, y3, fun a ha z => ?_⟩
    unfold sf_cb sf_iL at *
    rw [sf_fL_s, if_neg (by omega)]
    exact z
  · rw [e12] at q1
    have : q = I 48 12 := by omega
    rw [this]
    exact ⟨en.2.1, en.2.2.1⟩
  · rw [e57, e58]
    exact fun _ => ⟨id, id⟩
  · rw [e14]; exact id
  · unfold sf_iL
    rw [sf_fL_o (by decide)]
    rfl
/-- what is known of the callee, in bits -/
theorem sf_go_q (h : sf_go Go I TT) (hO : sf_od I TT) {q : Int} (hq : 0 ≤ q ∧ q < I 48 12) (h1 : I 49 q = m) (h2 : TT q = B) (x : Int) : Go m B x ↔ sf_b (I 51 q) x := by
  rw [h m B x]
  constructor
  · rintro ⟨q', a, b, c, d, e⟩
    have := sf_dis hO ⟨a, b⟩ hq (by rw [c, h1]) (by rw [d, h2])
    rw [← this]
    exact e
  · intro z
    exact ⟨q, hq.1, hq.2, h1, h2, z⟩
end SKF9
