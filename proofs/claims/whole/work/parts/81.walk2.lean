/-! ===== the walk grows with its oracle; it depends on what it calls alone ===== -/
section SKW1
variable {p : Nat} {C : sk_SI} {G G' : sk_Or} {B B' : sk_Bl} {V V' : sk_Vi}
theorem sk_WS_mono (h : ∀ m T x, G m T x → G' m T x) (hB : ∀ T s x, B T s x → B' T s x) (T : sk_Tb) (s x : Int) : sk_WS p C G B T s x → sk_WS p C G' B' T s x := by
  unfold sk_WS
  intro hw
  by_cases e0 : C (p + 3) s = 0
  · rw [if_pos e0] at hw ⊢
    exact hw
  · rw [if_neg e0] at hw ⊢
    by_cases e1 : C (p + 3) s = 1
    · rw [if_pos e1] at hw ⊢
      rcases hw with z | z
      · exact Or.inl ⟨z.1, h _ _ _ z.2⟩
      · exact Or.inr ⟨z.1, z.2.elim (fun y => Or.inl (h _ _ _ y)) (fun y => Or.inr (h _ _ _ y))⟩
    · rw [if_neg e1] at hw ⊢
      by_cases e2 : C (p + 3) s = 2 ∨ C (p + 3) s = 3
      · rw [if_pos e2] at hw ⊢
        exact hB _ _ _ hw
      · rw [if_neg e2] at hw ⊢
        by_cases e7 : C (p + 3) s = 7
        · rw [if_pos e7] at hw ⊢
          rcases hw with z | z
          · exact Or.inl ⟨z.1, hB _ _ _ z.2⟩
          · exact Or.inr ⟨hB _ _ _ z.1, hB _ _ _ z.2⟩
        · rw [if_neg e7] at hw ⊢
          by_cases e8 : C (p + 3) s = 8
          · rw [if_pos e8] at hw ⊢
            by_cases e5 : C (p + 5) s = 0
            · rw [if_pos e5] at hw ⊢; exact hw
            · rw [if_neg e5] at hw ⊢; exact hB _ _ _ hw
          · rw [if_neg e8] at hw ⊢
            by_cases e10 : C (p + 3) s = 10
            · rw [if_pos e10] at hw ⊢
              by_cases er : sk_rT p C s T = -1
              · rw [if_pos er] at hw ⊢; exact hB _ _ _ hw
              · rw [if_neg er] at hw ⊢; exact hB _ _ _ hw
            · rw [if_neg e10] at hw ⊢
              by_cases e11 : C (p + 3) s = 11
              · rw [if_pos e11] at hw ⊢
                exact hw.elim (fun y => Or.inl (hB _ _ _ y)) (fun y => Or.inr (hB _ _ _ y))
              · rw [if_neg e11] at hw ⊢
                exact hw
theorem sk_WB_mono (h : ∀ m T x, G m T x → G' m T x) : ∀ (n : Nat) (T : sk_Tb) (s x : Int), sk_WB p C G n T s x → sk_WB p C G' n T s x
  | 0, _, _, _, hw => hw
  | n + 1, T, s, x, hw => by
    have ih := sk_WB_mono h n
    have is := sk_WS_mono (p := p) (C := C) h ih
    unfold sk_WB at hw ⊢
    by_cases h0 : s < 0
    · rw [if_pos h0] at hw ⊢; exact hw
    · rw [if_neg h0] at hw ⊢
      rcases hw with z | z
      · exact Or.inl ⟨z.1, is _ _ _ z.2⟩
      · exact Or.inr ⟨is _ _ _ z.1, ih _ _ _ z.2⟩
theorem sk_VS_mono (hB : ∀ T s x, B T s x → B' T s x) (hV : ∀ T s t T', V T s t T' → V' T s t T') (T : sk_Tb) (s t : Int) (T' : sk_Tb) : sk_VS p C B V T s t T' → sk_VS p C B' V' T s t T' := by
  unfold sk_VS
  intro hw
  by_cases e2 : C (p + 3) s = 2 ∨ C (p + 3) s = 3
  · rw [if_pos e2] at hw ⊢
    exact hV _ _ _ _ hw
  · rw [if_neg e2] at hw ⊢
    by_cases e7 : C (p + 3) s = 7
    · rw [if_pos e7] at hw ⊢
      rcases hw with z | z
      · exact Or.inl (hV _ _ _ _ z)
      · exact Or.inr ⟨hB _ _ _ z.1, hV _ _ _ _ z.2⟩
    · rw [if_neg e7] at hw ⊢
      by_cases e8 : C (p + 3) s = 8
      · rw [if_pos e8] at hw ⊢
        by_cases e5 : C (p + 5) s = 0
        · rw [if_pos e5] at hw ⊢; exact hw
        · rw [if_neg e5] at hw ⊢; exact hV _ _ _ _ hw
      · rw [if_neg e8] at hw ⊢
        by_cases e10 : C (p + 3) s = 10
        · rw [if_pos e10] at hw ⊢
          by_cases er : sk_rT p C s T = -1
          · rw [if_pos er] at hw ⊢; exact hV _ _ _ _ hw
          · rw [if_neg er] at hw ⊢; exact hV _ _ _ _ hw
        · rw [if_neg e10] at hw ⊢
          by_cases e11 : C (p + 3) s = 11
          · rw [if_pos e11] at hw ⊢
            exact hw.elim (fun y => Or.inl (hV _ _ _ _ y)) (fun y => Or.inr (hV _ _ _ _ y))
          · rw [if_neg e11] at hw ⊢
            exact hw
theorem sk_VB_mono (h : ∀ m T x, G m T x → G' m T x) : ∀ (n : Nat) (T : sk_Tb) (s t : Int) (T' : sk_Tb), sk_VB p C G n T s t T' → sk_VB p C G' n T s t T'
  | 0, _, _, _, _, hw => hw
  | n + 1, T, s, t, T', hw => by
    have ih := sk_VB_mono h n
    have ib := sk_WB_mono (p := p) (C := C) h n
    have is := sk_WS_mono (p := p) (C := C) h ib
    have iv := sk_VS_mono (p := p) (C := C) ib ih
    unfold sk_VB at hw ⊢
    by_cases h0 : s < 0
    · rw [if_pos h0] at hw; exact hw.elim
    · rw [if_neg h0] at hw ⊢
      rcases hw with z | z | z
      · exact Or.inl z
      · exact Or.inr (Or.inl (iv _ _ _ _ z))
      · exact Or.inr (Or.inr ⟨is _ _ _ z.1, ih _ _ _ _ z.2⟩)
/-- within a step -/
theorem sk_S_agr (T : sk_Tb) (s : Int) (hc : C (p + 3) s = 1 → ∀ x, G (C (p + 5) s) (sk_cT p C (C (p + 5) s) T) x ↔ G' (C (p + 5) s) (sk_cT p C (C (p + 5) s) T) x) (hi : ∀ T2 u, (u = C (p + 8) s ∨ u = C (p + 9) s) → (∀ t T', V T2 u t T' → sk_VS p C B V T s t T') → (∀ x, B T2 u x ↔ B' T2 u x) ∧ ∀ t T', V T2 u t T' ↔ V' T2 u t T') : (∀ x, sk_WS p C G B T s x ↔ sk_WS p C G' B' T s x) ∧ ∀ t T', sk_VS p C B V T s t T' ↔ sk_VS p C B' V' T s t T' := by
  unfold sk_WS
  unfold sk_VS at hi ⊢
  by_cases e2 : C (p + 3) s = 2 ∨ C (p + 3) s = 3
  · have n0 : ¬ C (p + 3) s = 0 := by omega
    have n1 : ¬ C (p + 3) s = 1 := by omega
    simp only [if_pos e2, if_neg n0, if_neg n1] at hi ⊢
    have i := hi (sk_bT p C s T) (C (p + 8) s) (Or.inl rfl) (fun t T' z => z)
    exact ⟨fun x => i.1 x, fun t T' => i.2 t T'⟩
  · by_cases e7 : C (p + 3) s = 7
    · have n0 : ¬ C (p + 3) s = 0 := by omega
      have n1 : ¬ C (p + 3) s = 1 := by omega
      simp only [if_neg e2, if_pos e7, if_neg n0, if_neg n1] at hi ⊢
      have i := hi T (C (p + 8) s) (Or.inl rfl) (fun t T' z => Or.inl z)
      by_cases hb : B T (C (p + 8) s) 2
      · have o := hi T (C (p + 9) s) (Or.inr rfl) (fun t T' z => Or.inr ⟨hb, z⟩)
        exact ⟨fun x => by rw [i.1 x, i.1 2, o.1 x], fun t T' => by rw [i.2 t T', i.1 2, o.2 t T']⟩
      · have hb' : ¬ B' T (C (p + 8) s) 2 := fun z => hb ((i.1 2).mpr z)
        refine ⟨fun x => ?_, fun t T' => ?_⟩
        · rw [i.1 x]
          exact ⟨fun z => z.elim Or.inl (fun y => absurd y.1 hb), fun z => z.elim Or.inl (fun y => absurd y.1 hb')⟩
        · rw [i.2 t T']
          exact ⟨fun z => z.elim Or.inl (fun y => absurd y.1 hb), fun z => z.elim Or.inl (fun y => absurd y.1 hb')⟩
    · by_cases e8 : C (p + 3) s = 8
      · have n0 : ¬ C (p + 3) s = 0 := by omega
        have n1 : ¬ C (p + 3) s = 1 := by omega
        simp only [if_neg e2, if_neg e7, if_pos e8, if_neg n0, if_neg n1] at hi ⊢
        by_cases e5 : C (p + 5) s = 0
        · simp only [if_pos e5]
          exact ⟨fun _ => trivial, fun _ _ => trivial⟩
        · simp only [if_neg e5] at hi ⊢
          have i := hi T (C (p + 8) s) (Or.inl rfl) (fun t T' z => z)
          exact ⟨fun x => i.1 x, fun t T' => i.2 t T'⟩
      · by_cases e10 : C (p + 3) s = 10
        · have n0 : ¬ C (p + 3) s = 0 := by omega
          have n1 : ¬ C (p + 3) s = 1 := by omega
          simp only [if_neg e2, if_neg e7, if_neg e8, if_pos e10, if_neg n0, if_neg n1] at hi ⊢
          by_cases er : sk_rT p C s T = -1
          · simp only [if_pos er] at hi ⊢
            have i := hi T (C (p + 8) s) (Or.inl rfl) (fun t T' z => z)
            exact ⟨fun x => i.1 x, fun t T' => i.2 t T'⟩
          · simp only [if_neg er] at hi ⊢
            have i := hi T (C (p + 9) s) (Or.inr rfl) (fun t T' z => z)
            exact ⟨fun x => i.1 x, fun t T' => i.2 t T'⟩
        · by_cases e11 : C (p + 3) s = 11
          · have n0 : ¬ C (p + 3) s = 0 := by omega
            have n1 : ¬ C (p + 3) s = 1 := by omega
            simp only [if_neg e2, if_neg e7, if_neg e8, if_neg e10, if_pos e11, if_neg n0, if_neg n1] at hi ⊢
            have i := hi T (C (p + 8) s) (Or.inl rfl) (fun t T' z => Or.inl z)
            have o := hi T (C (p + 9) s) (Or.inr rfl) (fun t T' z => Or.inr z)
            exact ⟨fun x => by rw [i.1 x, o.1 x], fun t T' => by rw [i.2 t T', o.2 t T']⟩
          · simp only [if_neg e2, if_neg e7, if_neg e8, if_neg e10, if_neg e11]
            refine ⟨fun x => ?_, fun _ _ => trivial⟩
            by_cases e1 : C (p + 3) s = 1
            · have n0 : ¬ C (p + 3) s = 0 := by omega
              have c := hc e1
              simp only [if_neg n0, if_pos e1]
              rw [c 1, c 2, c 4]
            · simp only [if_neg e1]
/-- oracles that agree on what is called show the same -/
theorem sk_B_agr : ∀ (n : Nat) (T : sk_Tb) (s : Int), (∀ t T', sk_VB p C G n T s t T' → C (p + 3) t = 1 → ∀ x, G (C (p + 5) t) (sk_cT p C (C (p + 5) t) T') x ↔ G' (C (p + 5) t) (sk_cT p C (C (p + 5) t) T') x) → (∀ x, sk_WB p C G n T s x ↔ sk_WB p C G' n T s x) ∧ ∀ t T', sk_VB p C G n T s t T' ↔ sk_VB p C G' n T s t T'
  | 0, _, _, _ => ⟨fun _ => Iff.rfl, fun _ _ => Iff.rfl⟩
  | n + 1, T, s, h => by
    unfold sk_VB at h
    by_cases h0 : s < 0
    · unfold sk_WB sk_VB
      simp only [if_pos h0]
      exact ⟨fun _ => trivial, fun _ _ => trivial⟩
    · simp only [if_neg h0] at h
      have st := sk_S_agr (p := p) (C := C) (G := G) (G' := G') (B := sk_WB p C G n) (B' := sk_WB p C G' n) (V := sk_VB p C G n) (V' := sk_VB p C G' n) T s (h s T (Or.inl ⟨rfl, rfl⟩)) (fun T2 u _ hsub => sk_B_agr n T2 u (fun t T' z => h t T' (Or.inr (Or.inl (hsub t T' z)))))
      unfold sk_WB sk_VB
      simp only [if_neg h0]
      by_cases h1 : sk_WS p C G (sk_WB p C G n) T s 1
      · have nx := sk_B_agr n T (C (p + 7) s) (fun t T' z => h t T' (Or.inr (Or.inr ⟨h1, z⟩)))
        exact ⟨fun x => by rw [st.1 x, st.1 1, nx.1 x], fun t T' => by rw [st.2 t T', st.1 1, nx.2 t T']⟩
      · have h1' : ¬ sk_WS p C G' (sk_WB p C G' n) T s 1 := fun z => h1 ((st.1 1).mpr z)
        refine ⟨fun x => ?_, fun t T' => ?_⟩
        · rw [st.1 x]
          exact ⟨fun z => z.elim Or.inl (fun y => absurd y.1 h1), fun z => z.elim Or.inl (fun y => absurd y.1 h1')⟩
        · rw [st.2 t T']
          exact ⟨fun z => z.elim Or.inl (fun y => y.elim (fun w => Or.inr (Or.inl w)) (fun w => absurd w.1 h1)), fun z => z.elim Or.inl (fun y => y.elim (fun w => Or.inr (Or.inl w)) (fun w => absurd w.1 h1'))⟩
end SKW1
