/-! ===== enough fuel is enough; what is closed ===== -/
def sk_fue (n : Nat) (s : Int) : Prop := 1 ≤ n ∧ (0 ≤ s → 201 ≤ n + s)
section SKW2
variable {p : Nat} {C : sk_SI} {D : Int → Int} {G : sk_Or}
theorem sk_WB_fu (hv : sk_pv p D C) : ∀ (n n' : Nat) (T : sk_Tb) (s : Int), (s = -1 ∨ (0 ≤ s ∧ s < C p 10)) → sk_fue n s → sk_fue n' s → (∀ x, sk_WB p C G n T s x ↔ sk_WB p C G n' T s x) ∧ ∀ t T', sk_VB p C G n T s t T' ↔ sk_VB p C G n' T s t T'
  | 0, _, _, _, _, h, _ => absurd h.1 (by omega)
  | _ + 1, 0, _, _, _, _, h => absurd h.1 (by omega)
  | n + 1, n' + 1, T, s, hs, e1, e2 => by
    by_cases h0 : s < 0
    · unfold sk_WB sk_VB
      simp only [if_pos h0]
      exact ⟨fun _ => trivial, fun _ _ => trivial⟩
    · have hs : 0 ≤ s ∧ s < C p 10 := by omega
      have v10 := hv.2.1
      obtain ⟨w1, w2, w3, w4, w5, w6, w7, -⟩ := hv.2.2.1 s hs.1 hs.2
      have f1 := e1.2 hs.1
      have f2 := e2.2 hs.1
      clear e1 e2 w1 w2 w3 w4
      have go : ∀ u, (u = -1 ∨ (s < u ∧ u < C p 10)) → (u = -1 ∨ (0 ≤ u ∧ u < C p 10)) ∧ sk_fue n u ∧ sk_fue n' u := by
        intro u hu
        unfold sk_fue
        refine ⟨by omega, ⟨by omega, fun _ => by omega⟩, by omega, fun _ => by omega⟩
      have gi := go (C (p + 8) s) (by rcases w6 with z | z; exact Or.inl z; exact Or.inr ⟨z.1, z.2.1⟩)
      have go9 := go (C (p + 9) s) (by rcases w7 with z | z; exact Or.inl z; exact Or.inr ⟨z.1, z.2.1⟩)
      have gn := go (C (p + 7) s) (by rcases w5 with z | z; exact Or.inl z; exact Or.inr ⟨z.1, z.2.1⟩)
      have ih := sk_WB_fu hv n n'
      have st := sk_S_agr (p := p) (C := C) (G := G) (G' := G) (B := sk_WB p C G n) (B' := sk_WB p C G n') (V := sk_VB p C G n) (V' := sk_VB p C G n') T s (fun _ _ => Iff.rfl) (fun T2 u hu _ => by
        rcases hu with rfl | rfl
        · exact ih T2 _ gi.1 gi.2.1 gi.2.2
        · exact ih T2 _ go9.1 go9.2.1 go9.2.2)
      have nx := ih T (C (p + 7) s) gn.1 gn.2.1 gn.2.2
      unfold sk_WB sk_VB
      simp only [if_neg h0]
      exact ⟨fun x => by rw [st.1 x, st.1 1, nx.1 x], fun t T' => by rw [st.2 t T', st.1 1, nx.2 t T']⟩
/-- what is shown by an oracle is within it -/
def sk_clo (p : Nat) (C : sk_SI) (rm : Int) (rT : sk_Tb) (A : Int → sk_Tb → Prop) (G : sk_Or) (P O : Int → Prop) : Prop := A rm rT ∧ ∀ m T, A m T → (∀ x, x = 1 ∨ x = 2 ∨ x = 4 → sk_WB p C G 300 T (C (p + 2) m) x → G m T x) ∧ ∀ t T', sk_VB p C G 300 T (C (p + 2) m) t T' → P t ∧ (C (p + 3) t = 0 → sk_rT p C t T' ≠ -1 → O t) ∧ (C (p + 3) t = 1 → A (C (p + 5) t) (sk_cT p C (C (p + 5) t) T'))
end SKW2
