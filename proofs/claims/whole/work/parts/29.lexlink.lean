/-! ===== both sides read the same tokens ===== -/
/-- the class's word in the model's numbering -/
def sk_wp (w : Int) : Int := if w = 13 then 14 else if w = 14 then 15 else if w = 15 then 13 else w
def sk_wpn (w : Nat) : Nat := if w = 13 then 14 else if w = 14 then 15 else if w = 15 then 13 else w
theorem sk_wp_n (w : Nat) : sk_wp w = (sk_wpn w : Nat) := by
  unfold sk_wp sk_wpn
  by_cases h1 : w = 13
  · subst h1; rfl
  · by_cases h2 : w = 14
    · subst h2; rfl
    · by_cases h3 : w = 15
      · subst h3; rfl
      · rw [if_neg (by omega), if_neg (by omega), if_neg (by omega), if_neg h1, if_neg h2, if_neg h3]
theorem sk_wtab : ∀ w, w < 16 → (1 ≤ sk_len.getD (1 + sk_wpn w) 0 ∧ sk_len.getD (1 + sk_wpn w) 0 ≤ 6 ∧ ∀ k, k < 6 → if k < sk_len.getD (1 + sk_wpn w) 0 then ((sk_byt.getD 0 []).getD (w * 6 + k) 0 = (sk_byt.getD (1 + sk_wpn w) []).getD k 0 ∧ (sk_byt.getD (1 + sk_wpn w) []).getD k 0 ≠ 32) else (sk_byt.getD 0 []).getD (w * 6 + k) 0 = 32) := by decide +kernel
theorem sk_wuni : ∀ v, v < 16 → ∀ w, w < 16 → v ≠ w → (sk_len.getD (1 + v) 0 ≠ sk_len.getD (1 + w) 0 ∨ ∃ k, k < 6 ∧ (k < sk_len.getD (1 + v) 0 ∧ (sk_byt.getD (1 + v) []).getD k 0 ≠ (sk_byt.getD (1 + w) []).getD k 0)) := by decide +kernel
theorem sk_isw_mw (t : Int → Int) (f e : Int) (hl : ∀ i, f ≤ i → i < e → 97 ≤ t i ∧ t i ≤ 122) (h0 : f ≤ e) (h6 : e - f ≤ 6) (w : Int) (hw : 0 ≤ w ∧ w < 16) : sk_isw t f e w ↔ sk_mw t f e (sk_wp w) := by
  obtain ⟨n, rfl⟩ := Int.eq_ofNat_of_zero_le hw.1
  have hn : n < 16 := by omega
  obtain ⟨l1, l2, tab⟩ := sk_wtab n hn
  rw [sk_wp_n]
  generalize hln : sk_len.getD (1 + sk_wpn n) 0 = len at l1 l2 tab
  have cA : ∀ k : Nat, k < 6 → k < len → sk_chr 0 ((n : Int) * 6 + k) = sk_chr (1 + sk_wpn n) k ∧ sk_chr (1 + sk_wpn n) k ≠ 32 := by
    intro k h1 h2
    have := tab k h1
    rw [if_pos h2] at this
    unfold sk_chr
    rw [show ((n : Int) * 6 + k).toNat = n * 6 + k by omega, Int.toNat_natCast, this.1]
    exact ⟨rfl, fun z => this.2 (Int32.toInt_inj.mp z)⟩
  have cB : ∀ k : Nat, k < 6 → ¬ k < len → sk_chr 0 ((n : Int) * 6 + k) = 32 := by
    intro k h1 h2
    have := tab k h1
    rw [if_neg h2] at this
    unfold sk_chr
    rw [show ((n : Int) * 6 + k).toNat = n * 6 + k by omega, this]
    rfl
  unfold sk_mw
  rw [Int.toNat_natCast, hln]
  constructor
  · intro h
    have hle : (len : Int) = e - f := by
      by_cases g : (len : Int) < e - f
      · have h1 := h len (by omega) (by omega)
        rw [cB len (by omega) (by omega), sk_pad, if_pos (by omega)] at h1
        have := hl (f + len) (by omega) (by omega)
        omega
      · by_cases g2 : e - f < len
        · have h1 := h (e - f) (by omega) (by omega)
          have h2 := cA (e - f).toNat (by omega) (by omega)
          rw [show (((e - f).toNat : Nat) : Int) = e - f by omega] at h2
          rw [sk_pad, if_neg (by omega)] at h1
          exact absurd (h2.1.symm.trans h1) h2.2
        · omega
    refine ⟨hle, fun k g1 g2 => ?_⟩
    have h1 := h k g1 (by omega)
    have h2 := cA k.toNat (by omega) (by omega)
    rw [show ((k.toNat : Nat) : Int) = k by omega] at h2
    rw [sk_pad, if_pos (by omega)] at h1
    rw [← h2.1, h1]
  · rintro ⟨hle, h⟩ k g1 g2
    by_cases g : k < len
    · have h2 := cA k.toNat (by omega) (by omega)
      rw [show ((k.toNat : Nat) : Int) = k by omega] at h2
      rw [sk_pad, if_pos (by omega), h2.1]
      exact h k g1 (by omega)
    · have h2 := cB k.toNat (by omega) (by omega)
      rw [show ((k.toNat : Nat) : Int) = k by omega] at h2
      rw [sk_pad, if_neg (by omega), h2]
theorem sk_mw_uni (t : Int → Int) (f e v w : Int) (hv : 0 ≤ v ∧ v < 16) (hw : 0 ≤ w ∧ w < 16) (h1 : sk_mw t f e v) (h2 : sk_mw t f e w) : v = w := by
  obtain ⟨a, rfl⟩ := Int.eq_ofNat_of_zero_le hv.1
  obtain ⟨b, rfl⟩ := Int.eq_ofNat_of_zero_le hw.1
  unfold sk_mw at h1 h2
  rw [Int.toNat_natCast] at h1 h2
  by_cases hab : a = b
  · rw [hab]
  · rcases sk_wuni a (by omega) b (by omega) hab with g | ⟨k, g1, g2, g3⟩
    · exact absurd (by omega) g
    · have e1 := h1.2 k (by omega) (by omega)
      have e2 := h2.2 k (by omega) (by omega)
      have e3 : sk_chr (1 + a) k = sk_chr (1 + b) k := e1.trans e2.symm
      unfold sk_chr at e3
      rw [Int.toNat_natCast] at e3
      exact absurd (Int32.toInt_inj.mp e3) g3
theorem sk_wp_b {w : Int} (h : 0 ≤ w ∧ w < 16) : 0 ≤ sk_wp w ∧ sk_wp w < 16 := by
  unfold sk_wp
  split
  · omega
  · split
    · omega
    · split <;> omega
/-- the class's token in the model's numbering -/
def sk_c2m (c : Int) : Int := if c < 16 then sk_wp c else if c = 16 then 21 else if c = 17 then 22 else if c = 18 then 23 else if c = 19 then 25 else if c = 20 then 24 else 20
theorem sk_word_rel (t : Int → Int) (f e : Int) (hl : ∀ i, f ≤ i → i < e → 97 ≤ t i ∧ t i ≤ 122) (h0 : f ≤ e) : sk_mfw t f e 16 0 = sk_c2m (sk_wt t f e) ∧ 0 ≤ sk_wt t f e ∧ sk_wt t f e ≤ 19 := by
  have none_ : (∀ v, 0 ≤ v → v < 16 → ¬ sk_mw t f e v) → sk_mfw t f e 16 0 = 25 := fun h => sk_mfw_0 t f e h0 16 0 (fun v a b => h v a (by omega))
  by_cases h6 : 6 < e - f
  · have : sk_wt t f e = 19 := by rw [sk_wt, if_pos h6]
    rw [this]
    refine ⟨none_ (fun v a b hm => ?_), by omega, by omega⟩
    obtain ⟨n, rfl⟩ := Int.eq_ofNat_of_zero_le a
    have hle := hm.1
    rw [Int.toNat_natCast] at hle
    have tb : ∀ n, n < 16 → sk_len.getD (1 + n) 0 ≤ 6 := by decide +kernel
    have := tb n (by omega)
    omega
  · have hwt : sk_wt t f e = sk_fw t f e 16 0 := by rw [sk_wt, if_neg h6]
    by_cases hx : ∃ w : Nat, w < 16 ∧ sk_isw t f e w
    · obtain ⟨w, ⟨hw1, hw2⟩, hmin⟩ := pk_least (fun w : Nat => w < 16 ∧ sk_isw t f e w) hx
      have efw : sk_fw t f e 16 0 = (w : Int) := sk_fw_1 t f e w hw2 16 0 (by omega) (by omega) (fun v a b hv => by
        obtain ⟨n, rfl⟩ := Int.eq_ofNat_of_zero_le a
        exact hmin n (by omega) ⟨by omega, hv⟩)
      have hmw := (sk_isw_mw t f e hl h0 (by omega) w ⟨by omega, by omega⟩).mp hw2
      have hb := sk_wp_b (w := w) ⟨by omega, by omega⟩
      rw [hwt, efw]
      refine ⟨?_, by omega, by omega⟩
      rw [sk_c2m, if_pos (by omega)]
      exact sk_mfw_1 t f e _ h0 hmw 16 0 hb.1 (by omega) (fun v a b hv => by
        have := sk_mw_uni t f e v (sk_wp w) ⟨a, by omega⟩ hb hv hmw
        omega)
    · have efw : sk_fw t f e 16 0 = 19 := sk_fw_0 t f e 16 0 (fun v a b hv => by
        obtain ⟨n, rfl⟩ := Int.eq_ofNat_of_zero_le a
        exact hx ⟨n, by omega, hv⟩)
      rw [hwt, efw]
      refine ⟨none_ (fun v a b hm => ?_), by omega, by omega⟩
      have inv : ∀ v : Int, 0 ≤ v → v < 16 → ∃ u : Int, 0 ≤ u ∧ u < 16 ∧ sk_wp u = v := by
        intro v a b
        by_cases e1 : v = 14
        · exact ⟨13, by omega, by omega, by rw [e1]; rfl⟩
        · by_cases e2 : v = 15
          · exact ⟨14, by omega, by omega, by rw [e2]; rfl⟩
          · by_cases e3 : v = 13
            · exact ⟨15, by omega, by omega, by rw [e3]; rfl⟩
            · exact ⟨v, a, b, by rw [sk_wp, if_neg e3, if_neg e1, if_neg e2]⟩
      obtain ⟨u, u1, u2, u3⟩ := inv v a b
      have := (sk_isw_mw t f e hl h0 (by omega) u ⟨u1, u2⟩).mpr (by rw [u3]; exact hm)
      obtain ⟨n, rfl⟩ := Int.eq_ofNat_of_zero_le u1
      exact hx ⟨n, by omega, this⟩
theorem sk_nm_b (t : Int → Int) (f : Int) (k : Nat) (hk : k ≤ 3) (hd : ∀ j : Nat, j < k → 48 ≤ t (f + j) ∧ t (f + j) ≤ 57) : 0 ≤ sk_nm t f k ∧ sk_nm t f k ≤ 999 := by
  match k, hk, hd with
  | 0, _, _ => exact ⟨Int.le_refl _, by show (0 : Int) ≤ 999; omega⟩
  | 1, _, hd =>
    have a := hd 0 (by omega)
    simp only [sk_nm]
    omega
  | 2, _, hd =>
    have a := hd 0 (by omega)
    have b := hd 1 (by omega)
    simp only [sk_nm]
    omega
  | 3, _, hd =>
    have a := hd 0 (by omega)
    have b := hd 1 (by omega)
    have c := hd 2 (by omega)
    simp only [sk_nm]
    omega
/-- the tokens at a place: the same for both -/
theorem sk_tk_rel (t : Int → Int) (n p old : Int) (hp : 0 ≤ p ∧ p < n) : sk_mtk t n p = sk_c2m (sk_tk t n p) ∧ 0 ≤ sk_tk t n p ∧ sk_tk t n p ≤ 1099 ∧ sk_tk t n p ≠ 20 ∧ (100 ≤ sk_tk t n p → sk_mnu t n p old = sk_tk t n p - 100) := by
  unfold sk_mtk sk_tk sk_mnu
  by_cases hl : sk_ltr t p = true
  · rw [if_pos hl, if_pos hl, if_pos hl]
    have hb := sk_end_b (sk_ltr t) (n := n) (i := p) (by omega)
    have := sk_word_rel t p (sk_end (sk_ltr t) n p) (fun i a b => by have := sk_end_in a b; simpa [sk_ltr] using this) hb.1
    exact ⟨this.1, this.2.1, by omega, by omega, fun h => by omega⟩
  · rw [if_neg hl, if_neg hl, if_neg hl]
    by_cases hd : sk_dgt t p = true
    · rw [if_pos hd, if_pos hd, if_pos hd]
      have hb := sk_end_b (sk_dgt t) (n := n) (i := p) (by omega)
      have hin : ∀ i, p ≤ i → i < sk_end (sk_dgt t) n p → 48 ≤ t i ∧ t i ≤ 57 := fun i a b => by have := sk_end_in a b; simpa [sk_dgt] using this
      generalize sk_end (sk_dgt t) n p = e at hb hin
      unfold sk_nt
      by_cases h3 : e - p ≤ 3
      · rw [if_pos h3, if_neg (by omega), if_pos h3]
        have := sk_nm_b t p (e - p).toNat (by omega) (fun j hj => hin _ (by omega) (by omega))
        refine ⟨?_, by omega, by omega, by omega, fun _ => by omega⟩
        rw [sk_c2m, if_neg (by omega), if_neg (by omega), if_neg (by omega), if_neg (by omega), if_neg (by omega), if_neg (by omega)]
      · rw [if_neg h3, if_pos (by omega)]
        exact ⟨rfl, by omega, by omega, by omega, fun h => by omega⟩
    · rw [if_neg hd, if_neg hd, if_neg hd]
      unfold sk_sgn
      by_cases h1 : t p = 123
      · rw [if_pos h1, if_pos h1]; exact ⟨rfl, by omega, by omega, by omega, fun h => by omega⟩
      · rw [if_neg h1, if_neg h1]
        by_cases h2 : t p = 125
        · rw [if_pos h2, if_pos h2]; exact ⟨rfl, by omega, by omega, by omega, fun h => by omega⟩
        · rw [if_neg h2, if_neg h2]
          by_cases h3 : t p = 59
          · rw [if_pos h3, if_pos h3]; exact ⟨rfl, by omega, by omega, by omega, fun h => by omega⟩
          · rw [if_neg h3, if_neg h3]; exact ⟨rfl, by omega, by omega, by omega, fun h => by omega⟩
