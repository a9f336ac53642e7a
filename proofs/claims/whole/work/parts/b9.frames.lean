/-! ===== what a run leaves alone; shifts; SealKeeper.ahead ===== -/
def sr_f (I I' : sk_SI) : Prop := (∀ c, ¬ (c = 5 ∨ c = 6 ∨ (34 ≤ c ∧ c ≤ 47)) → I' c = I c) ∧ I' 34 8 = I 34 8
section SKJ1
variable {p : Nat} {I0 I : sk_SI}
theorem sr_rf (I : sk_SI) : sr_f I I := ⟨fun _ _ => rfl, rfl⟩
theorem sr_u (h : sr_f I0 I) (c : Nat) (j v : Int) (hc : c = 5 ∨ c = 6 ∨ (34 ≤ c ∧ c ≤ 47)) (hj : c = 34 → j ≠ 8) : sr_f I0 (sk_uI I c j v) := by
  refine ⟨fun k hk => ?_, ?_⟩
  · have ne : k ≠ c := fun e => hk (by rw [e]; exact hc)
    rw [sk_uI_o ne]
    exact h.1 k hk
  · by_cases e : 34 = c
    · subst e
      rw [sk_uI_s, sk_up_o (fun z => hj rfl z.symm)]
      exact h.2
    · rw [sk_uI_o e]
      exact h.2
theorem sr_fpu (h : sr_f I0 I) (r o n s : Int) : sr_f I0 (sk_fpu r o n s I) := by
  unfold sk_fpu
  exact sr_u (sr_u (sr_u (sr_u (sr_u (sr_u h 36 _ _ (by omega) (by omega)) 37 _ _ (by omega) (by omega)) 38 _ _ (by omega) (by omega)) 39 _ _ (by omega) (by omega)) 40 _ _ (by omega) (by omega)) 35 _ _ (by omega) (by omega)
theorem sr_ent (h : sr_f I0 I) (e b : Int) : sr_f I0 (sk_ent e b I) := by
  unfold sk_ent
  exact sr_u (sr_u (sr_u h 46 _ _ (by omega) (by omega)) 47 _ _ (by omega) (by omega)) 45 _ _ (by omega) (by omega)
theorem sr_nte (h : sr_f I0 I) (v : Int) : sr_f I0 (sk_nte v I) := by
  unfold sk_nte
  exact sr_u (sr_u h 6 _ _ (by omega) (by omega)) 5 _ _ (by omega) (by omega)
theorem sr_bmp (h : sr_f I0 I) (j : Int) : sr_f I0 (sk_bmp j I) := by
  unfold sk_bmp
  exact sr_u h 44 _ _ (by omega) (by omega)
theorem sr_cl (h : sr_f I0 I) : sr_f I0 (sk_clI I) := by
  unfold sk_clI sk_cl0
  refine sr_u ?_ 35 _ _ (by omega) (by omega)
  split
  · exact sr_u h 34 _ _ (by omega) (by omega)
  · exact h
theorem sr_om (h : sr_f I0 I) (m st : Int) : sr_f I0 (sk_omI p m st I) := by
  unfold sk_omI sk_om1
  split
  · exact sr_u h 34 _ _ (by omega) (by omega)
  · exact sr_fpu (sr_ent (sr_u (sr_u h 34 _ _ (by omega) (by omega)) 44 _ _ (by omega) (by omega)) _ _) _ _ _ _
theorem sr_po (h : sr_f I0 I) (m b : Int) : sr_f I0 (sk_poI m b I) := by
  unfold sk_poI
  split
  · exact sr_u (sr_u (sr_u h 42 _ _ (by omega) (by omega)) 43 _ _ (by omega) (by omega)) 34 _ _ (by omega) (by omega)
  · exact sr_u h 34 _ _ (by omega) (by omega)
theorem sr_bj (h : sr_f I0 I) : sr_f I0 (sk_bjI p I) := by
  unfold sk_bjI
  split
  · exact sr_om (sr_u (sr_bmp h 1) 34 _ _ (by omega) (by omega)) _ _
  · exact sr_u h 34 _ _ (by omega) (by omega)
theorem sr_eb (h : sr_f I0 I) : sr_f I0 (sk_ebI p I) := by
  unfold sk_ebI
  split
  · exact sr_u (sr_u h 40 _ _ (by omega) (by omega)) 38 _ _ (by omega) (by omega)
  · exact sr_cl h
theorem sr_flL : ∀ (n : Nat) (I : sk_SI), sr_f I0 I → sr_f I0 (sk_flL p n I)
  | 0, _, h => sr_bmp h 3
  | n + 1, I, h => by
    unfold sk_flL
    split
    · exact sr_bmp h 3
    · split
      · exact sr_fpu (sr_cl h) _ _ _ _
      · exact sr_flL n _ (sr_cl h)
theorem sr_gbL : ∀ (n : Nat) (I : sk_SI), sr_f I0 I → sr_f I0 (sk_gbL n I)
  | 0, _, h => h
  | n + 1, I, h => by
    unfold sk_gbL
    split
    · exact h
    · exact sr_gbL n _ (sr_cl h)
theorem sr_fl (h : sr_f I0 I) (s o : Int) : sr_f I0 (sk_flI p s o I) := sr_flL 480 _ (sr_bmp (sr_nte h _) 2)
theorem sr_gb (h : sr_f I0 I) : sr_f I0 (sk_gbI I) := sr_cl (sr_gbL 480 _ h)
theorem sr_ds (h : sr_f I0 I) (s num st : Int) : sr_f I0 (sk_dsI p s num st I) := by
  unfold sk_dsI
  generalize sk_rf p (sk_bmp 7 I) (I (p + 5) s) (I (p + 6) s) 3021 st = r
  by_cases e0 : I (p + 3) s = 0
  · rw [if_pos e0]
    by_cases er : r = -1
    · rw [if_pos er]; exact sr_bmp h 7
    · rw [if_neg er]; exact sr_fl (sr_bmp h 7) _ _
  rw [if_neg e0]
  by_cases e1 : I (p + 3) s = 1
  · rw [if_pos e1]; exact sr_om h _ _
  rw [if_neg e1]
  by_cases e2 : I (p + 3) s = 2 ∨ I (p + 3) s = 3
  · rw [if_pos e2]; exact sr_fpu (sr_ent h _ _) _ _ _ _
  rw [if_neg e2]
  by_cases e4 : I (p + 3) s = 4
  · rw [if_pos e4]; exact sr_u h 41 _ _ (by omega) (by omega)
  rw [if_neg e4]
  by_cases e5 : I (p + 3) s = 5
  · rw [if_pos e5]
    by_cases er : I 41 num = -1
    · rw [if_pos er]; exact sr_fl h _ _
    · rw [if_neg er]; exact sr_fpu (sr_ent h _ _) _ _ _ _
  rw [if_neg e5]
  by_cases e6 : I (p + 3) s = 6
  · rw [if_pos e6]; exact sr_po h _ _
  rw [if_neg e6]
  by_cases e7 : I (p + 3) s = 7
  · rw [if_pos e7]; exact sr_fpu h _ _ _ _
  rw [if_neg e7]
  by_cases e8 : I (p + 3) s = 8
  · rw [if_pos e8]
    by_cases er : 0 < num ∧ I (p + 8) s ≠ -1
    · rw [if_pos er]; exact sr_u (sr_fpu h _ _ _ _) 40 _ _ (by omega) (by omega)
    · rw [if_neg er]; exact h
  rw [if_neg e8]
  by_cases e9 : I (p + 3) s = 9
  · rw [if_pos e9]; exact sr_nte h _
  rw [if_neg e9]
  by_cases e10 : I (p + 3) s = 10
  · rw [if_pos e10]; exact sr_fpu (sr_bmp h 7) _ _ _ _
  rw [if_neg e10]
  by_cases e11 : I (p + 3) s = 11
  · rw [if_pos e11]
    refine sr_fpu ?_ _ _ _ _
    by_cases er : sk_bit I = -1
    · rw [if_pos er]; exact h
    · rw [if_neg er]; exact sr_bmp h 5
  rw [if_neg e11]
  exact sr_gb h
theorem sr_bt (h : sr_f I0 I) (s : Int) : sr_f I0 (sk_btI p s I) := by
  unfold sk_btI
  split
  · exact sr_u h 34 _ _ (by omega) (by omega)
  · exact sr_ds (sr_u (sr_bmp h 0) 38 _ _ (by omega) (by omega)) _ _ _
theorem sr_xs (h : sr_f I0 I) : sr_f I0 (sk_xsI p I) := by
  unfold sk_xsI
  split
  · exact sr_bj h
  · split
    · exact sr_bt h _
    · exact sr_eb h
theorem sr_it : ∀ (n : Nat) (I : sk_SI), sr_f I0 I → sr_f I0 (sk_it p n I)
  | 0, _, h => h
  | n + 1, I, h => by
    unfold sk_it
    split
    · exact sr_it n _ (sr_xs h)
    · exact h
theorem sr_rn (m tu : Int) (I : sk_SI) : (∀ c, ¬ (c = 5 ∨ c = 6 ∨ (34 ≤ c ∧ c ≤ 47)) → sk_rn p m tu I c = I c) ∧ sk_rn p m tu I 34 8 = 1 := by
  have h : sr_f (sk_bg tu I) (sk_rn p m tu I) := sr_it 13051 _ (sr_po (sr_rf _) _ _)
  refine ⟨fun c hc => ?_, ?_⟩
  · rw [h.1 c hc]
    exact sk_bg_o tu I c (by omega)
  · rw [h.2]
    exact (sk_bg_34 tu I).2.2.2.1
theorem sr_rn5 (hp : sk_pg p) {D : Int → Int} (h : sk_rp p D I) (m tu : Int) (hm : 0 ≤ m ∧ m < I p 9) (ht : 0 ≤ tu ∧ tu ≤ 3000) : 0 ≤ sk_rn p m tu I 5 1 ∧ sk_rn p m tu I 5 1 ≤ 3000 := by
  obtain ⟨x1, x2⟩ := sk_XE_bg hp h m tu hm ht
  obtain ⟨-, ⟨lv, mc, hX⟩, -⟩ := sk_it_end hp 13050 _ x1 (sk_ph_0 x1).2
  have hX : sk_XV p D lv mc 0 0 (sk_rn p m tu I) := hX
  have a := hX.2.2.2.2.2.2.2.2.2.2.1
  have b := hX.2.2.2.2.2.2.1
  have c := hX.1.2.2.2.2
  omega
/-- what was read is a program -/
theorem sr_am {X : sk_SI} : ∀ (n : Nat) (s : Int), sk_amI p X n s = none → ∀ t, s ≤ t → t < s + n → (X (p + 3) t = 1 ∨ X (p + 3) t = 6) → X (p + 5) t < X p 9
  | 0, s, _, t, a, b, _ => by omega
  | n + 1, s, h, t, a, b, w => by
    unfold sk_amI at h
    by_cases g : (X (p + 3) s = 1 ∨ X (p + 3) s = 6) ∧ X p 9 ≤ X (p + 5) s
    · rw [if_pos g] at h
      cases h
    · rw [if_neg g] at h
      by_cases e : t = s
      · subst e
        apply Classical.byContradiction
        intro z
        exact g ⟨w, by omega⟩
      · exact sr_am n (s + 1) h t (by omega) (by omega) w
theorem sr_pv {X : sk_SI} {D : Int → Int} (h : sk_wf p X D) (h1 : 1 ≤ X p 9) (ha : sk_amI p X (X p 10).toNat 0 = none) : sk_pv p D X := by
  obtain ⟨i, -, wl, wm⟩ := h
  have i10 := i.2.2.2.1
  have i9 := i.2.2.2.2.1
  exact ⟨⟨h1, i9.2⟩, i10, wl, wm, fun s a b w => sr_am _ 0 ha s a (by omega) w⟩
end SKJ1
/-! shifts -/
theorem sr_us (x : Int) (s : Nat) (hs : s < 32) : (Int32.ofInt (sk_ushr x (s : Int))).toBitVec = (Int32.ofInt x).toBitVec >>> s := by
  rw [sk_ushr_of]
  rcases (show s = 0 ∨ s = 1 ∨ s = 2 ∨ s = 3 ∨ s = 4 ∨ s = 5 ∨ s = 6 ∨ s = 7 ∨ s = 8 ∨ s = 9 ∨ s = 10 ∨ s = 11 ∨ s = 12 ∨ s = 13 ∨ s = 14 ∨ s = 15 ∨ s = 16 ∨ s = 17 ∨ s = 18 ∨ s = 19 ∨ s = 20 ∨ s = 21 ∨ s = 22 ∨ s = 23 ∨ s = 24 ∨ s = 25 ∨ s = 26 ∨ s = 27 ∨ s = 28 ∨ s = 29 ∨ s = 30 ∨ s = 31 by omega) with rfl | rfl | rfl | rfl | rfl | rfl | rfl | rfl | rfl | rfl | rfl | rfl | rfl | rfl | rfl | rfl | rfl | rfl | rfl | rfl | rfl | rfl | rfl | rfl | rfl | rfl | rfl | rfl | rfl | rfl | rfl | rfl <;> rfl
theorem sr_ss (x : Int) (s : Nat) (hs : s < 32) : (Int32.ofInt (sk_shr x (s : Int))).toBitVec = (Int32.ofInt x).toBitVec.sshiftRight s := by
  rw [sk_shr_of]
  rcases (show s = 0 ∨ s = 1 ∨ s = 2 ∨ s = 3 ∨ s = 4 ∨ s = 5 ∨ s = 6 ∨ s = 7 ∨ s = 8 ∨ s = 9 ∨ s = 10 ∨ s = 11 ∨ s = 12 ∨ s = 13 ∨ s = 14 ∨ s = 15 ∨ s = 16 ∨ s = 17 ∨ s = 18 ∨ s = 19 ∨ s = 20 ∨ s = 21 ∨ s = 22 ∨ s = 23 ∨ s = 24 ∨ s = 25 ∨ s = 26 ∨ s = 27 ∨ s = 28 ∨ s = 29 ∨ s = 30 ∨ s = 31 by omega) with rfl | rfl | rfl | rfl | rfl | rfl | rfl | rfl | rfl | rfl | rfl | rfl | rfl | rfl | rfl | rfl | rfl | rfl | rfl | rfl | rfl | rfl | rfl | rfl | rfl | rfl | rfl | rfl | rfl | rfl | rfl | rfl <;> rfl
theorem sr_mask : (∀ i, i < 32 → (Int32.ofInt 255).toBitVec.getLsbD i = decide (i < 8)) ∧ ∀ i, i < 32 → (Int32.ofInt 1).toBitVec.getLsbD i = decide (i < 1) := by decide +kernel
theorem sr_and {x y : Int} {k : Nat} {m : Int} (hm : ∀ i, i < 32 → (Int32.ofInt m).toBitVec.getLsbD i = decide (i < k)) (h : ∀ i, i < k → i < 32 → (Int32.ofInt x).toBitVec.getLsbD i = (Int32.ofInt y).toBitVec.getLsbD i) : sk_and x m = sk_and y m := by
  unfold sk_and
  have e : Int32.ofInt x &&& Int32.ofInt m = Int32.ofInt y &&& Int32.ofInt m := by
    apply Int32.toBitVec_inj.mp
    apply BitVec.eq_of_getLsbD_eq
    intro i hi
    rw [Int32.toBitVec_and, Int32.toBitVec_and, BitVec.getLsbD_and, BitVec.getLsbD_and, hm i hi]
    by_cases g : i < k
    · rw [h i g hi]
    · simp [g]
  rw [e]
theorem sr_byte (x : Int) (s : Nat) (hs : s ≤ 24) : sk_and (sk_ushr x (s : Int)) 255 = sk_and (sk_shr x (s : Int)) 255 := by
  refine sr_and sr_mask.1 (fun i a b => ?_)
  rw [sr_us x s (by omega), sr_ss x s (by omega), BitVec.getLsbD_ushiftRight, BitVec.getLsbD_sshiftRight]
  have : s + i < 32 := by omega
  simp [this]
  omega
theorem sr_bit (x : Int) (s : Nat) (hs : s < 32) : sk_and (sk_ushr x (s : Int)) 1 = sk_and (sk_shr x (s : Int)) 1 := by
  refine sr_and sr_mask.2 (fun i a b => ?_)
  rw [sr_us x s (by omega), sr_ss x s (by omega), BitVec.getLsbD_ushiftRight, BitVec.getLsbD_sshiftRight]
  have : s + i < 32 := by omega
  simp [this]
  omega
theorem sr_range {x m : Int} {k : Nat} (h : ∀ y : BitVec 32, ((⟨⟨y⟩⟩ : Int32) &&& Int32.ofInt m).toInt < k ∧ 0 ≤ ((⟨⟨y⟩⟩ : Int32) &&& Int32.ofInt m).toInt) : 0 ≤ sk_and x m ∧ sk_and x m < k := by
  unfold sk_and
  have := h (Int32.ofInt x).toBitVec
  exact ⟨this.2, this.1⟩
section SKJ2
variable {l : Launch} {E : sk_En} {d : Nat} {I : sk_SI} {L : sk_SL} {cu sp io rp tp fp p : Nat} {Q : Option sk_V → List sk_Sh → sk_St → Prop} {D : Int → Int}
theorem sr_nw {w : Int} (h10 : 0 ≤ I p 10 ∧ I p 10 ≤ 200) : sk_nw2 I p w = 0 ↔ ∀ s, 0 ≤ s → s < I p 10 → I (p + 3) s ≠ w := by
  obtain ⟨n, hn⟩ := Int.eq_ofNat_of_zero_le h10.1
  have e : sk_nw2 I p w = sh_c (fun s => I (p + 3) s = w) n := by
    unfold sk_nw2
    rw [hn, Int.toNat_natCast]
    refine sk_sum_cg n (fun s _ _ => ?_)
    unfold sk_eqc
    by_cases z : I (p + 3) s = w
    · rw [if_pos z, sh_i_t z]
    · rw [if_neg z, sh_i_f z]
  rw [e]
  constructor
  · intro z s a b hw
    have := sh_c_rm (P := fun s => I (p + 3) s = w) (n := n) (a := s) ⟨a, by omega⟩ hw
    have b2 := (sh_c_b (fun x => I (p + 3) x = w ∧ x ≠ s) n).1
    omega
  · intro z
    exact sh_c_0 n (fun s a b => z s a (by omega))
theorem c_K_ahead (hc : sk_pg cu) (h9 : 0 ≤ I cu 9 ∧ I cu 9 ≤ 20) (m : Int) (hmi : sk_in m) (h0 : I cu 9 = 0 → Q (some (vi (-4))) sk_G (I, L, sk_J cu sp io rp tp fp)) (hv : 0 < I cu 9 → sk_pv cu D I ∧ sk_ru I) (hnp : 0 < I cu 9 → ¬ (∀ s, 0 ≤ s → s < I cu 10 → I (cu + 3) s ≠ 4 ∧ I (cu + 3) s ≠ 5 ∧ I (cu + 3) s ≠ 6) → Q (some (vi (-4))) sk_G (I, L, sk_J cu sp io rp tp fp)) (hou : 0 < I cu 9 → (∀ s, 0 ≤ s → s < I cu 10 → I (cu + 3) s ≠ 4 ∧ I (cu + 3) s ≠ 5 ∧ I (cu + 3) s ≠ 6) → ¬ (0 ≤ m ∧ m < I cu 9) → Q (some (vi (-3))) sk_G (I, L, sk_J cu sp io rp tp fp)) (hq0 : 0 < I cu 9 → (∀ s, 0 ≤ s → s < I cu 10 → I (cu + 3) s ≠ 4 ∧ I (cu + 3) s ≠ 5 ∧ I (cu + 3) s ≠ 6) → 0 ≤ m ∧ m < I cu 9 → ∀ I' L' TT', sf_jv cu I m (sk_cT cu I m sf_no) I' L' TT' → I' 48 14 = 1 → Q (some (vi (-6))) sk_G (sk_uI I' 48 15 0, L', sk_J cu sp io rp tp cu)) (hq1 : 0 < I cu 9 → (∀ s, 0 ≤ s → s < I cu 10 → I (cu + 3) s ≠ 4 ∧ I (cu + 3) s ≠ 5 ∧ I (cu + 3) s ≠ 6) → 0 ≤ m ∧ m < I cu 9 → ∀ I' L' TT', sf_jv cu I m (sk_cT cu I m sf_no) I' L' TT' → I' 48 14 = 0 → (∀ q, 0 ≤ q → q < I' 48 12 → I' 52 q = 0) → Q (some (vi (I' 48 12))) sk_G (sk_uI I' 48 15 1, L', sk_J cu sp io rp tp cu)) : AW l E (d + 63) 0 0 mX9_ahead 0 [some (vr 0), some (vi m)] [] sk_G (I, L, sk_J cu sp io rp tp fp) Q := by
  by_cases z : I cu 9 = 0
  · have h0 := h0 z
    refine AW_run 80 rfl ?_
    refine AW_cV (M' := mX9_hasProgram) (d' := d + 62) rfl kkX9_113 lcX9_hasProgram rfl rfl rfl rfl rfl rfl (Nat.le_refl _) ?_
    refine c_K_has hc h9 (fun y => by omega) (fun _ => ?_)
    refine AW_run 80 rfl ?_
    first | refine AW_e1 rfl ?_ | refine AW_e0 rfl ?_ | refine AW_n1 rfl ?_ | refine AW_n0 rfl ?_
    refine AW_run 80 rfl ?_
    exact AW_iret rfl rfl h0
  · have g : 0 < I cu 9 := by omega
    obtain ⟨hv, hr⟩ := hv g
    have h10 := hv.2.1
    have hw : ∀ i, 0 ≤ i → i < I cu 10 → sk_in (I (cu + 3) i) := fun i a b => by
      have := (sf_wf hv ⟨a, b⟩).1
      unfold sk_in
      omega
    have e4 := sr_nw (p := cu) (w := 4) h10
    have e5 := sr_nw (p := cu) (w := 5) h10
    have e6 := sr_nw (p := cu) (w := 6) h10
    have b4 := sk_nw2_b I cu 4 h10.2
    have b5 := sk_nw2_b I cu 5 h10.2
    have b6 := sk_nw2_b I cu 6 h10.2
    have pl : sk_nw2 I cu 4 + sk_nw2 I cu 5 + sk_nw2 I cu 6 = 0 ↔ ∀ s, 0 ≤ s → s < I cu 10 → I (cu + 3) s ≠ 4 ∧ I (cu + 3) s ≠ 5 ∧ I (cu + 3) s ≠ 6 := by
      constructor
      · intro y s a b
        exact ⟨e4.mp (by omega) s a b, e5.mp (by omega) s a b, e6.mp (by omega) s a b⟩
      · intro y
        have x4 := e4.mpr (fun s a b => (y s a b).1)
        have x5 := e5.mpr (fun s a b => (y s a b).2.1)
        have x6 := e6.mpr (fun s a b => (y s a b).2.2)
        omega
    have hnp := hnp g
    have hou := hou g
    have fo := fun hm h1 h2 => c_F_foretell (l := l) (E := E) (d := d) (cu := cu) (sp := sp) (io := io) (rp := rp) (tp := tp) (fp := fp) (Q := fun v G' σ' => AW l E (d + 63) 0 0 mX9_ahead 49 [some (vr 0), some (vi m)] (v.toList ++ []) G' σ' Q) hc I L hv hr m hm h1 h2
    have go : (∀ s, 0 ≤ s → s < I cu 10 → I (cu + 3) s ≠ 4 ∧ I (cu + 3) s ≠ 5 ∧ I (cu + 3) s ≠ 6) → 0 ≤ m ∧ m < I cu 9 → AW l E (d + 62) 0 0 mX0_foretell 0 [some (vr 48), some (vr cu), some (vi m), none, none] [] sk_G (I, L, sk_J cu sp io rp tp fp) (fun v G' σ' => AW l E (d + 63) 0 0 mX9_ahead 49 [some (vr 0), some (vi m)] (v.toList ++ []) G' σ' Q) := by
      intro y hm
      exact fo hm (fun I' L' TT' a b => AW_iret rfl rfl (hq0 g y hm I' L' TT' a b)) (fun I' L' TT' a b c => AW_iret rfl rfl (hq1 g y hm I' L' TT' a b c))
    clear fo hq0 hq1 e4 e5 e6 hv hr
    have hc' := hc
    rcases hc with rfl | rfl <;>
    · refine AW_run 80 rfl ?_
      refine AW_cV (M' := mX9_hasProgram) (d' := d + 62) rfl kkX9_113 lcX9_hasProgram rfl rfl rfl rfl rfl rfl (Nat.le_refl _) ?_
      refine c_K_has hc' h9 (fun _ => ?_) (fun y => absurd y z)
      refine AW_run 80 rfl ?_
      first | refine AW_e1 rfl ?_ | refine AW_e0 rfl ?_ | refine AW_n1 rfl ?_ | refine AW_n0 rfl ?_
      refine AW_run 80 rfl ?_
      refine AW_cV (M' := mX2_canBeForetold) (d' := d + 61 + 1) rfl kkX9_150 lcX2_canBeForetold rfl rfl rfl rfl rfl rfl (Nat.le_refl _) ?_
      refine c_Pg_plain _ hc' h10 hw (fun y => ?_) (fun y => ?_)
      · have y := pl.mp y
        have hou := hou y
        have go := go y
        refine AW_run 80 rfl ?_
        first | refine AW_e1 rfl ?_ | refine AW_e0 rfl ?_ | refine AW_n1 rfl ?_ | refine AW_n0 rfl ?_
        refine AW_run 80 rfl ?_
        refine AW_withinS rfl kkX9_82 rfl (by omega) (fun w1 w2 => ?_) (fun w3 => ?_)
        · have go := go ⟨w1, w2⟩
          refine AW_run 80 rfl ?_
          first | refine AW_e1 rfl ?_ | refine AW_e0 rfl ?_ | refine AW_n1 rfl ?_ | refine AW_n0 rfl ?_
          refine AW_run 80 rfl ?_
          refine AW_cV (M' := mX0_foretell) rfl kkX9_153 lcX0_foretell rfl rfl rfl rfl rfl rfl (Nat.le_refl _) ?_
          exact go
        · have hou := hou w3
          refine AW_run 80 rfl ?_
          first | refine AW_e1 rfl ?_ | refine AW_e0 rfl ?_ | refine AW_n1 rfl ?_ | refine AW_n0 rfl ?_
          refine AW_run 80 rfl ?_
          exact AW_iret rfl rfl hou
      · have hnp := hnp (fun x => y (pl.mpr x))
        refine AW_run 80 rfl ?_
        first | refine AW_e1 rfl ?_ | refine AW_e0 rfl ?_ | refine AW_n1 rfl ?_ | refine AW_n0 rfl ?_
        refine AW_run 80 rfl ?_
        exact AW_iret rfl rfl hnp
theorem AW_iceq_r {mc ms : Nat} {M : sk_M} {pc pc0 len nxt t : Nat} {off : Int} {ls : List (Option sk_V)} {st : List sk_V} {G : List sk_Sh} {σ : sk_St} {a : Int} (h : sk_find pc M.2.2.2.2 = some (pc0, (.if_icmp .eq off), len, nxt, [t])) (kt : AW l E d mc ms M t ls st G σ Q) : AW l E d mc ms M pc ls (vi a :: vi a :: st) G σ Q := by
  intro hM p e R s m args below meth c H locs cells slots Qf ar hF hR hl hc hs hfin
  obtain ⟨hd, rfl, hA, hlen⟩ := sk_dec hM h
  obtain rfl : 3 = len := hlen.resolve_left (by simp [sk_il])
  exact lv_icmp_eq hF.1 hF.2.1 hd (of_decide_eq_true hA) (fun z => kt hM p e R s m args below meth c H locs cells slots Qf ar hF hR hl hc hs hfin) (fun z => absurd rfl z)
end SKJ2
