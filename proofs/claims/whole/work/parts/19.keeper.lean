/-! ===== SealKeeper: the short methods ===== -/
theorem sk_uI_id {I : sk_SI} {k : Nat} {j v : Int} (h : I k j = v) : sk_uI I k j v = I := by
  funext k' j'
  by_cases hk : k' = k
  · subst hk
    rw [sk_uI_s]
    by_cases hj : j' = j
    · subst hj; rw [sk_up_s, h]
    · rw [sk_up_o hj]
  · rw [sk_uI_o hk]
/-- a number behind a row -/
def sk_ap (I : sk_SI) (r : Nat) (c : Int) : sk_SI := sk_uI (sk_uI I (r + 1) (I r 1) c) r 1 (I r 1 + 1)
theorem sk_ap_n (I : sk_SI) (r : Nat) (c : Int) : sk_ap I r c r 1 = I r 1 + 1 := by
  unfold sk_ap
  rw [sk_uI_s, sk_up_s]
theorem sk_ap_o (I : sk_SI) (r : Nat) (c : Int) (k : Nat) (h1 : k ≠ r) (h2 : k ≠ r + 1) : sk_ap I r c k = I k := by
  unfold sk_ap
  rw [sk_uI_o h1, sk_uI_o h2]
theorem sk_ap_c (I : sk_SI) (r : Nat) (c : Int) : sk_ap I r c (r + 1) = sk_up (I (r + 1)) (I r 1) c := by
  unfold sk_ap
  rw [sk_uI_o (by omega), sk_uI_s]
/-- the byte of a number at a shift -/
def sk_by (a s : Int) : Int := sk_and (sk_ushr a s) 255
def sk_ab (I : sk_SI) (a : Int) : sk_SI := sk_ap (sk_ap (sk_ap (sk_ap I 1 (sk_by a 24)) 1 (sk_by a 16)) 1 (sk_by a 8)) 1 (sk_by a 0)
theorem sk_ab_n (I : sk_SI) (a : Int) : sk_ab I a 1 1 = I 1 1 + 4 := by
  unfold sk_ab
  rw [sk_ap_n, sk_ap_n, sk_ap_n, sk_ap_n]
  omega
section SKC5
variable {l : Launch} {E : sk_En} {d : Nat} {I : sk_SI} {L : sk_SL} {cu sp io rp tp fp : Nat} {Q : Option sk_V → List sk_Sh → sk_St → Prop}
theorem c_K_ab (a : Int) (h0 : 0 ≤ I 1 1) (h1 : I 1 1 + 4 ≤ 1200) (hq : Q none sk_G (sk_ab I a, L, sk_J cu sp io rp tp fp)) : AW l E (d + 2) 0 0 mX9_addBytes 0 [some (vr 0), some (vi a), none] [] sk_G (I, L, sk_J cu sp io rp tp fp) Q := by
  refine AW_run 80 rfl ?_
  refine AW_iflt rfl (fun h => by omega) (fun _ => ?_)
  refine AW_run 80 rfl ?_
  refine AW_cV (M' := mX4_add) rfl kkX9_79 lcX4_add rfl rfl rfl rfl rfl rfl (Nat.le_refl _) ?_
  refine c_Row_add (d := d) 1 1200 (Or.inl ⟨rfl, rfl⟩) _ h0 (by omega) ?_
  refine AW_run 80 rfl ?_
  refine AW_iflt rfl (fun h => by omega) (fun _ => ?_)
  refine AW_run 80 rfl ?_
  refine AW_cV (M' := mX4_add) rfl kkX9_79 lcX4_add rfl rfl rfl rfl rfl rfl (Nat.le_refl _) ?_
  have e1 := sk_ap_n I 1 (sk_by a 24)
  refine c_Row_add (I := sk_ap I 1 (sk_by a 24)) (d := d) 1 1200 (Or.inl ⟨rfl, rfl⟩) _ (by omega) (by omega) ?_
  refine AW_run 80 rfl ?_
  refine AW_iflt rfl (fun h => by omega) (fun _ => ?_)
  refine AW_run 80 rfl ?_
  refine AW_cV (M' := mX4_add) rfl kkX9_79 lcX4_add rfl rfl rfl rfl rfl rfl (Nat.le_refl _) ?_
  have e2 := sk_ap_n (sk_ap I 1 (sk_by a 24)) 1 (sk_by a 16)
  refine c_Row_add (I := sk_ap (sk_ap I 1 (sk_by a 24)) 1 (sk_by a 16)) (d := d) 1 1200 (Or.inl ⟨rfl, rfl⟩) _ (by omega) (by omega) ?_
  refine AW_run 80 rfl ?_
  refine AW_iflt rfl (fun h => by omega) (fun _ => ?_)
  refine AW_run 80 rfl ?_
  refine AW_cV (M' := mX4_add) rfl kkX9_79 lcX4_add rfl rfl rfl rfl rfl rfl (Nat.le_refl _) ?_
  have e3 := sk_ap_n (sk_ap (sk_ap I 1 (sk_by a 24)) 1 (sk_by a 16)) 1 (sk_by a 8)
  refine c_Row_add (I := sk_ap (sk_ap (sk_ap I 1 (sk_by a 24)) 1 (sk_by a 16)) 1 (sk_by a 8)) (d := d) 1 1200 (Or.inl ⟨rfl, rfl⟩) _ (by omega) (by omega) ?_
  refine AW_run 80 rfl ?_
  refine AW_iflt rfl (fun _ => ?_) (fun h => by omega)
  exact AW_vret rfl rfl hq
theorem c_K_feed (a b c e f : Int) (h0 : 0 ≤ I 1 1) (h1 : I 1 1 ≤ 1200) (hF : 1180 < I 1 1 → Q (some (vi (-5))) sk_G (I, L, sk_J cu sp io rp tp fp)) (hT : I 1 1 ≤ 1180 → Q (some (vi (I 1 1 + 20))) sk_G (sk_ab (sk_ab (sk_ab (sk_ab (sk_ab I a) b) c) e) f, L, sk_J cu sp io rp tp fp)) : AW l E (d + 3) 0 0 mX9_feed 0 [some (vr 0), some (vi a), some (vi b), some (vi c), some (vi e), some (vi f)] [] sk_G (I, L, sk_J cu sp io rp tp fp) Q := by
  refine AW_run 80 rfl ?_
  refine AW_cV (M' := mX4_hasRoomFor) rfl kkX9_68 lcX4_hasRoomFor rfl rfl rfl rfl rfl rfl (Nat.le_refl _) ?_
  refine c_Row_room 1 1200 (Or.inl ⟨rfl, rfl⟩) 20 (by unfold sk_in; omega) h0 h1 (fun g => ?_) (fun g => ?_)
  · have e1 := sk_ab_n I a
    have e2 := sk_ab_n (sk_ab I a) b
    have e3 := sk_ab_n (sk_ab (sk_ab I a) b) c
    have e4 := sk_ab_n (sk_ab (sk_ab (sk_ab I a) b) c) e
    have e5 := sk_ab_n (sk_ab (sk_ab (sk_ab (sk_ab I a) b) c) e) f
    refine AW_run 80 rfl ?_
    first | refine AW_e1 rfl ?_ | refine AW_e0 rfl ?_ | refine AW_n1 rfl ?_ | refine AW_n0 rfl ?_
    refine AW_run 80 rfl ?_
    refine AW_cV (M' := mX9_addBytes) rfl kkX9_72 lcX9_addBytes rfl rfl rfl rfl rfl rfl (Nat.le_refl _) ?_
    refine c_K_ab (d := d) _ (by omega) (by omega) ?_
    refine AW_run 80 rfl ?_
    refine AW_cV (M' := mX9_addBytes) rfl kkX9_72 lcX9_addBytes rfl rfl rfl rfl rfl rfl (Nat.le_refl _) ?_
    refine c_K_ab (d := d) _ (by omega) (by omega) ?_
    refine AW_run 80 rfl ?_
    refine AW_cV (M' := mX9_addBytes) rfl kkX9_72 lcX9_addBytes rfl rfl rfl rfl rfl rfl (Nat.le_refl _) ?_
    refine c_K_ab (d := d) _ (by omega) (by omega) ?_
    refine AW_run 80 rfl ?_
    refine AW_cV (M' := mX9_addBytes) rfl kkX9_72 lcX9_addBytes rfl rfl rfl rfl rfl rfl (Nat.le_refl _) ?_
    refine c_K_ab (d := d) _ (by omega) (by omega) ?_
    refine AW_run 80 rfl ?_
    refine AW_cV (M' := mX9_addBytes) rfl kkX9_72 lcX9_addBytes rfl rfl rfl rfl rfl rfl (Nat.le_refl _) ?_
    refine c_K_ab (d := d) _ (by omega) (by omega) ?_
    refine AW_run 80 rfl ?_
    refine AW_top (show _ = I 1 1 + 20 by omega) ?_
    exact AW_iret rfl rfl (hT (by omega))
  · refine AW_run 80 rfl ?_
    first | refine AW_e1 rfl ?_ | refine AW_e0 rfl ?_ | refine AW_n1 rfl ?_ | refine AW_n0 rfl ?_
    refine AW_run 80 rfl ?_
    exact AW_iret rfl rfl (hF (by omega))
theorem c_K_trim (n : Int) (hn : sk_in n) (h0 : 0 ≤ I 1 1) (h1 : I 1 1 ≤ 1200) (hF : ¬ (0 ≤ n ∧ n ≤ I 1 1) → Q (some (vi (-3))) sk_G (I, L, sk_J cu sp io rp tp fp)) (hT : 0 ≤ n → n ≤ I 1 1 → Q (some (vi n)) sk_G (sk_uI I 1 1 n, L, sk_J cu sp io rp tp fp)) : AW l E (d + 2) 0 0 mX9_trim 0 [some (vr 0), some (vi n)] [] sk_G (I, L, sk_J cu sp io rp tp fp) Q := by
  refine AW_run 80 rfl ?_
  refine AW_withinS rfl kkX9_82 rfl (by omega) (fun w1 w2 => ?_) (fun w3 => ?_)
  · refine AW_run 80 rfl ?_
    first | refine AW_e1 rfl ?_ | refine AW_e0 rfl ?_ | refine AW_n1 rfl ?_ | refine AW_n0 rfl ?_
    refine AW_run 80 rfl ?_
    refine AW_cV (M' := mX4_cutTo) rfl kkX9_86 lcX4_cutTo rfl rfl rfl rfl rfl rfl (Nat.le_refl _) ?_
    refine c_Row_cut (d := d) 1 1200 (Or.inl ⟨rfl, rfl⟩) n hn h1 h0 ?_
    rw [show max 0 (min n (I 1 1)) = n by omega]
    refine AW_run 80 rfl ?_
    exact AW_iret rfl rfl (hT w1 (by omega))
  · refine AW_run 80 rfl ?_
    first | refine AW_e1 rfl ?_ | refine AW_e0 rfl ?_ | refine AW_n1 rfl ?_ | refine AW_n0 rfl ?_
    refine AW_run 80 rfl ?_
    exact AW_iret rfl rfl (hF (by omega))
theorem c_K_rule (o k v : Int) (ho : sk_in o) (hk : sk_in k) (hv : sk_in v) (hF : ¬ (0 ≤ o ∧ o < 8 ∧ 0 ≤ k ∧ k < 8 ∧ -1 ≤ v ∧ v ≤ 9) → Q (some (vi (-3))) sk_G (I, L, sk_J cu sp io rp tp fp)) (hT : 0 ≤ o → o < 8 → 0 ≤ k → k < 8 → -1 ≤ v → v ≤ 9 → Q (some (vi (I 8 (o * 8 + k)))) sk_G (sk_uI I 8 (o * 8 + k) v, L, sk_J cu sp io rp tp fp)) : AW l E (d + 3) 0 0 mX9_rule 0 [some (vr 0), some (vi o), some (vi k), some (vi v)] [] sk_G (I, L, sk_J cu sp io rp tp fp) Q := by
  refine AW_run 80 rfl ?_
  refine AW_withinS rfl kkX9_82 rfl (by omega) (fun w1 w2 => ?_) (fun w3 => ?_)
  · refine AW_run 80 rfl ?_
    first | refine AW_e1 rfl ?_ | refine AW_e0 rfl ?_ | refine AW_n1 rfl ?_ | refine AW_n0 rfl ?_
    refine AW_run 80 rfl ?_
    refine AW_withinS rfl kkX9_82 rfl (by omega) (fun w4 w5 => ?_) (fun w6 => ?_)
    · refine AW_run 80 rfl ?_
      first | refine AW_e1 rfl ?_ | refine AW_e0 rfl ?_ | refine AW_n1 rfl ?_ | refine AW_n0 rfl ?_
      refine AW_run 80 rfl ?_
      refine AW_iclt rfl (fun h => ?_) (fun h => ?_)
      · refine AW_run 80 rfl ?_
        exact AW_iret rfl rfl (hF (by omega))
      · refine AW_run 80 rfl ?_
        refine AW_iclt rfl (fun h2 => ?_) (fun h2 => ?_)
        · refine AW_run 80 rfl ?_
          refine AW_cV (M' := mX5_replace) rfl kkX9_109 lcX5_replace rfl rfl rfl rfl rfl rfl (Nat.le_refl _) ?_
          refine c_Rules_replace (d := d) o k v ⟨w1, w2⟩ ⟨w4, w5⟩ ?_
          exact AW_iret rfl rfl (hT w1 w2 w4 w5 (by omega) (by omega))
        · refine AW_run 80 rfl ?_
          exact AW_iret rfl rfl (hF (by omega))
    · refine AW_run 80 rfl ?_
      first | refine AW_e1 rfl ?_ | refine AW_e0 rfl ?_ | refine AW_n1 rfl ?_ | refine AW_n0 rfl ?_
      refine AW_run 80 rfl ?_
      exact AW_iret rfl rfl (hF (by omega))
  · refine AW_run 80 rfl ?_
    first | refine AW_e1 rfl ?_ | refine AW_e0 rfl ?_ | refine AW_n1 rfl ?_ | refine AW_n0 rfl ?_
    refine AW_run 80 rfl ?_
    exact AW_iret rfl rfl (hF (by omega))
theorem c_K_forget (h0 : 0 ≤ I 3 1) (h1 : I 3 1 ≤ 400) (hq : Q (some (vi (I 3 1))) sk_G (sk_uI I 3 1 0, L, sk_J cu sp io rp tp fp)) : AW l E (d + 2) 0 0 mX9_forget 0 [some (vr 0), none] [] sk_G (I, L, sk_J cu sp io rp tp fp) Q := by
  refine AW_run 80 rfl ?_
  refine AW_cV (M' := mX4_cutTo) rfl kkX9_86 lcX4_cutTo rfl rfl rfl rfl rfl rfl (Nat.le_refl _) ?_
  refine c_Row_cut (d := d) 3 400 (Or.inr (Or.inl ⟨rfl, rfl⟩)) 0 sk_in0 h1 h0 ?_
  rw [show max 0 (min 0 (I 3 1)) = 0 by omega]
  refine AW_run 80 rfl ?_
  exact AW_iret rfl rfl hq
theorem c_K_fault (hq : Q (some (vi (I 29 5))) sk_G (I, L, sk_J cu sp io rp tp fp)) : AW l E d 0 0 mX9_fault 0 [some (vr 0)] [] sk_G (I, L, sk_J cu sp io rp tp fp) Q := by
  refine AW_run 80 rfl ?_
  exact AW_iret rfl rfl hq
theorem c_K_has (hc : sk_pg cu) (h : 0 ≤ I cu 9 ∧ I cu 9 ≤ 20) (hT : 0 < I cu 9 → Q (some (vi 1)) sk_G (I, L, sk_J cu sp io rp tp fp)) (hF : I cu 9 = 0 → Q (some (vi 0)) sk_G (I, L, sk_J cu sp io rp tp fp)) : AW l E d 0 0 mX9_hasProgram 0 [some (vr 0)] [] sk_G (I, L, sk_J cu sp io rp tp fp) Q := by
  rcases hc with rfl | rfl <;>
  · refine AW_run 80 rfl ?_
    refine AW_ifle rfl (fun g => ?_) (fun g => ?_)
    · refine AW_run 80 rfl ?_
      exact AW_zret rfl rfl (Or.inl rfl) (hF (by omega))
    · refine AW_run 80 rfl ?_
      exact AW_zret rfl rfl (Or.inr rfl) (hT (by omega))
theorem c_K_note (i : Int) (hi : sk_in i) (h0 : 0 ≤ I 5 1) (h1 : I 5 1 ≤ 3000) (hT : 0 ≤ i → i < I 5 1 → Q (some (vi (I 6 i))) sk_G (I, L, sk_J cu sp io rp tp fp)) (hF : ¬ (0 ≤ i ∧ i < I 5 1) → Q (some (vi (-1))) sk_G (I, L, sk_J cu sp io rp tp fp)) : AW l E (d + 1) 0 0 mX9_note 0 [some (vr 0), some (vi i)] [] sk_G (I, L, sk_J cu sp io rp tp fp) Q := by
  refine AW_run 80 rfl ?_
  refine AW_cV (M' := mX4_at) rfl kkX9_147 lcX4_at rfl rfl rfl rfl rfl rfl (Nat.le_refl _) ?_
  refine c_Row_at 5 3000 (Or.inr (Or.inr ⟨rfl, rfl⟩)) i hi h1 h0 (fun g1 g2 => ?_) (fun g => ?_)
  · exact AW_iret rfl rfl (hT g1 g2)
  · exact AW_iret rfl rfl (hF g)
theorem c_K_ran (w : Int) (hw : sk_in w) (h : I 34 8 = 0 ∨ I 34 8 = 1) (h1 : ¬ (0 ≤ w ∧ w < 8) → Q (some (vi (-3))) sk_G (I, L, sk_J cu sp io rp tp fp)) (h2 : 0 ≤ w → w < 8 → I 34 8 = 0 → Q (some (vi (-1))) sk_G (I, L, sk_J cu sp io rp tp fp)) (h3 : 0 ≤ w → w < 8 → I 34 8 = 1 → Q (some (vi (I 44 w))) sk_G (I, L, sk_J cu sp io rp tp fp)) : AW l E (d + 1) 0 0 mX9_ran 0 [some (vr 0), some (vi w)] [] sk_G (I, L, sk_J cu sp io rp tp fp) Q := by
  refine AW_run 80 rfl ?_
  refine AW_withinS rfl kkX9_82 rfl (by omega) (fun w1 w2 => ?_) (fun w3 => ?_)
  · refine AW_run 80 rfl ?_
    first | refine AW_e1 rfl ?_ | refine AW_e0 rfl ?_ | refine AW_n1 rfl ?_ | refine AW_n0 rfl ?_
    refine AW_run 80 rfl ?_
    refine AW_ifeq rfl (fun g => ?_) (fun g => ?_)
    · refine AW_run 80 rfl ?_
      exact AW_iret rfl rfl (h2 w1 w2 g)
    · refine AW_run 80 rfl ?_
      refine AW_iald rfl rfl ⟨by omega, by omega⟩ (by decide) ?_
      refine AW_run 80 rfl ?_
      exact AW_iret rfl rfl (h3 w1 w2 (by omega))
  · refine AW_run 80 rfl ?_
    first | refine AW_e1 rfl ?_ | refine AW_e0 rfl ?_ | refine AW_n1 rfl ?_ | refine AW_n0 rfl ?_
    refine AW_run 80 rfl ?_
    exact AW_iret rfl rfl (h1 w3)
theorem c_K_count (w : Int) (hw : sk_in w) (hI : ∀ i, 0 ≤ i → i < 64 → sk_in (I 8 i)) (h0 : w = 0 → Q (some (vi (I 1 1))) sk_G (I, L, sk_J cu sp io rp tp fp)) (h1 : w = 1 → Q (some (vi (I 3 1))) sk_G (I, L, sk_J cu sp io rp tp fp)) (h2 : w = 2 → Q (some (vi (I 5 1))) sk_G (I, L, sk_J cu sp io rp tp fp)) (h3 : w = 3 → Q (some (vi (sk_sum (sk_ng (I 8)) 64))) sk_G (I, L, sk_J cu sp io rp tp fp)) (h4 : ¬ (0 ≤ w ∧ w ≤ 3) → Q (some (vi (-3))) sk_G (I, L, sk_J cu sp io rp tp fp)) : AW l E (d + 1) 0 0 mX9_count 0 [some (vr 0), some (vi w)] [] sk_G (I, L, sk_J cu sp io rp tp fp) Q := by
  refine AW_run 80 rfl ?_
  by_cases g : 0 ≤ w ∧ w ≤ 3
  · rcases (show w = 0 ∨ w = 1 ∨ w = 2 ∨ w = 3 by omega) with e | e | e | e
    · refine AW_tin 0 rfl (by omega) rfl hw ?_
      refine AW_run 80 rfl ?_
      exact AW_iret rfl rfl (h0 e)
    · refine AW_tin 1 rfl (by omega) rfl hw ?_
      refine AW_run 80 rfl ?_
      exact AW_iret rfl rfl (h1 e)
    · refine AW_tin 2 rfl (by omega) rfl hw ?_
      refine AW_run 80 rfl ?_
      exact AW_iret rfl rfl (h2 e)
    · refine AW_tin 3 rfl (by omega) rfl hw ?_
      refine AW_run 80 rfl ?_
      refine AW_cV (M' := mX5_given) rfl kkX9_178 lcX5_given rfl rfl rfl rfl rfl rfl (Nat.le_refl _) ?_
      refine c_Rules_given hI ?_
      exact AW_iret rfl rfl (h3 e)
  · refine AW_tout rfl (by omega) hw ?_
    refine AW_run 80 rfl ?_
    exact AW_iret rfl rfl (h4 g)
end SKC5
