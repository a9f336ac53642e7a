/-! ===== the walk of a block, over tables of rights and an oracle of what pairs can ===== -/
abbrev sk_Tb : Type := Int → Int
abbrev sk_Or : Type := Int → sk_Tb → Int → Prop
abbrev sk_Bl : Type := sk_Tb → Int → Int → Prop
abbrev sk_Vi : Type := sk_Tb → Int → Int → sk_Tb → Prop
/-- the table within a method that is called -/
def sk_cT (p : Nat) (C : sk_SI) (m : Int) (T : sk_Tb) : sk_Tb := fun r => if 0 ≤ r ∧ r < 80 then (if r % 10 ≤ C 8 (C (p + 1) m * 8 + r / 10) then T r else C (p + 1) m) else -1
/-- and within the block of lend or cut -/
def sk_bT (p : Nat) (C : sk_SI) (s : Int) (T : sk_Tb) : sk_Tb := fun r => if 0 ≤ r ∧ r < 80 then (if r / 10 = C (p + 5) s then (if C (p + 3) s = 3 then C (p + 1) (C (p + 4) s) else if r % 10 ≤ C (p + 6) s then (if r % 10 ≤ C 8 (C (p + 1) (C (p + 4) s) * 8 + C (p + 5) s) then -1 else C (p + 1) (C (p + 4) s)) else T r) else T r) else -1
/-- the right that a step asks for, in a table -/
def sk_rT (p : Nat) (C : sk_SI) (s : Int) (T : sk_Tb) : Int := T (10 * C (p + 5) s + C (p + 6) s)
/-- a step, over the walk of blocks -/
def sk_WS (p : Nat) (C : sk_SI) (G : sk_Or) (B : sk_Bl) (T : sk_Tb) (s x : Int) : Prop :=
  if C (p + 3) s = 0 then (if sk_rT p C s T = -1 then x = 1 else x = 2)
  else if C (p + 3) s = 1 then ((x = 2 ∧ G (C (p + 5) s) (sk_cT p C (C (p + 5) s) T) 2) ∨ (x = 1 ∧ (G (C (p + 5) s) (sk_cT p C (C (p + 5) s) T) 1 ∨ G (C (p + 5) s) (sk_cT p C (C (p + 5) s) T) 4)))
  else if C (p + 3) s = 2 ∨ C (p + 3) s = 3 then B (sk_bT p C s T) (C (p + 8) s) x
  else if C (p + 3) s = 7 then ((x ≠ 2 ∧ B T (C (p + 8) s) x) ∨ (B T (C (p + 8) s) 2 ∧ B T (C (p + 9) s) x))
  else if C (p + 3) s = 8 then (if C (p + 5) s = 0 then x = 1 else B T (C (p + 8) s) x)
  else if C (p + 3) s = 10 then (if sk_rT p C s T = -1 then B T (C (p + 8) s) x else B T (C (p + 9) s) x)
  else if C (p + 3) s = 11 then (B T (C (p + 8) s) x ∨ B T (C (p + 9) s) x)
  else if C (p + 3) s = 12 then x = 4 else x = 1
def sk_WB (p : Nat) (C : sk_SI) (G : sk_Or) : Nat → sk_Bl
  | 0 => fun _ _ _ => False
  | n + 1 => fun T s x => if s < 0 then x = 1 else ((x ≠ 1 ∧ sk_WS p C G (sk_WB p C G n) T s x) ∨ (sk_WS p C G (sk_WB p C G n) T s 1 ∧ sk_WB p C G n T (C (p + 7) s) x))
/-- step t is visited with table T' within a step -/
def sk_VS (p : Nat) (C : sk_SI) (B : sk_Bl) (V : sk_Vi) (T : sk_Tb) (s t : Int) (T' : sk_Tb) : Prop :=
  if C (p + 3) s = 2 ∨ C (p + 3) s = 3 then V (sk_bT p C s T) (C (p + 8) s) t T'
  else if C (p + 3) s = 7 then (V T (C (p + 8) s) t T' ∨ (B T (C (p + 8) s) 2 ∧ V T (C (p + 9) s) t T'))
  else if C (p + 3) s = 8 then (if C (p + 5) s = 0 then False else V T (C (p + 8) s) t T')
  else if C (p + 3) s = 10 then (if sk_rT p C s T = -1 then V T (C (p + 8) s) t T' else V T (C (p + 9) s) t T')
  else if C (p + 3) s = 11 then (V T (C (p + 8) s) t T' ∨ V T (C (p + 9) s) t T')
  else False
def sk_VB (p : Nat) (C : sk_SI) (G : sk_Or) : Nat → sk_Vi
  | 0 => fun _ _ _ _ => False
  | n + 1 => fun T s t T' => if s < 0 then False else ((t = s ∧ T' = T) ∨ sk_VS p C (sk_WB p C G n) (sk_VB p C G n) T s t T' ∨ (sk_WS p C G (sk_WB p C G n) T s 1 ∧ sk_VB p C G n T (C (p + 7) s) t T'))
