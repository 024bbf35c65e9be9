/-! the board's geometry, on numbers: rays, jumps, what lies between; ties to the printed functions by finite tables -/
def ge_wf : Nat → Int := fun w => ([1, 0, -1, 0, 1, -1, -1, 1] : List Int).getD w 0
def ge_wr : Nat → Int := fun w => ([0, 1, 0, -1, 1, 1, -1, -1] : List Int).getD w 0
def ge_ws : Nat → Int := fun w => ([1, 8, -1, -8, 9, 7, -9, -7] : List Int).getD w 0
def ge_by (d : Int) (x : Nat) : Nat := if 0 < d then 7 - x else if d < 0 then x else 7
def ge_st (w s : Nat) : Nat := min (ge_by (ge_wf w) (s % 8)) (ge_by (ge_wr w) (s / 8))
/-- the square at a distance along a way -/
def ge_at (w s d : Nat) : Nat := ((s : Int) + (d : Int) * ge_ws w).toNat
def ge_jf : Nat → Int := fun j => ([1, 2, 2, 1, -1, -2, -2, -1] : List Int).getD j 0
def ge_jr : Nat → Int := fun j => ([2, 1, -1, -2, -2, -1, 1, 2] : List Int).getD j 0
def ge_jin (j s : Nat) : Bool := decide (0 ≤ (s % 8 : Nat) + ge_jf j) && decide ((s % 8 : Nat) + ge_jf j ≤ 7) && (decide (0 ≤ (s / 8 : Nat) + ge_jr j) && decide ((s / 8 : Nat) + ge_jr j ≤ 7))
def ge_jt (j s : Nat) : Nat := (8 * ((s / 8 : Nat) + ge_jr j) + ((s % 8 : Nat) + ge_jf j)).toNat
/-- whether a piece comes along a way: the way leads from the square that may be hit to the piece -/
def ge_co (p who w d : Nat) : Bool := p == 5 + 6 * who || (p == 4 + 6 * who && decide (w < 4)) || (p == 3 + 6 * who && decide (4 ≤ w)) || (p == 6 + 6 * who && d == 1) || (p == 1 + 6 * who && (d == 1 && (decide (4 ≤ w) && decide (ge_wr w = if who = 0 then -1 else 1))))
def ge_z (b : Bool) : Int32 := if b then 1 else 0
theorem ge_steps : ∀ w, w < 8 → ∀ s, s < 64 → fn_P_stepsToBorder (nI w) (nI s) = some (nI (ge_st w s)) := by decide +kernel
theorem ge_jump : ∀ j, j < 8 → ∀ s, s < 64 → fn_P_squareByJump (nI j) (nI s) = some (if ge_jin j s then nI (ge_jt j s) else -1) := by decide +kernel
theorem ge_comes : ∀ p, p < 13 → ∀ who, who < 2 → ∀ w, w < 8 → ∀ d, d < 8 → fn_P_comesAlong (nI p - 6 * nI who) (nI who) (nI w) (nI d) = some (ge_z (ge_co p who w d)) := by decide +kernel
theorem ge_at_lt : ∀ w, w < 8 → ∀ s, s < 64 → ∀ d, d < 8 → d ≤ ge_st w s → ge_at w s d < 64 := by decide +kernel
theorem ge_at_s : ∀ w, w < 8 → ∀ s, s < 64 → ∀ d, d < 7 → d + 1 ≤ ge_st w s → nI (ge_at w s d) + tb_WAY_STEPS (nI w).toNatClampNeg = nI (ge_at w s (d + 1)) := by decide +kernel
theorem ge_jt_lt : ∀ j, j < 8 → ∀ s, s < 64 → ge_jin j s = true → ge_jt j s < 64 := by decide +kernel
theorem ge_st_le : ∀ w, w < 8 → ∀ s, s < 64 → ge_st w s ≤ 7 := by decide +kernel
