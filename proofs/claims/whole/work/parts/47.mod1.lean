/-! boards; the model's small functions -/
abbrev Bd := Nat → Fin 13
def bq (b : Bd) : Nat → Int32 := fun j => iI ((b j).val : Int)
def bU (b : Bd) (i : Nat) (v : Fin 13) : Bd := fun j => if j = i then v else b j
theorem bq_up (b : Bd) (i : Nat) (v : Fin 13) : upd (bq b) i (iI (v.val : Int)) = bq (bU b i v) := by
  funext j
  simp only [upd, bq, bU]
  split <;> rfl
theorem bq_nI (b : Bd) : bq b = fun j => nI (b j).val := by
  funext j
  simp only [bq, iI_n]
theorem fin_t (b : Bd) (j : Nat) : (b j).val < 14 := by omega
def isOf (p : Fin 13) (who : Nat) : Bool := decide (0 < p.val) && (decide (6 < p.val) == decide (who = 1))
def kd (p : Fin 13) : Nat := if p.val ≤ 6 then p.val else p.val - 6
theorem m_isOf : ∀ (p : Fin 13) (who : Nat), who < 2 → fn_M_isOf (iI (p.val : Int)) (iI (who : Int)) = some (ge_z (isOf p who)) := by decide +kernel
theorem m_kindOf : ∀ (p : Fin 13), fn_M_kindOf (iI (p.val : Int)) = some (iI (kd p : Int)) := by decide +kernel
theorem m_ahead : ∀ who : Nat, who < 2 → fn_M_ahead (iI (who : Int)) = some (iI (if who = 0 then 1 else -1)) := by decide +kernel
theorem m_outside {a l h : Int} (h1 : -2147483648 ≤ a) (h2 : a < 2147483648) (h3 : -2147483648 ≤ l) (h4 : l < 2147483648) (h5 : -2147483648 ≤ h) (h6 : h < 2147483648) : fn_M_outside (iI a) (iI l) (iI h) = some (ge_z (!(decide (l ≤ a) && decide (a ≤ h)))) := by
  rw [fn_M_outside]
  simp only [bk_M_outside_10, bk_M_outside_15]
  simp only [iI_lt h1 h2 h3 h4, iI_le h1 h2 h5 h6]
  by_cases c1 : a < l
  · rw [if_pos c1, decide_eq_false (show ¬ l ≤ a by omega)]; rfl
  · rw [if_neg c1, decide_eq_true (show l ≤ a by omega)]
    by_cases c2 : a ≤ h
    · rw [if_pos c2, decide_eq_true c2]; rfl
    · rw [if_neg c2, decide_eq_false c2]; rfl
theorem m_size {a : Int} (h1 : -2147483648 < a) (h2 : a < 2147483648) : fn_M_size (iI a) = some (iI (a.natAbs : Int)) := by
  rw [fn_M_size]
  simp only [bk_M_size_10]
  by_cases c : 0 ≤ a
  · simp (disch := omega) only [qq_let, iI_ckt, Option.bind_some, iI_n, iI_lit, iI_neg, iI_add, iI_sub, iI_mul, iI_lt, iI_le, iI_eq, iI_div, iI_cn, iI_cl, iI_in, Int.toNat_natCast, if_pos, if_neg, bq, c, if_true]
    congr 2; omega
  · simp (disch := omega) only [qq_let, iI_ckt, Option.bind_some, iI_n, iI_lit, iI_neg, iI_add, iI_sub, iI_mul, iI_lt, iI_le, iI_eq, iI_div, iI_cn, iI_cl, iI_in, Int.toNat_natCast, if_pos, if_neg, bq, c, if_false]
    congr 2; omega
theorem m_sign {a : Int} (h1 : -2147483648 < a) (h2 : a < 2147483648) : fn_M_sign (iI a) = some (iI a.sign) := by
  rw [fn_M_sign]
  simp only [bk_M_sign_17]
  by_cases c : a < 0
  · simp (disch := omega) only [qq_let, iI_ckt, Option.bind_some, iI_n, iI_lit, iI_neg, iI_add, iI_sub, iI_mul, iI_lt, iI_le, iI_eq, iI_div, iI_cn, iI_cl, iI_in, Int.toNat_natCast, if_pos, if_neg, bq, c]
    congr 2; exact (Int.sign_eq_neg_one_of_neg c).symm
  · by_cases c0 : a = 0
    · subst c0; rfl
    · simp (disch := omega) only [qq_let, iI_ckt, Option.bind_some, iI_n, iI_lit, iI_neg, iI_add, iI_sub, iI_mul, iI_lt, iI_le, iI_eq, iI_div, iI_cn, iI_cl, iI_in, Int.toNat_natCast, if_pos, if_neg, bq, c]
      congr 2; exact (Int.sign_eq_one_of_pos (by omega)).symm
