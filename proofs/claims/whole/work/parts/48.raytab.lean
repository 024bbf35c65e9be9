/-! rays and what is free on them -/
def ge_op (w : Nat) : Nat := ([2, 3, 0, 1, 6, 7, 4, 5] : List Nat).getD w 0
def ge_all : List (Nat × Nat) := (List.range 8).flatMap fun w => (List.range' 1 7).map fun d => (w, d)
def ge_wd (a s : Nat) : Option (Nat × Nat) := ge_all.find? fun x => decide (x.2 ≤ ge_st x.1 a) && (ge_at x.1 a x.2 == s)
def ge_fi (a s : Nat) : Nat := ((s % 8 : Nat) - (a % 8 : Nat) : Int).natAbs
def ge_ra (a s : Nat) : Nat := ((s / 8 : Nat) - (a / 8 : Nat) : Int).natAbs
theorem ge_wd_in' : ∀ w, w < 8 → ∀ a, a < 64 → ∀ d, d < 8 → (1 ≤ d ∧ d ≤ ge_st w a) → (ge_wd a (ge_at w a d) == some (w, d)) = true := by decide +kernel
theorem ge_wd_in (w : Nat) (hw : w < 8) (a : Nat) (ha : a < 64) (d : Nat) (hd : d < 8) (h1 : 1 ≤ d) (h2 : d ≤ ge_st w a) : ge_wd a (ge_at w a d) = some (w, d) := by
  have := ge_wd_in' w hw a ha d hd ⟨h1, h2⟩
  exact eq_of_beq this
theorem ge_wd_no : ∀ a, a < 64 → ∀ s, s < 64 → ge_wd a s = none → ¬ (a ≠ s ∧ (ge_fi a s = 0 ∨ ge_ra a s = 0)) ∧ ¬ (a ≠ s ∧ ge_fi a s = ge_ra a s) := by decide +kernel
theorem ge_wd_f1 : ∀ w, w < 8 → ∀ a, a < 64 → ∀ d, d < 8 → (1 ≤ d ∧ d ≤ ge_st w a) → ge_at w a d ≠ a := by decide +kernel
theorem ge_wd_f1b : ∀ w, w < 8 → ∀ a, a < 64 → ∀ d, d < 8 → (1 ≤ d ∧ d ≤ ge_st w a) → (ge_fi a (ge_at w a d) == 0 || ge_ra a (ge_at w a d) == 0) = decide (w < 4) := by decide +kernel
theorem ge_wd_f2 : ∀ w, w < 8 → ∀ a, a < 64 → ∀ d, d < 8 → (1 ≤ d ∧ d ≤ ge_st w a) → (ge_fi a (ge_at w a d) == ge_ra a (ge_at w a d)) = decide (4 ≤ w) := by decide +kernel
theorem ge_wd_f2b : ∀ w, w < 8 → ∀ a, a < 64 → ∀ d, d < 8 → (1 ≤ d ∧ d ≤ ge_st w a) → max (ge_fi a (ge_at w a d)) (ge_ra a (ge_at w a d)) = d := by decide +kernel
theorem ge_wd_f3 : ∀ w, w < 8 → ∀ a, a < 64 → ∀ d, d < 8 → (1 ≤ d ∧ d ≤ ge_st w a) → (8 * (((ge_at w a d / 8 : Nat) : Int) - ((a / 8 : Nat) : Int)).sign + (((ge_at w a d % 8 : Nat) : Int) - ((a % 8 : Nat) : Int)).sign = ge_ws w) := by decide +kernel
theorem ge_wd_fr (w : Nat) (hw : w < 8) (a : Nat) (ha : a < 64) (d : Nat) (hd : d < 8) (h1 : 1 ≤ d) (h2 : d ≤ ge_st w a) : (ge_at w a d ≠ a) ∧ ((ge_fi a (ge_at w a d) = 0 ∨ ge_ra a (ge_at w a d) = 0) ↔ w < 4) ∧ (ge_fi a (ge_at w a d) = ge_ra a (ge_at w a d) ↔ 4 ≤ w) ∧ (8 * (((ge_at w a d / 8 : Nat) : Int) - ((a / 8 : Nat) : Int)).sign + (((ge_at w a d % 8 : Nat) : Int) - ((a % 8 : Nat) : Int)).sign = ge_ws w) ∧ max (ge_fi a (ge_at w a d)) (ge_ra a (ge_at w a d)) = d :=
  by
    have H := And.intro h1 h2
    refine ⟨ge_wd_f1 w hw a ha d hd H, ?_, ?_, ge_wd_f3 w hw a ha d hd H, ge_wd_f2b w hw a ha d hd H⟩
    · have := ge_wd_f1b w hw a ha d hd H
      rw [Bool.eq_iff_iff] at this
      simpa using this
    · have := ge_wd_f2 w hw a ha d hd H
      rw [Bool.eq_iff_iff] at this
      simpa using this
theorem ge_opp1 : ∀ w, w < 8 → ge_op w < 8 ∧ (ge_op w < 4 ↔ w < 4) ∧ ge_wr (ge_op w) = - ge_wr w := by decide +kernel
theorem ge_opp2 : ∀ w, w < 8 → ∀ a, a < 64 → ∀ d, d < 8 → d ≤ ge_st w a → d ≤ ge_st (ge_op w) (ge_at w a d) := by decide +kernel
theorem ge_opp3 : ∀ w, w < 8 → ∀ a, a < 64 → ∀ d, d < 8 → ∀ e, e < d + 1 → (decide (d ≤ ge_st w a) && !(ge_at (ge_op w) (ge_at w a d) e == ge_at w a (d - e))) = false := by decide +kernel
theorem ge_opp (w : Nat) (hw : w < 8) (a : Nat) (ha : a < 64) (d : Nat) (hd : d < 8) (h : d ≤ ge_st w a) (e : Nat) (he : e < d + 1) : ge_at (ge_op w) (ge_at w a d) e = ge_at w a (d - e) := by
  have := ge_opp3 w hw a ha d hd e he
  simp only [h, decide_true, Bool.true_and, Bool.not_eq_false', beq_iff_eq] at this
  exact this
theorem ge_at_i : ∀ w, w < 8 → ∀ a, a < 64 → ∀ d, d < 7 → d + 1 ≤ ge_st w a → (ge_at w a d : Int) + ge_ws w = (ge_at w a (d + 1) : Nat) := by decide +kernel
