/-! rays: what is free -/
theorem ge_wd_of {a s w d : Nat} (h : ge_wd a s = some (w, d)) : w < 8 ∧ 1 ≤ d ∧ d < 8 ∧ d ≤ ge_st w a ∧ ge_at w a d = s := by
  have h1 := List.mem_of_find?_eq_some h
  have h2 := List.find?_some h
  simp only [ge_all, List.mem_flatMap, List.mem_map, List.mem_range, List.mem_range'_1, Prod.mk.injEq, Bool.and_eq_true, decide_eq_true_eq, beq_iff_eq] at h1 h2
  obtain ⟨w', hw, d', hd, rfl, rfl⟩ := h1
  exact ⟨hw, by omega, by omega, h2.1, h2.2⟩
/-- the squares strictly before distance d on a way are empty -/
def ry (b : Bd) (w a : Nat) : Nat → Bool
  | 0 => true
  | 1 => true
  | d + 2 => ry b w a (d + 1) && (b (ge_at w a (d + 1))).val == 0
theorem ry_iff (b : Bd) (w a d : Nat) : ry b w a d = true ↔ ∀ e, 1 ≤ e → e < d → (b (ge_at w a e)).val = 0 := by
  induction d with
  | zero => simp [ry]
  | succ d ih =>
    cases d with
    | zero => simp only [ry, true_iff]; intro e h1 h2; omega
    | succ d =>
      simp only [ry, Bool.and_eq_true, beq_iff_eq, ih]
      constructor
      · rintro ⟨h1, h2⟩ e h3 h4
        by_cases h5 : e = d + 1
        · rw [h5]; exact h2
        · exact h1 e h3 (by omega)
      · intro h
        exact ⟨fun e h1 h2 => h e h1 (by omega), h _ (by omega) (by omega)⟩
def fr (b : Bd) (a s : Nat) : Bool := match ge_wd a s with
  | some (w, d) => ry b w a d
  | none => false
theorem m_free_lo {b : Bd} {w a D : Nat} (hw : w < 8) (ha : a < 64) (hD : D ≤ ge_st w a) (a1 : Int32) : ∀ (k d n : Nat), d + k = D → 1 ≤ d → k + 1 ≤ n → ry b w a d = true →
    lo_M_free_34 (bq b) a1 (iI (ge_at w a D : Int)) n (iI (ge_ws w)) (iI (ge_at w a d : Int)) = some (ge_z (ry b w a D)) := by
  have h7 := ge_st_le w hw a ha
  intro k
  induction k with
  | zero =>
    intro d n hd h1 hn hr
    obtain ⟨n, rfl⟩ : ∃ m, n = m + 1 := ⟨n - 1, by omega⟩
    have : d = D := by omega
    subst this
    rw [lo_M_free_34_s, if_pos rfl, bk_M_free_59, if_pos rfl, hr]
    rfl
  | succ k ih =>
    intro d n hd h1 hn hr
    obtain ⟨n, rfl⟩ : ∃ m, n = m + 1 := ⟨n - 1, by omega⟩
    have l1 := ge_at_lt w hw a ha d (by omega) (by omega)
    have l2 := ge_at_lt w hw a ha D (by omega) (by omega)
    have hne : ge_at w a d ≠ ge_at w a D := by
      intro h
      have e1 := ge_wd_in w hw a ha d (by omega) (by omega) (by omega)
      have e2 := ge_wd_in w hw a ha D (by omega) (by omega) (by omega)
      rw [h, e2] at e1
      injection e1 with e1
      injection e1 with _ e1
      omega
    have hstep := ge_at_i w hw a ha d (by omega) (by omega)
    rw [lo_M_free_34_s]
    by_cases h0 : (b (ge_at w a d)).val = 0
    · simp (disch := omega) only [qq_let, iI_ckt, Option.bind_some, iI_n, iI_lit, iI_neg, iI_add, iI_sub, iI_mul, iI_lt, iI_le, iI_eq, iI_div, iI_cn, iI_cl, iI_in, Int.toNat_natCast, if_pos, if_neg, bq, hstep]
      rw [ih (d + 1) n (by omega) (by omega) (by omega) (by
        obtain ⟨d, rfl⟩ : ∃ m, d = m + 1 := ⟨d - 1, by omega⟩
        simp [ry, hr, h0])]
    · have hf : ry b w a D = false := by
        cases hh : ry b w a D with
        | false => rfl
        | true => exact absurd ((ry_iff b w a D).mp hh d h1 (by omega)) h0
      simp (disch := omega) only [qq_let, iI_ckt, Option.bind_some, iI_n, iI_lit, iI_neg, iI_add, iI_sub, iI_mul, iI_lt, iI_le, iI_eq, iI_div, iI_cn, iI_cl, iI_in, Int.toNat_natCast, if_pos, if_neg, bq, bk_M_free_59, bk_M_free_70, iI_b0, hf]
      rfl
theorem m_free {b : Bd} {a s : Nat} (ha : a < 64) {w d : Nat} (h : ge_wd a s = some (w, d)) : fn_M_free (bq b) (iI (a : Int)) (iI (s : Int)) = some (ge_z (fr b a s)) := by
  obtain ⟨hw, h1, h2, h3, rfl⟩ := ge_wd_of h
  obtain ⟨-, -, -, hs, -⟩ := ge_wd_fr w hw a ha d h2 h1 h3
  have l2 := ge_at_lt w hw a ha d h2 h3
  have hi := ge_at_i w hw a ha 0 (by omega) (by omega)
  have h0 : ge_at w a 0 = a := by simp [ge_at]
  rw [h0] at hi
  rw [fn_M_free]
  simp (disch := omega) only [qq_let, iI_ckt, Option.bind_some, iI_n, iI_lit, iI_neg, iI_add, iI_sub, iI_mul, iI_lt, iI_le, iI_eq, iI_div, iI_cn, iI_cl, iI_in, Int.toNat_natCast, if_pos, if_neg, bq, iI_md, m_sign]
  have hs' : (8 : Int) * ((ge_at w a d : Int) / 8 - (a : Int) / 8).sign + ((ge_at w a d : Int) % 8 - (a : Int) % 8).sign = ge_ws w := by
    rw [← hs]; rfl
  simp only [hs', hi]
  rw [m_free_lo hw ha h3 _ (d - 1) 1 qq_FU (by omega) (by omega) (by have : qq_FU = 1000 := rfl; omega) rfl]
  simp only [fr, h]
