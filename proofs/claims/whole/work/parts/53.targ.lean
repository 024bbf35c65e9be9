/-! targets on ways and by jumps, as lists of squares -/
def orl (t : Nat) (l : List Nat) : Nat := l.foldl (fun t s => t ||| 2 ^ s) t
theorem orl_app (t : Nat) (l m : List Nat) : orl t (l ++ m) = orl (orl t l) m := List.foldl_append
theorem orl_cons (t s : Nat) (l : List Nat) : orl t (s :: l) = orl (t ||| 2 ^ s) l := rfl
theorem orl_nil (t : Nat) : orl t [] = t := rfl
theorem orl_lt : ∀ (l : List Nat) (t : Nat), t < 2 ^ 64 → (∀ s ∈ l, s < 64) → orl t l < 2 ^ 64
  | [], t, h, _ => h
  | s :: l, t, h, hl => orl_lt l _ (Nat.or_lt_two_pow h (wb_lt2 (hl s List.mem_cons_self))) (fun x hx => hl x (List.mem_cons_of_mem _ hx))
theorem orl_bit : ∀ (l : List Nat) (t j : Nat), (orl t l).testBit j = (t.testBit j || decide (j ∈ l))
  | [], t, j => by simp [orl]
  | s :: l, t, j => by
    rw [orl_cons, orl_bit l, Nat.testBit_or, Nat.testBit_two_pow]
    by_cases h : s = j
    · subst h; simp
    · have h2 : ¬ j = s := fun e => h e.symm
      simp [h, h2]
theorem ol_bit {t s : Nat} (ht : t < 2 ^ 64) (hs : s < 64) : lN t ||| ((1 : Int64) <<< ((iI (s : Int)).toInt64 &&& 63)) = lN (t ||| 2 ^ s) := by
  rw [← iI_n, show (1 : Int64) = lN 1 from rfl, wb_shl 1 hs, Nat.one_mul, wb_or ht (wb_lt2 hs)]
theorem ol_0 : (0 : Int64) = lN 0 := rfl
theorem p_isOther' : ∀ (p : Fin 13) (sd : Nat), sd < 2 → (if iI (p.val : Int) - 6 * (1 - iI (sd : Int)) < 1 then bk_P_isOther_33 (iI (sd : Int)) (fun _ => 0) 0 0 else (if 6 < iI (p.val : Int) - 6 * (1 - iI (sd : Int)) then bk_P_isOther_33 (iI (sd : Int)) (fun _ => 0) 0 0 else bk_P_isOther_33 (iI (sd : Int)) (fun _ => 0) 0 1)) = some (ge_z (isOf p (1 - sd))) := by decide +kernel
theorem p_isOther {b : Bd} {sd s : Nat} (hsd : sd < 2) (hs : s < 64) : fn_P_isOther (iI (sd : Int)) (bq b) (iI (s : Int)) = some (ge_z (isOf (b s) (1 - sd))) := by
  rw [fn_P_isOther]
  repeat (first | (refine hd_ck ?_ ?_; focus (simp (disch := omega) only [qq_let, Bool.true_eq_false, iI_z0, iI_bz0, iI_bz1, iI_bz, iI_ckt, Option.bind_some, iI_n, iI_lit, iI_neg, iI_add, iI_sub, iI_mul, iI_ltT, iI_ltF, iI_leT, iI_leF, iI_eqT, iI_eqF, iI_div, iI_cn, iI_cl, iI_in, Int.toNat_natCast, if_true, if_false, bq, not_false_eq_true]; done)) | (refine hd_T ?_ ?_; focus (simp (disch := omega) only [qq_let, Bool.true_eq_false, iI_z0, iI_bz0, iI_bz1, iI_bz, iI_ckt, Option.bind_some, iI_n, iI_lit, iI_neg, iI_add, iI_sub, iI_mul, iI_ltT, iI_ltF, iI_leT, iI_leF, iI_eqT, iI_eqF, iI_div, iI_cn, iI_cl, iI_in, Int.toNat_natCast, if_true, if_false, bq, not_false_eq_true]; done)) | (refine hd_F ?_ ?_; focus (simp (disch := omega) only [qq_let, Bool.true_eq_false, iI_z0, iI_bz0, iI_bz1, iI_bz, iI_ckt, Option.bind_some, iI_n, iI_lit, iI_neg, iI_add, iI_sub, iI_mul, iI_ltT, iI_ltF, iI_leT, iI_leF, iI_eqT, iI_eqF, iI_div, iI_cn, iI_cl, iI_in, Int.toNat_natCast, if_true, if_false, bq, not_false_eq_true]; done)) | (refine hd_b (v := ?_) ?_ ?_; rotate_left; focus (simp (disch := omega) only [qq_let, Bool.true_eq_false, iI_z0, iI_bz0, iI_bz1, iI_bz, iI_ckt, Option.bind_some, iI_n, iI_lit, iI_neg, iI_add, iI_sub, iI_mul, iI_ltT, iI_ltF, iI_leT, iI_leF, iI_eqT, iI_eqF, iI_div, iI_cn, iI_cl, iI_in, Int.toNat_natCast, if_true, if_false, bq, not_false_eq_true]; rfl)) | with_reducible rfl)
  show (if bq b (iI (s : Int)).toNatClampNeg - 6 * (1 - iI (sd : Int)) < 1 then _ else _) = _
  rw [iI_cn (by omega)]
  exact p_isOther' (b s) sd hsd
/-- a square that a piece of a side may go to: empty or the other side's -/
def may (b : Bd) (sd s : Nat) : Bool := (b s).val == 0 || isOf (b s) (1 - sd)
theorem may_own : ∀ (p : Fin 13) (sd : Nat), sd < 2 → ((p.val == 0 || isOf p (1 - sd)) = !(isOf p sd)) := by decide
def tw (b : Bd) (sd w a : Nat) : Nat → Nat → List Nat
  | 0, _ => []
  | k + 1, d => if (b (ge_at w a d)).val = 0 then ge_at w a d :: tw b sd w a k (d + 1) else if isOf (b (ge_at w a d)) (1 - sd) = true then [ge_at w a d] else []
theorem tw_mem (b : Bd) (sd w a j : Nat) : ∀ (k d : Nat), j ∈ tw b sd w a k d ↔ ∃ e, d ≤ e ∧ e < d + k ∧ j = ge_at w a e ∧ (∀ f, d ≤ f → f < e → (b (ge_at w a f)).val = 0) ∧ may b sd (ge_at w a e) = true := by
  intro k
  induction k with
  | zero =>
    intro d
    simp only [tw, List.not_mem_nil, false_iff]
    rintro ⟨e, h1, h2, -⟩
    omega
  | succ k ih =>
    intro d
    simp only [tw]
    by_cases c : (b (ge_at w a d)).val = 0
    · rw [if_pos c, List.mem_cons, ih]
      constructor
      · rintro (h | ⟨e, h1, h2, h3, h4, h5⟩)
        · exact ⟨d, by omega, by omega, h, fun f f1 f2 => by omega, by simp [may, c]⟩
        · refine ⟨e, by omega, by omega, h3, fun f f1 f2 => ?_, h5⟩
          by_cases c2 : f = d
          · rw [c2]; exact c
          · exact h4 f (by omega) f2
      · rintro ⟨e, h1, h2, h3, h4, h5⟩
        by_cases c2 : e = d
        · left; rw [h3, c2]
        · right; exact ⟨e, by omega, by omega, h3, fun f f1 f2 => h4 f (by omega) f2, h5⟩
    · rw [if_neg c]
      constructor
      · intro h
        by_cases c2 : isOf (b (ge_at w a d)) (1 - sd) = true
        · rw [if_pos c2, List.mem_singleton] at h
          exact ⟨d, by omega, by omega, h, fun f f1 f2 => by omega, by simp [may, c2]⟩
        · rw [if_neg c2] at h; exact absurd h List.not_mem_nil
      · rintro ⟨e, h1, h2, h3, h4, h5⟩
        have c2 : e = d := by
          by_cases c2 : e = d
          · exact c2
          · exact absurd (h4 d (by omega) (by omega)) c
        subst c2
        have h6 : isOf (b (ge_at w a e)) (1 - sd) = true := by
          simp only [may, Bool.or_eq_true, beq_iff_eq] at h5
          rcases h5 with h5 | h5
          · exact absurd h5 c
          · exact h5
        rw [if_pos h6, List.mem_singleton]; exact h3
theorem tw_len (b : Bd) (sd w a : Nat) : ∀ (k d : Nat), (tw b sd w a k d).length ≤ k := by
  intro k
  induction k with
  | zero => intro d; simp [tw]
  | succ k ih =>
    intro d
    simp only [tw]
    split
    · have := ih (d + 1); simp; omega
    · split <;> simp
theorem p_ways_in {b : Bd} {sd w a S : Nat} (hsd : sd < 2) (hw : w < 8) (ha : a < 64) (hS : S ≤ ge_st w a) (a2 a3 a4 : Int32) (k6 : Int64 → Int32 → Option Int64) : ∀ (k d n t : Nat), d + k = S → k + 2 ≤ n → t < 2 ^ 64 →
    lo_P_targetsOnWays_34 (iI (sd : Int)) (bq b) (iI (a : Int)) a2 a3 a4 k6 n (lN t) (iI (w : Int)) (iI (S : Int)) (iI (ge_at w a d : Int)) 1 (iI ((d + 1 : Nat) : Int)) = k6 (lN (orl t (tw b sd w a k (d + 1)))) (iI ((w + 1 : Nat) : Int)) := by
  have h7 := ge_st_le w hw a ha
  have ew := iI_s1 w
  intro k
  induction k with
  | zero =>
    intro d n t hd hn ht
    obtain ⟨n, rfl⟩ : ∃ m, n = m + 1 := ⟨n - 1, by omega⟩
    rw [lo_P_targetsOnWays_34_s, bk_P_targetsOnWays_103]
    simp only [tw, orl_nil, qq_let, ew]
    repeat (first | (refine hd_ck ?_ ?_; focus (simp (disch := omega) only [qq_let, Bool.true_eq_false, iI_z0, iI_bz0, iI_bz1, iI_bz, iI_ckt, Option.bind_some, iI_n, iI_lit, iI_neg, iI_add, iI_sub, iI_mul, iI_ltT, iI_ltF, iI_leT, iI_leF, iI_eqT, iI_eqF, iI_div, iI_cn, iI_cl, iI_in, Int.toNat_natCast, if_true, if_false, bq, not_false_eq_true]; done)) | (refine hd_T ?_ ?_; focus (simp (disch := omega) only [qq_let, Bool.true_eq_false, iI_z0, iI_bz0, iI_bz1, iI_bz, iI_ckt, Option.bind_some, iI_n, iI_lit, iI_neg, iI_add, iI_sub, iI_mul, iI_ltT, iI_ltF, iI_leT, iI_leF, iI_eqT, iI_eqF, iI_div, iI_cn, iI_cl, iI_in, Int.toNat_natCast, if_true, if_false, bq, not_false_eq_true]; done)) | (refine hd_F ?_ ?_; focus (simp (disch := omega) only [qq_let, Bool.true_eq_false, iI_z0, iI_bz0, iI_bz1, iI_bz, iI_ckt, Option.bind_some, iI_n, iI_lit, iI_neg, iI_add, iI_sub, iI_mul, iI_ltT, iI_ltF, iI_leT, iI_leF, iI_eqT, iI_eqF, iI_div, iI_cn, iI_cl, iI_in, Int.toNat_natCast, if_true, if_false, bq, not_false_eq_true]; done)) | (refine hd_b (v := ?_) ?_ ?_; rotate_left; focus (simp (disch := omega) only [qq_let, Bool.true_eq_false, iI_z0, iI_bz0, iI_bz1, iI_bz, iI_ckt, Option.bind_some, iI_n, iI_lit, iI_neg, iI_add, iI_sub, iI_mul, iI_ltT, iI_ltF, iI_leT, iI_leF, iI_eqT, iI_eqF, iI_div, iI_cn, iI_cl, iI_in, Int.toNat_natCast, if_true, if_false, bq, not_false_eq_true]; rfl)) | with_reducible rfl)
  | succ k ih =>
    intro d n t hd hn ht
    obtain ⟨n, rfl⟩ : ∃ m, n = m + 1 := ⟨n - 1, by omega⟩
    have l1 := ge_at_lt w hw a ha (d + 1) (by omega) (by omega)
    have hstep := ge_at_s w hw a ha d (by omega) (by omega)
    rw [iI_n, iI_n, iI_n] at hstep
    have ed := iI_s1 (d + 1)
    have hot := p_isOther (b := b) hsd l1
    have hor := ol_bit ht l1
    have hlt : t ||| 2 ^ ge_at w a (d + 1) < 2 ^ 64 := Nat.or_lt_two_pow ht (wb_lt2 l1)
    rw [lo_P_targetsOnWays_34_s]
    simp only [hstep, qq_let]
    by_cases c : (b (ge_at w a (d + 1))).val = 0
    · have go := ih (d + 1) n _ (by omega) (by omega) hlt
      simp only [tw, if_pos c, orl_cons]
      repeat (first | (refine hd_ck ?_ ?_; focus (simp (disch := omega) only [qq_let, Bool.true_eq_false, iI_z0, iI_bz0, iI_bz1, iI_bz, iI_ckt, Option.bind_some, iI_n, iI_lit, iI_neg, iI_add, iI_sub, iI_mul, iI_ltT, iI_ltF, iI_leT, iI_leF, iI_eqT, iI_eqF, iI_div, iI_cn, iI_cl, iI_in, Int.toNat_natCast, if_true, if_false, bq, not_false_eq_true]; done)) | (refine hd_T ?_ ?_; focus (simp (disch := omega) only [qq_let, Bool.true_eq_false, iI_z0, iI_bz0, iI_bz1, iI_bz, iI_ckt, Option.bind_some, iI_n, iI_lit, iI_neg, iI_add, iI_sub, iI_mul, iI_ltT, iI_ltF, iI_leT, iI_leF, iI_eqT, iI_eqF, iI_div, iI_cn, iI_cl, iI_in, Int.toNat_natCast, if_true, if_false, bq, not_false_eq_true]; done)) | (refine hd_F ?_ ?_; focus (simp (disch := omega) only [qq_let, Bool.true_eq_false, iI_z0, iI_bz0, iI_bz1, iI_bz, iI_ckt, Option.bind_some, iI_n, iI_lit, iI_neg, iI_add, iI_sub, iI_mul, iI_ltT, iI_ltF, iI_leT, iI_leF, iI_eqT, iI_eqF, iI_div, iI_cn, iI_cl, iI_in, Int.toNat_natCast, if_true, if_false, bq, not_false_eq_true]; done)) | (refine hd_b (v := ?_) ?_ ?_; rotate_left; focus (simp (disch := omega) only [qq_let, Bool.true_eq_false, iI_z0, iI_bz0, iI_bz1, iI_bz, iI_ckt, Option.bind_some, iI_n, iI_lit, iI_neg, iI_add, iI_sub, iI_mul, iI_ltT, iI_ltF, iI_leT, iI_leF, iI_eqT, iI_eqF, iI_div, iI_cn, iI_cl, iI_in, Int.toNat_natCast, if_true, if_false, bq, not_false_eq_true]; rfl)) | with_reducible rfl)
      simp only [bk_P_targetsOnWays_88, bk_P_targetsOnWays_97, qq_let, hor, ed]
      exact go
    · obtain ⟨n, rfl⟩ : ∃ m, n = m + 1 := ⟨n - 1, by omega⟩
      have stop : ∀ t' : Nat, lo_P_targetsOnWays_34 (iI (sd : Int)) (bq b) (iI (a : Int)) a2 a3 a4 k6 (n + 1) (lN t') (iI (w : Int)) (iI (S : Int)) (iI (ge_at w a (d + 1) : Int)) 0 (iI ((d + 1 + 1 : Nat) : Int)) = k6 (lN t') (iI ((w + 1 : Nat) : Int)) := by
        intro t'
        rw [lo_P_targetsOnWays_34_s, bk_P_targetsOnWays_103]
        simp only [qq_let, ew]
        split
        · rfl
        · repeat (first | (refine hd_ck ?_ ?_; focus (simp (disch := omega) only [qq_let, Bool.true_eq_false, iI_z0, iI_bz0, iI_bz1, iI_bz, iI_ckt, Option.bind_some, iI_n, iI_lit, iI_neg, iI_add, iI_sub, iI_mul, iI_ltT, iI_ltF, iI_leT, iI_leF, iI_eqT, iI_eqF, iI_div, iI_cn, iI_cl, iI_in, Int.toNat_natCast, if_true, if_false, bq, not_false_eq_true]; done)) | (refine hd_T ?_ ?_; focus (simp (disch := omega) only [qq_let, Bool.true_eq_false, iI_z0, iI_bz0, iI_bz1, iI_bz, iI_ckt, Option.bind_some, iI_n, iI_lit, iI_neg, iI_add, iI_sub, iI_mul, iI_ltT, iI_ltF, iI_leT, iI_leF, iI_eqT, iI_eqF, iI_div, iI_cn, iI_cl, iI_in, Int.toNat_natCast, if_true, if_false, bq, not_false_eq_true]; done)) | (refine hd_F ?_ ?_; focus (simp (disch := omega) only [qq_let, Bool.true_eq_false, iI_z0, iI_bz0, iI_bz1, iI_bz, iI_ckt, Option.bind_some, iI_n, iI_lit, iI_neg, iI_add, iI_sub, iI_mul, iI_ltT, iI_ltF, iI_leT, iI_leF, iI_eqT, iI_eqF, iI_div, iI_cn, iI_cl, iI_in, Int.toNat_natCast, if_true, if_false, bq, not_false_eq_true]; done)) | (refine hd_b (v := ?_) ?_ ?_; rotate_left; focus (simp (disch := omega) only [qq_let, Bool.true_eq_false, iI_z0, iI_bz0, iI_bz1, iI_bz, iI_ckt, Option.bind_some, iI_n, iI_lit, iI_neg, iI_add, iI_sub, iI_mul, iI_ltT, iI_ltF, iI_leT, iI_leF, iI_eqT, iI_eqF, iI_div, iI_cn, iI_cl, iI_in, Int.toNat_natCast, if_true, if_false, bq, not_false_eq_true]; rfl)) | with_reducible rfl)
      simp only [tw, if_neg c]
      cases h : isOf (b (ge_at w a (d + 1))) (1 - sd) with
      | true =>
        rw [h] at hot
        repeat (first | (refine hd_ck ?_ ?_; focus (simp (disch := omega) only [qq_let, Bool.true_eq_false, iI_z0, iI_bz0, iI_bz1, iI_bz, iI_ckt, Option.bind_some, iI_n, iI_lit, iI_neg, iI_add, iI_sub, iI_mul, iI_ltT, iI_ltF, iI_leT, iI_leF, iI_eqT, iI_eqF, iI_div, iI_cn, iI_cl, iI_in, Int.toNat_natCast, if_true, if_false, bq, hot, not_false_eq_true]; done)) | (refine hd_T ?_ ?_; focus (simp (disch := omega) only [qq_let, Bool.true_eq_false, iI_z0, iI_bz0, iI_bz1, iI_bz, iI_ckt, Option.bind_some, iI_n, iI_lit, iI_neg, iI_add, iI_sub, iI_mul, iI_ltT, iI_ltF, iI_leT, iI_leF, iI_eqT, iI_eqF, iI_div, iI_cn, iI_cl, iI_in, Int.toNat_natCast, if_true, if_false, bq, hot, not_false_eq_true]; done)) | (refine hd_F ?_ ?_; focus (simp (disch := omega) only [qq_let, Bool.true_eq_false, iI_z0, iI_bz0, iI_bz1, iI_bz, iI_ckt, Option.bind_some, iI_n, iI_lit, iI_neg, iI_add, iI_sub, iI_mul, iI_ltT, iI_ltF, iI_leT, iI_leF, iI_eqT, iI_eqF, iI_div, iI_cn, iI_cl, iI_in, Int.toNat_natCast, if_true, if_false, bq, hot, not_false_eq_true]; done)) | (refine hd_b (v := ?_) ?_ ?_; rotate_left; focus (simp (disch := omega) only [qq_let, Bool.true_eq_false, iI_z0, iI_bz0, iI_bz1, iI_bz, iI_ckt, Option.bind_some, iI_n, iI_lit, iI_neg, iI_add, iI_sub, iI_mul, iI_ltT, iI_ltF, iI_leT, iI_leF, iI_eqT, iI_eqF, iI_div, iI_cn, iI_cl, iI_in, Int.toNat_natCast, if_true, if_false, bq, hot, not_false_eq_true]; rfl)) | with_reducible rfl)
        simp only [bk_P_targetsOnWays_88, bk_P_targetsOnWays_97, qq_let, hor, ed, if_true, orl_cons, orl_nil]
        exact stop _
      | false =>
        rw [h] at hot
        repeat (first | (refine hd_ck ?_ ?_; focus (simp (disch := omega) only [qq_let, Bool.true_eq_false, iI_z0, iI_bz0, iI_bz1, iI_bz, iI_ckt, Option.bind_some, iI_n, iI_lit, iI_neg, iI_add, iI_sub, iI_mul, iI_ltT, iI_ltF, iI_leT, iI_leF, iI_eqT, iI_eqF, iI_div, iI_cn, iI_cl, iI_in, Int.toNat_natCast, if_true, if_false, bq, hot, not_false_eq_true]; done)) | (refine hd_T ?_ ?_; focus (simp (disch := omega) only [qq_let, Bool.true_eq_false, iI_z0, iI_bz0, iI_bz1, iI_bz, iI_ckt, Option.bind_some, iI_n, iI_lit, iI_neg, iI_add, iI_sub, iI_mul, iI_ltT, iI_ltF, iI_leT, iI_leF, iI_eqT, iI_eqF, iI_div, iI_cn, iI_cl, iI_in, Int.toNat_natCast, if_true, if_false, bq, hot, not_false_eq_true]; done)) | (refine hd_F ?_ ?_; focus (simp (disch := omega) only [qq_let, Bool.true_eq_false, iI_z0, iI_bz0, iI_bz1, iI_bz, iI_ckt, Option.bind_some, iI_n, iI_lit, iI_neg, iI_add, iI_sub, iI_mul, iI_ltT, iI_ltF, iI_leT, iI_leF, iI_eqT, iI_eqF, iI_div, iI_cn, iI_cl, iI_in, Int.toNat_natCast, if_true, if_false, bq, hot, not_false_eq_true]; done)) | (refine hd_b (v := ?_) ?_ ?_; rotate_left; focus (simp (disch := omega) only [qq_let, Bool.true_eq_false, iI_z0, iI_bz0, iI_bz1, iI_bz, iI_ckt, Option.bind_some, iI_n, iI_lit, iI_neg, iI_add, iI_sub, iI_mul, iI_ltT, iI_ltF, iI_leT, iI_leF, iI_eqT, iI_eqF, iI_div, iI_cn, iI_cl, iI_in, Int.toNat_natCast, if_true, if_false, bq, hot, not_false_eq_true]; rfl)) | with_reducible rfl)
        simp only [bk_P_targetsOnWays_88, bk_P_targetsOnWays_97, qq_let, ed, Bool.false_eq_true, if_false, orl_nil]
        exact stop _
def tws (b : Bd) (sd a r : Nat) (w k : Nat) : List Nat := (List.range' w k).flatMap fun w => tw b sd w a (min r (ge_st w a)) 1
theorem tw_lt {b : Bd} {sd w a S : Nat} (hw : w < 8) (ha : a < 64) (hS : S ≤ ge_st w a) : ∀ s ∈ tw b sd w a S 1, s < 64 := by
  intro s hs
  have h7 := ge_st_le w hw a ha
  rw [tw_mem] at hs
  obtain ⟨e, h1, h2, rfl, -, -⟩ := hs
  exact ge_at_lt w hw a ha e (by omega) (by omega)
theorem p_ways_lo {b : Bd} {sd a r E : Nat} (hsd : sd < 2) (ha : a < 64) (hr : r ≤ 7) (hE : E ≤ 8) (a2 : Int32) : ∀ (k w n t : Nat), w + k = E → k + 1 ≤ n → t < 2 ^ 64 →
    lo_P_targetsOnWays_6 (iI (sd : Int)) (bq b) (iI (a : Int)) a2 (iI (E : Int)) (iI (r : Int)) n (lN t) (iI (w : Int)) = some (lN (orl t (tws b sd a r w k))) := by
  intro k
  induction k with
  | zero =>
    intro w n t hw hn ht
    obtain ⟨n, rfl⟩ : ∃ m, n = m + 1 := ⟨n - 1, by omega⟩
    rw [lo_P_targetsOnWays_6_s]
    repeat (first | (refine hd_ck ?_ ?_; focus (simp (disch := omega) only [qq_let, Bool.true_eq_false, iI_z0, iI_bz0, iI_bz1, iI_bz, iI_ckt, Option.bind_some, iI_n, iI_lit, iI_neg, iI_add, iI_sub, iI_mul, iI_ltT, iI_ltF, iI_leT, iI_leF, iI_eqT, iI_eqF, iI_div, iI_cn, iI_cl, iI_in, Int.toNat_natCast, if_true, if_false, bq, not_false_eq_true]; done)) | (refine hd_T ?_ ?_; focus (simp (disch := omega) only [qq_let, Bool.true_eq_false, iI_z0, iI_bz0, iI_bz1, iI_bz, iI_ckt, Option.bind_some, iI_n, iI_lit, iI_neg, iI_add, iI_sub, iI_mul, iI_ltT, iI_ltF, iI_leT, iI_leF, iI_eqT, iI_eqF, iI_div, iI_cn, iI_cl, iI_in, Int.toNat_natCast, if_true, if_false, bq, not_false_eq_true]; done)) | (refine hd_F ?_ ?_; focus (simp (disch := omega) only [qq_let, Bool.true_eq_false, iI_z0, iI_bz0, iI_bz1, iI_bz, iI_ckt, Option.bind_some, iI_n, iI_lit, iI_neg, iI_add, iI_sub, iI_mul, iI_ltT, iI_ltF, iI_leT, iI_leF, iI_eqT, iI_eqF, iI_div, iI_cn, iI_cl, iI_in, Int.toNat_natCast, if_true, if_false, bq, not_false_eq_true]; done)) | (refine hd_b (v := ?_) ?_ ?_; rotate_left; focus (simp (disch := omega) only [qq_let, Bool.true_eq_false, iI_z0, iI_bz0, iI_bz1, iI_bz, iI_ckt, Option.bind_some, iI_n, iI_lit, iI_neg, iI_add, iI_sub, iI_mul, iI_ltT, iI_ltF, iI_leT, iI_leF, iI_eqT, iI_eqF, iI_div, iI_cn, iI_cl, iI_in, Int.toNat_natCast, if_true, if_false, bq, not_false_eq_true]; rfl)) | with_reducible rfl)
    simp [tws, orl]
  | succ k ih =>
    intro w n t hw hn ht
    obtain ⟨n, rfl⟩ : ∃ m, n = m + 1 := ⟨n - 1, by omega⟩
    have h7 := ge_st_le w (by omega) a ha
    have hst := ge_steps w (by omega) a ha
    rw [iI_n, iI_n, iI_n] at hst
    have hmin : (if iI (ge_st w a : Int) < iI (r : Int) then iI (ge_st w a : Int) else iI (r : Int)) = iI ((min r (ge_st w a) : Nat) : Int) := by
      simp (disch := omega) only [iI_lt]
      split
      · congr 2; omega
      · congr 2; omega
    have hin := p_ways_in (b := b) (w := w) (a := a) (S := min r (ge_st w a)) hsd (by omega) ha (by omega) a2 (iI (E : Int)) (iI (r : Int)) (lo_P_targetsOnWays_6 (iI (sd : Int)) (bq b) (iI (a : Int)) a2 (iI (E : Int)) (iI (r : Int)) n) (min r (ge_st w a)) 0 qq_FU t (by omega) (by have := fu1; omega) ht
    rw [show ge_at w a 0 = a from by simp [ge_at]] at hin
    have hlt := orl_lt (tw b sd w a (min r (ge_st w a)) 1) t ht (tw_lt (by omega) ha (by omega))
    rw [lo_P_targetsOnWays_6_s, hst]
    simp only [Option.bind_some, qq_let, hmin]
    rw [if_neg (by simp (disch := omega) only [qq_let, Bool.true_eq_false, iI_z0, iI_bz0, iI_bz1, iI_bz, iI_ckt, Option.bind_some, iI_n, iI_lit, iI_neg, iI_add, iI_sub, iI_mul, iI_ltT, iI_ltF, iI_leT, iI_leF, iI_eqT, iI_eqF, iI_div, iI_cn, iI_cl, iI_in, Int.toNat_natCast, if_true, if_false, bq, not_false_eq_true])]
    show lo_P_targetsOnWays_34 _ _ _ _ _ _ _ _ _ _ _ _ 1 (iI ((0 + 1 : Nat) : Int)) = _
    rw [hin, ih (w + 1) n _ (by omega) (by omega) hlt]
    simp only [tws, List.range'_succ, List.flatMap_cons, orl_app]
theorem tws_lt {b : Bd} {sd a r w k : Nat} (hk : w + k ≤ 8) (ha : a < 64) : ∀ s ∈ tws b sd a r w k, s < 64 := by
  intro s hs
  simp only [tws, List.mem_flatMap, List.mem_range'_1] at hs
  obtain ⟨v, hv, h⟩ := hs
  exact tw_lt (by omega) ha (Nat.min_le_right _ _) s h
theorem p_ways {b : Bd} {sd a r w k : Nat} (hsd : sd < 2) (ha : a < 64) (hr : r ≤ 7) (hk : w + k ≤ 8) : fn_P_targetsOnWays (iI (sd : Int)) (bq b) (iI (a : Int)) (iI (w : Int)) (iI ((w + k : Nat) : Int)) (iI (r : Int)) = some (lN (orl 0 (tws b sd a r w k))) := by
  rw [fn_P_targetsOnWays]
  exact p_ways_lo (b := b) (E := w + k) hsd ha hr (by omega) _ k w qq_FU 0 rfl (by have := fu1; omega) (by decide)
def tk1 (b : Bd) (sd a j : Nat) : List Nat := if ge_jin j a = true ∧ may b sd (ge_jt j a) = true then [ge_jt j a] else []
def tk (b : Bd) (sd a : Nat) (j k : Nat) : List Nat := (List.range' j k).flatMap (tk1 b sd a)
theorem p_knight_lo {b : Bd} {sd a : Nat} (hsd : sd < 2) (ha : a < 64) : ∀ (k j n t : Nat), j + k = 8 → k + 1 ≤ n → t < 2 ^ 64 →
    lo_P_targetsOfKnight_5 (iI (sd : Int)) (bq b) (iI (a : Int)) n (lN t) (iI (j : Int)) = some (lN (orl t (tk b sd a j k))) := by
  intro k
  induction k with
  | zero =>
    intro j n t hj hn ht
    obtain ⟨n, rfl⟩ : ∃ m, n = m + 1 := ⟨n - 1, by omega⟩
    rw [lo_P_targetsOfKnight_5_s]
    repeat (first | (refine hd_ck ?_ ?_; focus (simp (disch := omega) only [qq_let, Bool.true_eq_false, iI_z0, iI_bz0, iI_bz1, iI_bz, iI_ckt, Option.bind_some, iI_n, iI_lit, iI_neg, iI_add, iI_sub, iI_mul, iI_ltT, iI_ltF, iI_leT, iI_leF, iI_eqT, iI_eqF, iI_div, iI_cn, iI_cl, iI_in, Int.toNat_natCast, if_true, if_false, bq, not_false_eq_true]; done)) | (refine hd_T ?_ ?_; focus (simp (disch := omega) only [qq_let, Bool.true_eq_false, iI_z0, iI_bz0, iI_bz1, iI_bz, iI_ckt, Option.bind_some, iI_n, iI_lit, iI_neg, iI_add, iI_sub, iI_mul, iI_ltT, iI_ltF, iI_leT, iI_leF, iI_eqT, iI_eqF, iI_div, iI_cn, iI_cl, iI_in, Int.toNat_natCast, if_true, if_false, bq, not_false_eq_true]; done)) | (refine hd_F ?_ ?_; focus (simp (disch := omega) only [qq_let, Bool.true_eq_false, iI_z0, iI_bz0, iI_bz1, iI_bz, iI_ckt, Option.bind_some, iI_n, iI_lit, iI_neg, iI_add, iI_sub, iI_mul, iI_ltT, iI_ltF, iI_leT, iI_leF, iI_eqT, iI_eqF, iI_div, iI_cn, iI_cl, iI_in, Int.toNat_natCast, if_true, if_false, bq, not_false_eq_true]; done)) | (refine hd_b (v := ?_) ?_ ?_; rotate_left; focus (simp (disch := omega) only [qq_let, Bool.true_eq_false, iI_z0, iI_bz0, iI_bz1, iI_bz, iI_ckt, Option.bind_some, iI_n, iI_lit, iI_neg, iI_add, iI_sub, iI_mul, iI_ltT, iI_ltF, iI_leT, iI_leF, iI_eqT, iI_eqF, iI_div, iI_cn, iI_cl, iI_in, Int.toNat_natCast, if_true, if_false, bq, not_false_eq_true]; rfl)) | with_reducible rfl)
    simp [tk, orl]
  | succ k ih =>
    intro j n t hj hn ht
    obtain ⟨n, rfl⟩ : ∃ m, n = m + 1 := ⟨n - 1, by omega⟩
    have hju := ge_jump j (by omega) a ha
    rw [iI_n, iI_n] at hju
    have ej := iI_s1 j
    have e0 : tk b sd a j (k + 1) = tk1 b sd a j ++ tk b sd a (j + 1) k := by simp only [tk, List.range'_succ, List.flatMap_cons]
    rw [lo_P_targetsOfKnight_5_s, e0, orl_app]
    have goF : bk_P_targetsOfKnight_52 (iI (sd : Int)) (bq b) (iI (a : Int)) (lo_P_targetsOfKnight_5 (iI (sd : Int)) (bq b) (iI (a : Int)) n) (lN t) (iI (j : Int)) = some (lN (orl t (tk b sd a (j + 1) k))) := by
      simp only [bk_P_targetsOfKnight_52, qq_let, ej]
      exact ih (j + 1) n t (by omega) (by omega) ht
    cases hin : ge_jin j a with
    | false =>
      rw [hin] at hju
      have e1 : tk1 b sd a j = [] := by simp [tk1, hin]
      simp only [Bool.false_eq_true, if_false, iI_m1] at hju
      rw [e1, orl_nil]
      repeat (first | with_reducible exact goF | (refine hd_ck ?_ ?_; focus (simp (disch := omega) only [qq_let, Bool.true_eq_false, iI_z0, iI_bz0, iI_bz1, iI_bz, iI_ckt, Option.bind_some, iI_n, iI_lit, iI_neg, iI_add, iI_sub, iI_mul, iI_ltT, iI_ltF, iI_leT, iI_leF, iI_eqT, iI_eqF, iI_div, iI_cn, iI_cl, iI_in, Int.toNat_natCast, if_true, if_false, bq, hju, not_false_eq_true]; done)) | (refine hd_T ?_ ?_; focus (simp (disch := omega) only [qq_let, Bool.true_eq_false, iI_z0, iI_bz0, iI_bz1, iI_bz, iI_ckt, Option.bind_some, iI_n, iI_lit, iI_neg, iI_add, iI_sub, iI_mul, iI_ltT, iI_ltF, iI_leT, iI_leF, iI_eqT, iI_eqF, iI_div, iI_cn, iI_cl, iI_in, Int.toNat_natCast, if_true, if_false, bq, hju, not_false_eq_true]; done)) | (refine hd_F ?_ ?_; focus (simp (disch := omega) only [qq_let, Bool.true_eq_false, iI_z0, iI_bz0, iI_bz1, iI_bz, iI_ckt, Option.bind_some, iI_n, iI_lit, iI_neg, iI_add, iI_sub, iI_mul, iI_ltT, iI_ltF, iI_leT, iI_leF, iI_eqT, iI_eqF, iI_div, iI_cn, iI_cl, iI_in, Int.toNat_natCast, if_true, if_false, bq, hju, not_false_eq_true]; done)) | (refine hd_b (v := ?_) ?_ ?_; rotate_left; focus (simp (disch := omega) only [qq_let, Bool.true_eq_false, iI_z0, iI_bz0, iI_bz1, iI_bz, iI_ckt, Option.bind_some, iI_n, iI_lit, iI_neg, iI_add, iI_sub, iI_mul, iI_ltT, iI_ltF, iI_leT, iI_leF, iI_eqT, iI_eqF, iI_div, iI_cn, iI_cl, iI_in, Int.toNat_natCast, if_true, if_false, bq, hju, not_false_eq_true]; rfl)) | with_reducible rfl)
    | true =>
      have l := ge_jt_lt j (by omega) a ha hin
      have hot := p_isOther (b := b) hsd l
      have hor := ol_bit ht l
      have hlt : t ||| 2 ^ ge_jt j a < 2 ^ 64 := Nat.or_lt_two_pow ht (wb_lt2 l)
      rw [hin] at hju
      simp only [if_true, iI_n] at hju
      have goT : bk_P_targetsOfKnight_45 (iI (sd : Int)) (bq b) (iI (a : Int)) (lo_P_targetsOfKnight_5 (iI (sd : Int)) (bq b) (iI (a : Int)) n) (lN t) (iI (j : Int)) (iI (ge_jt j a : Int)) = some (lN (orl (t ||| 2 ^ ge_jt j a) (tk b sd a (j + 1) k))) := by
        simp only [bk_P_targetsOfKnight_45, bk_P_targetsOfKnight_52, qq_let, ej, hor]
        exact ih (j + 1) n _ (by omega) (by omega) hlt
      by_cases c : (b (ge_jt j a)).val = 0
      · have e1 : tk1 b sd a j = [ge_jt j a] := by simp [tk1, hin, may, c]
        rw [e1, orl_cons, orl_nil]
        repeat (first | with_reducible exact goT | (refine hd_ck ?_ ?_; focus (simp (disch := omega) only [qq_let, Bool.true_eq_false, iI_z0, iI_bz0, iI_bz1, iI_bz, iI_ckt, Option.bind_some, iI_n, iI_lit, iI_neg, iI_add, iI_sub, iI_mul, iI_ltT, iI_ltF, iI_leT, iI_leF, iI_eqT, iI_eqF, iI_div, iI_cn, iI_cl, iI_in, Int.toNat_natCast, if_true, if_false, bq, hju, not_false_eq_true]; done)) | (refine hd_T ?_ ?_; focus (simp (disch := omega) only [qq_let, Bool.true_eq_false, iI_z0, iI_bz0, iI_bz1, iI_bz, iI_ckt, Option.bind_some, iI_n, iI_lit, iI_neg, iI_add, iI_sub, iI_mul, iI_ltT, iI_ltF, iI_leT, iI_leF, iI_eqT, iI_eqF, iI_div, iI_cn, iI_cl, iI_in, Int.toNat_natCast, if_true, if_false, bq, hju, not_false_eq_true]; done)) | (refine hd_F ?_ ?_; focus (simp (disch := omega) only [qq_let, Bool.true_eq_false, iI_z0, iI_bz0, iI_bz1, iI_bz, iI_ckt, Option.bind_some, iI_n, iI_lit, iI_neg, iI_add, iI_sub, iI_mul, iI_ltT, iI_ltF, iI_leT, iI_leF, iI_eqT, iI_eqF, iI_div, iI_cn, iI_cl, iI_in, Int.toNat_natCast, if_true, if_false, bq, hju, not_false_eq_true]; done)) | (refine hd_b (v := ?_) ?_ ?_; rotate_left; focus (simp (disch := omega) only [qq_let, Bool.true_eq_false, iI_z0, iI_bz0, iI_bz1, iI_bz, iI_ckt, Option.bind_some, iI_n, iI_lit, iI_neg, iI_add, iI_sub, iI_mul, iI_ltT, iI_ltF, iI_leT, iI_leF, iI_eqT, iI_eqF, iI_div, iI_cn, iI_cl, iI_in, Int.toNat_natCast, if_true, if_false, bq, hju, not_false_eq_true]; rfl)) | with_reducible rfl)
      · cases h : isOf (b (ge_jt j a)) (1 - sd) with
        | true =>
          rw [h] at hot
          have e1 : tk1 b sd a j = [ge_jt j a] := by simp [tk1, hin, may, h]
          rw [e1, orl_cons, orl_nil]
          repeat (first | with_reducible exact goT | (refine hd_ck ?_ ?_; focus (simp (disch := omega) only [qq_let, Bool.true_eq_false, iI_z0, iI_bz0, iI_bz1, iI_bz, iI_ckt, Option.bind_some, iI_n, iI_lit, iI_neg, iI_add, iI_sub, iI_mul, iI_ltT, iI_ltF, iI_leT, iI_leF, iI_eqT, iI_eqF, iI_div, iI_cn, iI_cl, iI_in, Int.toNat_natCast, if_true, if_false, bq, hju, hot, not_false_eq_true]; done)) | (refine hd_T ?_ ?_; focus (simp (disch := omega) only [qq_let, Bool.true_eq_false, iI_z0, iI_bz0, iI_bz1, iI_bz, iI_ckt, Option.bind_some, iI_n, iI_lit, iI_neg, iI_add, iI_sub, iI_mul, iI_ltT, iI_ltF, iI_leT, iI_leF, iI_eqT, iI_eqF, iI_div, iI_cn, iI_cl, iI_in, Int.toNat_natCast, if_true, if_false, bq, hju, hot, not_false_eq_true]; done)) | (refine hd_F ?_ ?_; focus (simp (disch := omega) only [qq_let, Bool.true_eq_false, iI_z0, iI_bz0, iI_bz1, iI_bz, iI_ckt, Option.bind_some, iI_n, iI_lit, iI_neg, iI_add, iI_sub, iI_mul, iI_ltT, iI_ltF, iI_leT, iI_leF, iI_eqT, iI_eqF, iI_div, iI_cn, iI_cl, iI_in, Int.toNat_natCast, if_true, if_false, bq, hju, hot, not_false_eq_true]; done)) | (refine hd_b (v := ?_) ?_ ?_; rotate_left; focus (simp (disch := omega) only [qq_let, Bool.true_eq_false, iI_z0, iI_bz0, iI_bz1, iI_bz, iI_ckt, Option.bind_some, iI_n, iI_lit, iI_neg, iI_add, iI_sub, iI_mul, iI_ltT, iI_ltF, iI_leT, iI_leF, iI_eqT, iI_eqF, iI_div, iI_cn, iI_cl, iI_in, Int.toNat_natCast, if_true, if_false, bq, hju, hot, not_false_eq_true]; rfl)) | with_reducible rfl)
        | false =>
          rw [h] at hot
          have e1 : tk1 b sd a j = [] := by simp [tk1, may, h, c]
          rw [e1, orl_nil]
          repeat (first | with_reducible exact goF | (refine hd_ck ?_ ?_; focus (simp (disch := omega) only [qq_let, Bool.true_eq_false, iI_z0, iI_bz0, iI_bz1, iI_bz, iI_ckt, Option.bind_some, iI_n, iI_lit, iI_neg, iI_add, iI_sub, iI_mul, iI_ltT, iI_ltF, iI_leT, iI_leF, iI_eqT, iI_eqF, iI_div, iI_cn, iI_cl, iI_in, Int.toNat_natCast, if_true, if_false, bq, hju, hot, not_false_eq_true]; done)) | (refine hd_T ?_ ?_; focus (simp (disch := omega) only [qq_let, Bool.true_eq_false, iI_z0, iI_bz0, iI_bz1, iI_bz, iI_ckt, Option.bind_some, iI_n, iI_lit, iI_neg, iI_add, iI_sub, iI_mul, iI_ltT, iI_ltF, iI_leT, iI_leF, iI_eqT, iI_eqF, iI_div, iI_cn, iI_cl, iI_in, Int.toNat_natCast, if_true, if_false, bq, hju, hot, not_false_eq_true]; done)) | (refine hd_F ?_ ?_; focus (simp (disch := omega) only [qq_let, Bool.true_eq_false, iI_z0, iI_bz0, iI_bz1, iI_bz, iI_ckt, Option.bind_some, iI_n, iI_lit, iI_neg, iI_add, iI_sub, iI_mul, iI_ltT, iI_ltF, iI_leT, iI_leF, iI_eqT, iI_eqF, iI_div, iI_cn, iI_cl, iI_in, Int.toNat_natCast, if_true, if_false, bq, hju, hot, not_false_eq_true]; done)) | (refine hd_b (v := ?_) ?_ ?_; rotate_left; focus (simp (disch := omega) only [qq_let, Bool.true_eq_false, iI_z0, iI_bz0, iI_bz1, iI_bz, iI_ckt, Option.bind_some, iI_n, iI_lit, iI_neg, iI_add, iI_sub, iI_mul, iI_ltT, iI_ltF, iI_leT, iI_leF, iI_eqT, iI_eqF, iI_div, iI_cn, iI_cl, iI_in, Int.toNat_natCast, if_true, if_false, bq, hju, hot, not_false_eq_true]; rfl)) | with_reducible rfl)
theorem p_knight {b : Bd} {sd a : Nat} (hsd : sd < 2) (ha : a < 64) : fn_P_targetsOfKnight (iI (sd : Int)) (bq b) (iI (a : Int)) = some (lN (orl 0 (tk b sd a 0 8))) := by
  rw [fn_P_targetsOfKnight]
  exact p_knight_lo hsd ha 8 0 qq_FU 0 (by omega) (by have := fu1; omega) (by decide)
theorem tk_lt {b : Bd} {sd a : Nat} (ha : a < 64) : ∀ s ∈ tk b sd a 0 8, s < 64 := by
  intro s hs
  simp only [tk, List.mem_flatMap, List.mem_range'_1, tk1] at hs
  obtain ⟨j, hj, h⟩ := hs
  split at h
  · rename_i h2
    rw [List.mem_singleton] at h
    rw [h]
    exact ge_jt_lt j (by omega) a ha h2.1
  · exact absurd h List.not_mem_nil
/-- targets of a piece that is no pawn, castling aside -/
def tp (b : Bd) (sd a : Nat) (kind : Nat) : List Nat := if kind = 2 then tk b sd a 0 8 else if kind = 3 then tws b sd a 7 4 4 else if kind = 4 then tws b sd a 7 0 4 else if kind = 5 then tws b sd a 7 0 8 else tws b sd a 1 0 8
theorem p_piece {b : Bd} {sd a kind : Nat} (hsd : sd < 2) (ha : a < 64) (hk : kind < 7) : fn_P_targetsOfPiece (iI (sd : Int)) (bq b) (iI (kind : Int)) (iI (a : Int)) = some (lN (orl 0 (tp b sd a kind))) := by
  have h1 := p_knight (b := b) hsd ha
  have h3 := p_ways (b := b) (a := a) (r := 7) (w := 4) (k := 4) hsd ha (by omega) (by omega)
  have h4 := p_ways (b := b) (a := a) (r := 7) (w := 0) (k := 4) hsd ha (by omega) (by omega)
  have h5 := p_ways (b := b) (a := a) (r := 7) (w := 0) (k := 8) hsd ha (by omega) (by omega)
  have h6 := p_ways (b := b) (a := a) (r := 1) (w := 0) (k := 8) hsd ha (by omega) (by omega)
  rw [fn_P_targetsOfPiece, tp]
  by_cases c2 : kind = 2
  · rw [if_pos c2, if_pos (by rw [c2]; rfl), h1]; rfl
  · rw [if_neg c2, if_neg (by simp (disch := omega) only [qq_let, Bool.true_eq_false, iI_z0, iI_bz0, iI_bz1, iI_bz, iI_ckt, Option.bind_some, iI_n, iI_lit, iI_neg, iI_add, iI_sub, iI_mul, iI_ltT, iI_ltF, iI_leT, iI_leF, iI_eqT, iI_eqF, iI_div, iI_cn, iI_cl, iI_in, Int.toNat_natCast, if_true, if_false, bq, not_false_eq_true])]
    by_cases c3 : kind = 3
    · rw [if_pos c3, if_pos (by rw [c3]; rfl)]; exact hd_b h3 rfl
    · rw [if_neg c3, if_neg (by simp (disch := omega) only [qq_let, Bool.true_eq_false, iI_z0, iI_bz0, iI_bz1, iI_bz, iI_ckt, Option.bind_some, iI_n, iI_lit, iI_neg, iI_add, iI_sub, iI_mul, iI_ltT, iI_ltF, iI_leT, iI_leF, iI_eqT, iI_eqF, iI_div, iI_cn, iI_cl, iI_in, Int.toNat_natCast, if_true, if_false, bq, not_false_eq_true])]
      by_cases c4 : kind = 4
      · rw [if_pos c4, if_pos (by rw [c4]; rfl)]; exact hd_b h4 rfl
      · rw [if_neg c4, if_neg (by simp (disch := omega) only [qq_let, Bool.true_eq_false, iI_z0, iI_bz0, iI_bz1, iI_bz, iI_ckt, Option.bind_some, iI_n, iI_lit, iI_neg, iI_add, iI_sub, iI_mul, iI_ltT, iI_ltF, iI_leT, iI_leF, iI_eqT, iI_eqF, iI_div, iI_cn, iI_cl, iI_in, Int.toNat_natCast, if_true, if_false, bq, not_false_eq_true])]
        by_cases c5 : kind = 5
        · rw [if_pos c5, if_pos (by rw [c5]; rfl)]; exact hd_b h5 rfl
        · rw [if_neg c5, if_neg (by simp (disch := omega) only [qq_let, Bool.true_eq_false, iI_z0, iI_bz0, iI_bz1, iI_bz, iI_ckt, Option.bind_some, iI_n, iI_lit, iI_neg, iI_add, iI_sub, iI_mul, iI_ltT, iI_ltF, iI_leT, iI_leF, iI_eqT, iI_eqF, iI_div, iI_cn, iI_cl, iI_in, Int.toNat_natCast, if_true, if_false, bq, not_false_eq_true])]; exact hd_b h6 rfl
