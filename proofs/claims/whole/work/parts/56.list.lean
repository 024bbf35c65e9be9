/-! listCandidates -/
theorem orl_or (l : List Nat) (t : Nat) : orl t l = t ||| orl 0 l := by
  apply Nat.eq_of_testBit_eq
  intro i
  rw [Nat.testBit_or, orl_bit, orl_bit, Nat.zero_testBit, Bool.false_or]
theorem lif_mem {c : Bool} {s x : Nat} : x ∈ lif c s ↔ c = true ∧ x = s := by
  cases c <;> simp [lif]
theorem tpn_lt {b : Bd} {sd pp a : Nat} (hsd : sd < 2) (ha : 8 ≤ a) (ha2 : a < 56) : ∀ s ∈ tpn b sd pp a, s < 64 := by
  intro s hs
  simp only [tpn, tpn2, List.mem_append, lif_mem, Bool.and_eq_true, decide_eq_true_eq] at hs
  have hs0 : sd = 0 ∨ sd = 1 := by omega
  rcases hs with hs | ⟨hs, rfl⟩ | ⟨hs, rfl⟩
  · unfold tpn1 at hs
    split at hs
    · simp only [List.mem_cons, lif_mem, Bool.and_eq_true, decide_eq_true_eq] at hs
      rcases hs with rfl | ⟨⟨h1, -⟩, rfl⟩
      · unfold nx; split <;> omega
      · unfold nx2
        rcases hs0 with h0 | h0
        · rw [if_pos h0] at h1 ⊢; omega
        · rw [if_neg (by omega)]; omega
    · exact absurd hs List.not_mem_nil
  · unfold nx; split <;> omega
  · unfold nx; split <;> omega
theorem tc_lt {b : Bd} {sd r : Nat} (hsd : sd < 2) : ∀ s ∈ tc b sd r, s < 64 := by
  intro s hs
  have hh : hm sd = 4 ∨ hm sd = 60 := by unfold hm; omega
  unfold tc tc2 at hs
  split at hs
  · simp only [List.mem_append, lif_mem] at hs
    rcases hs with ⟨-, rfl⟩ | ⟨-, rfl⟩ <;> omega
  · exact absurd hs List.not_mem_nil
theorem tp_lt {b : Bd} {sd a k : Nat} (ha : a < 64) : ∀ s ∈ tp b sd a k, s < 64 := by
  intro s hs
  unfold tp at hs
  split at hs
  · exact tk_lt ha s hs
  · split at hs
    · exact tws_lt (by omega) ha s hs
    · split at hs
      · exact tws_lt (by omega) ha s hs
      · split at hs
        · exact tws_lt (by omega) ha s hs
        · exact tws_lt (by omega) ha s hs
/-- the codes of the candidates from a square -/
def cf (b : Bd) (sd r pp a : Nat) : List Nat :=
  if isOf (b a) sd = true then
    if kd (b a) = 1 then cpw sd a (sb_l (orl 0 (tpn b sd pp a)))
    else if kd (b a) = 6 then (sb_l (orl 0 (tp b sd a 6 ++ tc b sd r))).map fun x => cod a x 0
    else (sb_l (orl 0 (tp b sd a (kd (b a))))).map fun x => cod a x 0
  else []
def cands (b : Bd) (sd r pp : Nat) : List Nat := (List.range' 0 64).flatMap (cf b sd r pp)
theorem kd_own : ∀ p : Fin 13, ∀ sd : Nat, sd < 2 → isOf p sd = true → (p.val : Int) - 6 * (sd : Int) = (kd p : Int) ∧ 1 ≤ kd p := by decide
theorem kd_not : ∀ p : Fin 13, ∀ sd : Nat, sd < 2 → isOf p sd = false → ((p.val : Int) - 6 * (sd : Int) < 1 ∨ 6 < (p.val : Int) - 6 * (sd : Int)) := by decide
/-- what the list of candidates asks of a position -/
def lok (b : Bd) (sd r pp : Nat) (k : Nat → Nat) : Prop := sd < 2 ∧ r < 16 ∧ pp < 9 ∧ k sd < 64 ∧ (r.testBit (2 * sd) = true ∨ r.testBit (2 * sd + 1) = true → k sd = hm sd) ∧ (∀ a, a < 64 → (b a).val = 1 + 6 * sd → 8 ≤ a ∧ a < 56)
theorem list_lo {b : Bd} {sd r pp : Nat} {k : Nat → Nat} (h : lok b sd r pp k) : ∀ (m j n : Nat) (l : List Nat) (rc : Nat → Int32), j + m = 64 → m + 1 ≤ n → l.length + ((List.range' j m).flatMap (cf b sd r pp)).length ≤ 415 → rowOf rc l →
    ∃ rc', lo_P_listCandidates_7 (iI (sd : Int)) (iI (r : Int)) (iI ((pp : Int) - 1)) (bq b) (kq k) n (iI (l.length : Int)) rc (iI (j : Int)) = some (iI ((l ++ (List.range' j m).flatMap (cf b sd r pp)).length : Int), rc') ∧ rowOf rc' (l ++ (List.range' j m).flatMap (cf b sd r pp)) := by
  obtain ⟨hsd, hr, hpp, hk, hh, hpw⟩ := h
  intro m
  induction m with
  | zero =>
    intro j n l rc hj hn hl hro
    obtain ⟨n, rfl⟩ : ∃ m, n = m + 1 := ⟨n - 1, by omega⟩
    refine ⟨rc, ?_, by simpa using hro⟩
    rw [lo_P_listCandidates_7_s]
    simp only [List.range'_zero, List.flatMap_nil, List.append_nil]
    repeat (first | (refine hd_ck ?_ ?_; focus (simp (disch := omega) only [qq_let, Bool.true_eq_false, iI_z0, iI_bz0, iI_bz1, iI_bz, iI_ckt, Option.bind_some, iI_n, iI_lit, iI_neg, iI_add, iI_sub, iI_mul, iI_ltT, iI_ltF, iI_leT, iI_leF, iI_eqT, iI_eqF, iI_div, iI_cn, iI_cl, iI_in, Int.toNat_natCast, if_true, if_false, bq, not_false_eq_true]; done)) | (refine hd_T ?_ ?_; focus (simp (disch := omega) only [qq_let, Bool.true_eq_false, iI_z0, iI_bz0, iI_bz1, iI_bz, iI_ckt, Option.bind_some, iI_n, iI_lit, iI_neg, iI_add, iI_sub, iI_mul, iI_ltT, iI_ltF, iI_leT, iI_leF, iI_eqT, iI_eqF, iI_div, iI_cn, iI_cl, iI_in, Int.toNat_natCast, if_true, if_false, bq, not_false_eq_true]; done)) | (refine hd_F ?_ ?_; focus (simp (disch := omega) only [qq_let, Bool.true_eq_false, iI_z0, iI_bz0, iI_bz1, iI_bz, iI_ckt, Option.bind_some, iI_n, iI_lit, iI_neg, iI_add, iI_sub, iI_mul, iI_ltT, iI_ltF, iI_leT, iI_leF, iI_eqT, iI_eqF, iI_div, iI_cn, iI_cl, iI_in, Int.toNat_natCast, if_true, if_false, bq, not_false_eq_true]; done)) | (refine hd_b (v := ?_) ?_ ?_; rotate_left; focus (simp (disch := omega) only [qq_let, Bool.true_eq_false, iI_z0, iI_bz0, iI_bz1, iI_bz, iI_ckt, Option.bind_some, iI_n, iI_lit, iI_neg, iI_add, iI_sub, iI_mul, iI_ltT, iI_ltF, iI_leT, iI_leF, iI_eqT, iI_eqF, iI_div, iI_cn, iI_cl, iI_in, Int.toNat_natCast, if_true, if_false, bq, not_false_eq_true]; rfl)) | with_reducible rfl)
    all_goals rfl
  | succ m ih =>
    intro j n l rc hj hn hl hro
    obtain ⟨n, rfl⟩ : ∃ m, n = m + 1 := ⟨n - 1, by omega⟩
    have hj64 : j < 64 := by omega
    simp only [List.range'_succ, List.flatMap_cons, List.length_append] at hl
    have el : ∀ x : List Nat, x = cf b sd r pp j → (l ++ x) ++ (List.range' (j + 1) m).flatMap (cf b sd r pp) = l ++ (List.range' j (m + 1)).flatMap (cf b sd r pp) := by
      intro x hx
      rw [hx, List.range'_succ, List.flatMap_cons, List.append_assoc]
    have next : ∀ (x : List Nat) (rc1 : Nat → Int32), x = cf b sd r pp j → rowOf rc1 (l ++ x) → ∃ rc', bk_P_listCandidates_91 (iI (sd : Int)) (iI (r : Int)) (iI ((pp : Int) - 1)) (bq b) (kq k) (lo_P_listCandidates_7 (iI (sd : Int)) (iI (r : Int)) (iI ((pp : Int) - 1)) (bq b) (kq k) n) (iI ((l ++ x).length : Int)) rc1 (iI (j : Int)) = some (iI ((l ++ (List.range' j (m + 1)).flatMap (cf b sd r pp)).length : Int), rc') ∧ rowOf rc' (l ++ (List.range' j (m + 1)).flatMap (cf b sd r pp)) := by
      intro x rc1 hx h1
      obtain ⟨rc', h2, h3⟩ := ih (j + 1) n (l ++ x) rc1 (by omega) (by omega) (by rw [hx, List.length_append]; omega) h1
      rw [el x hx] at h2 h3
      refine ⟨rc', ?_, h3⟩
      simp only [bk_P_listCandidates_91, qq_let, iI_s1]
      exact h2
    rw [lo_P_listCandidates_7_s]
    have hv : bq b (iI (j : Int)).toNatClampNeg - 6 * iI (sd : Int) = iI (((b j).val : Int) - 6 * (sd : Int)) := by
      rw [iI_cn (by omega)]
      show iI _ - iI 6 * iI _ = _
      rw [iI_mul, iI_sub]
    simp only [qq_let, hv]
    cases hof : isOf (b j) sd with
    | false =>
      have hkn := kd_not (b j) sd hsd hof
      have hcf : [] = cf b sd r pp j := by simp [cf, hof]
      obtain ⟨rc', h2, h3⟩ := next [] rc hcf (by simpa using hro)
      rw [List.append_nil] at h2
      refine ⟨rc', ?_, h3⟩
      rcases hkn with hkn | hkn
      · repeat (first | with_reducible exact h2 | (refine hd_ck ?_ ?_; focus (simp (disch := omega) only [qq_let, Bool.true_eq_false, iI_z0, iI_bz0, iI_bz1, iI_bz, iI_ckt, Option.bind_some, iI_n, iI_lit, iI_neg, iI_add, iI_sub, iI_mul, iI_ltT, iI_ltF, iI_leT, iI_leF, iI_eqT, iI_eqF, iI_div, iI_cn, iI_cl, iI_in, Int.toNat_natCast, if_true, if_false, bq, not_false_eq_true]; done)) | (refine hd_T ?_ ?_; focus (simp (disch := omega) only [qq_let, Bool.true_eq_false, iI_z0, iI_bz0, iI_bz1, iI_bz, iI_ckt, Option.bind_some, iI_n, iI_lit, iI_neg, iI_add, iI_sub, iI_mul, iI_ltT, iI_ltF, iI_leT, iI_leF, iI_eqT, iI_eqF, iI_div, iI_cn, iI_cl, iI_in, Int.toNat_natCast, if_true, if_false, bq, not_false_eq_true]; done)) | (refine hd_F ?_ ?_; focus (simp (disch := omega) only [qq_let, Bool.true_eq_false, iI_z0, iI_bz0, iI_bz1, iI_bz, iI_ckt, Option.bind_some, iI_n, iI_lit, iI_neg, iI_add, iI_sub, iI_mul, iI_ltT, iI_ltF, iI_leT, iI_leF, iI_eqT, iI_eqF, iI_div, iI_cn, iI_cl, iI_in, Int.toNat_natCast, if_true, if_false, bq, not_false_eq_true]; done)) | (refine hd_b (v := ?_) ?_ ?_; rotate_left; focus (simp (disch := omega) only [qq_let, Bool.true_eq_false, iI_z0, iI_bz0, iI_bz1, iI_bz, iI_ckt, Option.bind_some, iI_n, iI_lit, iI_neg, iI_add, iI_sub, iI_mul, iI_ltT, iI_ltF, iI_leT, iI_leF, iI_eqT, iI_eqF, iI_div, iI_cn, iI_cl, iI_in, Int.toNat_natCast, if_true, if_false, bq, not_false_eq_true]; rfl)) | with_reducible rfl)
      · repeat (first | with_reducible exact h2 | (refine hd_ck ?_ ?_; focus (simp (disch := omega) only [qq_let, Bool.true_eq_false, iI_z0, iI_bz0, iI_bz1, iI_bz, iI_ckt, Option.bind_some, iI_n, iI_lit, iI_neg, iI_add, iI_sub, iI_mul, iI_ltT, iI_ltF, iI_leT, iI_leF, iI_eqT, iI_eqF, iI_div, iI_cn, iI_cl, iI_in, Int.toNat_natCast, if_true, if_false, bq, not_false_eq_true]; done)) | (refine hd_T ?_ ?_; focus (simp (disch := omega) only [qq_let, Bool.true_eq_false, iI_z0, iI_bz0, iI_bz1, iI_bz, iI_ckt, Option.bind_some, iI_n, iI_lit, iI_neg, iI_add, iI_sub, iI_mul, iI_ltT, iI_ltF, iI_leT, iI_leF, iI_eqT, iI_eqF, iI_div, iI_cn, iI_cl, iI_in, Int.toNat_natCast, if_true, if_false, bq, not_false_eq_true]; done)) | (refine hd_F ?_ ?_; focus (simp (disch := omega) only [qq_let, Bool.true_eq_false, iI_z0, iI_bz0, iI_bz1, iI_bz, iI_ckt, Option.bind_some, iI_n, iI_lit, iI_neg, iI_add, iI_sub, iI_mul, iI_ltT, iI_ltF, iI_leT, iI_leF, iI_eqT, iI_eqF, iI_div, iI_cn, iI_cl, iI_in, Int.toNat_natCast, if_true, if_false, bq, not_false_eq_true]; done)) | (refine hd_b (v := ?_) ?_ ?_; rotate_left; focus (simp (disch := omega) only [qq_let, Bool.true_eq_false, iI_z0, iI_bz0, iI_bz1, iI_bz, iI_ckt, Option.bind_some, iI_n, iI_lit, iI_neg, iI_add, iI_sub, iI_mul, iI_ltT, iI_ltF, iI_leT, iI_leF, iI_eqT, iI_eqF, iI_div, iI_cn, iI_cl, iI_in, Int.toNat_natCast, if_true, if_false, bq, not_false_eq_true]; rfl)) | with_reducible rfl)
    | true =>
      obtain ⟨hkd, hk1⟩ := kd_own (b j) sd hsd hof
      have hk6 := kd_le (b j)
      rw [hkd]
      by_cases c1 : kd (b j) = 1
      · have hcf : cpw sd j (sb_l (orl 0 (tpn b sd pp j))) = cf b sd r pp j := by simp [cf, hof, c1]
        obtain ⟨p1, p2⟩ := hpw j hj64 (by omega)
        have hT : orl 0 (tpn b sd pp j) < 2 ^ 64 := orl_lt _ _ (by decide) (tpn_lt hsd p1 p2)
        obtain ⟨rc1, h4, h5⟩ := p_addPawn (b := b) (sd := sd) (pp := pp) (a := j) (l := l) (rc := rc) hsd hpp p1 p2 (by rw [hcf]; omega) hro hT
        obtain ⟨rc', h2, h3⟩ := next _ rc1 hcf h5
        refine ⟨rc', ?_, h3⟩
        repeat (first | with_reducible exact hd_b h4 h2 | (refine hd_ck ?_ ?_; focus (simp (disch := omega) only [qq_let, Bool.true_eq_false, iI_z0, iI_bz0, iI_bz1, iI_bz, iI_ckt, Option.bind_some, iI_n, iI_lit, iI_neg, iI_add, iI_sub, iI_mul, iI_ltT, iI_ltF, iI_leT, iI_leF, iI_eqT, iI_eqF, iI_div, iI_cn, iI_cl, iI_in, Int.toNat_natCast, if_true, if_false, bq, not_false_eq_true]; done)) | (refine hd_T ?_ ?_; focus (simp (disch := omega) only [qq_let, Bool.true_eq_false, iI_z0, iI_bz0, iI_bz1, iI_bz, iI_ckt, Option.bind_some, iI_n, iI_lit, iI_neg, iI_add, iI_sub, iI_mul, iI_ltT, iI_ltF, iI_leT, iI_leF, iI_eqT, iI_eqF, iI_div, iI_cn, iI_cl, iI_in, Int.toNat_natCast, if_true, if_false, bq, not_false_eq_true]; done)) | (refine hd_F ?_ ?_; focus (simp (disch := omega) only [qq_let, Bool.true_eq_false, iI_z0, iI_bz0, iI_bz1, iI_bz, iI_ckt, Option.bind_some, iI_n, iI_lit, iI_neg, iI_add, iI_sub, iI_mul, iI_ltT, iI_ltF, iI_leT, iI_leF, iI_eqT, iI_eqF, iI_div, iI_cn, iI_cl, iI_in, Int.toNat_natCast, if_true, if_false, bq, not_false_eq_true]; done)) | (refine hd_b (v := ?_) ?_ ?_; rotate_left; focus (simp (disch := omega) only [qq_let, Bool.true_eq_false, iI_z0, iI_bz0, iI_bz1, iI_bz, iI_ckt, Option.bind_some, iI_n, iI_lit, iI_neg, iI_add, iI_sub, iI_mul, iI_ltT, iI_ltF, iI_leT, iI_leF, iI_eqT, iI_eqF, iI_div, iI_cn, iI_cl, iI_in, Int.toNat_natCast, if_true, if_false, bq, not_false_eq_true]; rfl)) | with_reducible rfl)
      · by_cases c6 : kd (b j) = 6
        · have hcf : ((sb_l (orl 0 (tp b sd j 6 ++ tc b sd r))).map fun x => cod j x 0) = cf b sd r pp j := by simp [cf, hof, c6]
          have hlt : orl 0 (tp b sd j 6 ++ tc b sd r) < 2 ^ 64 := orl_lt _ _ (by decide) (fun s hs => by
            rcases List.mem_append.mp hs with h | h
            · exact tp_lt hj64 s h
            · exact tc_lt hsd s h)
          have hp := p_piece (b := b) (sd := sd) (a := j) (kind := kd (b j)) hsd hj64 (by omega)
          have hc := p_castle (b := b) (k := k) hsd hr hk hh
          have hor : lN (orl 0 (tp b sd j (kd (b j)))) ||| lN (orl 0 (tc b sd r)) = lN (orl 0 (tp b sd j 6 ++ tc b sd r)) := by
            rw [wb_or (orl_lt _ _ (by decide) (tp_lt hj64)) (orl_lt _ _ (by decide) (tc_lt hsd)), orl_app, c6, ← orl_or (tc b sd r) (orl 0 (tp b sd j 6))]
          obtain ⟨rc1, h4, h5⟩ := p_addMoves (a := j) (l := l) (rc := rc) hlt (by
            have := congrArg List.length hcf
            rw [List.length_map] at this
            omega) hro
          rw [← hor] at h4
          obtain ⟨rc', h2, h3⟩ := next _ rc1 hcf h5
          refine ⟨rc', ?_, h3⟩
          repeat (first | with_reducible exact hd_b hp (hd_b hc (hd_b h4 h2)) | (refine hd_ck ?_ ?_; focus (simp (disch := omega) only [qq_let, Bool.true_eq_false, iI_z0, iI_bz0, iI_bz1, iI_bz, iI_ckt, Option.bind_some, iI_n, iI_lit, iI_neg, iI_add, iI_sub, iI_mul, iI_ltT, iI_ltF, iI_leT, iI_leF, iI_eqT, iI_eqF, iI_div, iI_cn, iI_cl, iI_in, Int.toNat_natCast, if_true, if_false, bq, not_false_eq_true]; done)) | (refine hd_T ?_ ?_; focus (simp (disch := omega) only [qq_let, Bool.true_eq_false, iI_z0, iI_bz0, iI_bz1, iI_bz, iI_ckt, Option.bind_some, iI_n, iI_lit, iI_neg, iI_add, iI_sub, iI_mul, iI_ltT, iI_ltF, iI_leT, iI_leF, iI_eqT, iI_eqF, iI_div, iI_cn, iI_cl, iI_in, Int.toNat_natCast, if_true, if_false, bq, not_false_eq_true]; done)) | (refine hd_F ?_ ?_; focus (simp (disch := omega) only [qq_let, Bool.true_eq_false, iI_z0, iI_bz0, iI_bz1, iI_bz, iI_ckt, Option.bind_some, iI_n, iI_lit, iI_neg, iI_add, iI_sub, iI_mul, iI_ltT, iI_ltF, iI_leT, iI_leF, iI_eqT, iI_eqF, iI_div, iI_cn, iI_cl, iI_in, Int.toNat_natCast, if_true, if_false, bq, not_false_eq_true]; done)) | (refine hd_b (v := ?_) ?_ ?_; rotate_left; focus (simp (disch := omega) only [qq_let, Bool.true_eq_false, iI_z0, iI_bz0, iI_bz1, iI_bz, iI_ckt, Option.bind_some, iI_n, iI_lit, iI_neg, iI_add, iI_sub, iI_mul, iI_ltT, iI_ltF, iI_leT, iI_leF, iI_eqT, iI_eqF, iI_div, iI_cn, iI_cl, iI_in, Int.toNat_natCast, if_true, if_false, bq, not_false_eq_true]; rfl)) | with_reducible rfl)
        · have hcf : ((sb_l (orl 0 (tp b sd j (kd (b j))))).map fun x => cod j x 0) = cf b sd r pp j := by simp [cf, hof, c1, c6]
          have hlt : orl 0 (tp b sd j (kd (b j))) < 2 ^ 64 := orl_lt _ _ (by decide) (tp_lt hj64)
          have hp := p_piece (b := b) (sd := sd) (a := j) (kind := kd (b j)) hsd hj64 (by omega)
          obtain ⟨rc1, h4, h5⟩ := p_addMoves (a := j) (l := l) (rc := rc) hlt (by
            have := congrArg List.length hcf
            rw [List.length_map] at this
            omega) hro
          obtain ⟨rc', h2, h3⟩ := next _ rc1 hcf h5
          refine ⟨rc', ?_, h3⟩
          repeat (first | with_reducible exact hd_b hp (hd_b h4 h2) | (refine hd_ck ?_ ?_; focus (simp (disch := omega) only [qq_let, Bool.true_eq_false, iI_z0, iI_bz0, iI_bz1, iI_bz, iI_ckt, Option.bind_some, iI_n, iI_lit, iI_neg, iI_add, iI_sub, iI_mul, iI_ltT, iI_ltF, iI_leT, iI_leF, iI_eqT, iI_eqF, iI_div, iI_cn, iI_cl, iI_in, Int.toNat_natCast, if_true, if_false, bq, not_false_eq_true]; done)) | (refine hd_T ?_ ?_; focus (simp (disch := omega) only [qq_let, Bool.true_eq_false, iI_z0, iI_bz0, iI_bz1, iI_bz, iI_ckt, Option.bind_some, iI_n, iI_lit, iI_neg, iI_add, iI_sub, iI_mul, iI_ltT, iI_ltF, iI_leT, iI_leF, iI_eqT, iI_eqF, iI_div, iI_cn, iI_cl, iI_in, Int.toNat_natCast, if_true, if_false, bq, not_false_eq_true]; done)) | (refine hd_F ?_ ?_; focus (simp (disch := omega) only [qq_let, Bool.true_eq_false, iI_z0, iI_bz0, iI_bz1, iI_bz, iI_ckt, Option.bind_some, iI_n, iI_lit, iI_neg, iI_add, iI_sub, iI_mul, iI_ltT, iI_ltF, iI_leT, iI_leF, iI_eqT, iI_eqF, iI_div, iI_cn, iI_cl, iI_in, Int.toNat_natCast, if_true, if_false, bq, not_false_eq_true]; done)) | (refine hd_b (v := ?_) ?_ ?_; rotate_left; focus (simp (disch := omega) only [qq_let, Bool.true_eq_false, iI_z0, iI_bz0, iI_bz1, iI_bz, iI_ckt, Option.bind_some, iI_n, iI_lit, iI_neg, iI_add, iI_sub, iI_mul, iI_ltT, iI_ltF, iI_leT, iI_leF, iI_eqT, iI_eqF, iI_div, iI_cn, iI_cl, iI_in, Int.toNat_natCast, if_true, if_false, bq, not_false_eq_true]; rfl)) | with_reducible rfl)
theorem p_listCand {b : Bd} {sd r pp : Nat} {k : Nat → Nat} (h : lok b sd r pp k) (hl : (cands b sd r pp).length ≤ 415) (rn : Int32) (rc : Nat → Int32) :
    ∃ rc', fn_P_listCandidates (iI (sd : Int)) (iI (r : Int)) (iI ((pp : Int) - 1)) (bq b) (kq k) rn rc = some (iI ((cands b sd r pp).length : Int), rc') ∧ rowOf rc' (cands b sd r pp) := by
  obtain ⟨rc', h1, h2⟩ := list_lo h 64 0 qq_FU [] rc rfl (by have := fu1; omega) (by simpa [cands] using hl) (fun j hj => absurd hj (by simp))
  rw [List.nil_append] at h1 h2
  exact ⟨rc', h1, h2⟩
