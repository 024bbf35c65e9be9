/-! rows of moves: the candidates in their order -/
def rowOf (rc : Nat → Int32) (l : List Nat) : Prop := ∀ j (h : j < l.length), rc j = iI ((l[j] : Nat) : Int)
def cod (a t p : Nat) : Nat := a + 64 * t + 4096 * p
theorem b_codeOf (a t p : Nat) : fn_B_codeOf (iI (a : Int)) (iI (t : Int)) (iI (p : Int)) = some (iI (cod a t p : Int)) := by
  rw [fn_B_codeOf]
  show some ((iI (a : Int) + iI 64 * iI (t : Int)) + iI 4096 * iI (p : Int)) = _
  rw [iI_mul, iI_mul, iI_add, iI_add]; rfl
theorem rowOf_add {rc : Nat → Int32} {l : List Nat} (h : rowOf rc l) (c : Nat) : rowOf (upd rc l.length (iI (c : Int))) (l ++ [c]) := by
  intro j hj
  simp only [List.length_append, List.length_singleton] at hj
  by_cases c1 : j = l.length
  · subst c1
    simp [upd]
  · have hj2 : j < l.length := by omega
    simp only [upd, c1, if_false]
    rw [h j hj2, List.getElem_append_left hj2]
theorem w_add {rc : Nat → Int32} {l : List Nat} (hl : l.length < 415) (c : Nat) : fn_W_add (iI (l.length : Int)) rc (iI (c : Int)) = some (iI ((l ++ [c]).length : Int), upd rc l.length (iI (c : Int))) := by
  rw [fn_W_add]
  repeat (first | (refine hd_ck ?_ ?_; focus (simp (disch := omega) only [qq_let, Bool.true_eq_false, iI_z0, iI_bz0, iI_bz1, iI_bz, iI_ckt, Option.bind_some, iI_n, iI_lit, iI_neg, iI_add, iI_sub, iI_mul, iI_ltT, iI_ltF, iI_leT, iI_leF, iI_eqT, iI_eqF, iI_div, iI_cn, iI_cl, iI_in, Int.toNat_natCast, if_true, if_false, bq, not_false_eq_true]; done)) | (refine hd_T ?_ ?_; focus (simp (disch := omega) only [qq_let, Bool.true_eq_false, iI_z0, iI_bz0, iI_bz1, iI_bz, iI_ckt, Option.bind_some, iI_n, iI_lit, iI_neg, iI_add, iI_sub, iI_mul, iI_ltT, iI_ltF, iI_leT, iI_leF, iI_eqT, iI_eqF, iI_div, iI_cn, iI_cl, iI_in, Int.toNat_natCast, if_true, if_false, bq, not_false_eq_true]; done)) | (refine hd_F ?_ ?_; focus (simp (disch := omega) only [qq_let, Bool.true_eq_false, iI_z0, iI_bz0, iI_bz1, iI_bz, iI_ckt, Option.bind_some, iI_n, iI_lit, iI_neg, iI_add, iI_sub, iI_mul, iI_ltT, iI_ltF, iI_leT, iI_leF, iI_eqT, iI_eqF, iI_div, iI_cn, iI_cl, iI_in, Int.toNat_natCast, if_true, if_false, bq, not_false_eq_true]; done)) | (refine hd_b (v := ?_) ?_ ?_; rotate_left; focus (simp (disch := omega) only [qq_let, Bool.true_eq_false, iI_z0, iI_bz0, iI_bz1, iI_bz, iI_ckt, Option.bind_some, iI_n, iI_lit, iI_neg, iI_add, iI_sub, iI_mul, iI_ltT, iI_ltF, iI_leT, iI_leF, iI_eqT, iI_eqF, iI_div, iI_cn, iI_cl, iI_in, Int.toNat_natCast, if_true, if_false, bq, not_false_eq_true]; rfl)) | with_reducible rfl)
  show some (iI (l.length : Int) + 1, upd rc (iI (l.length : Int)).toNatClampNeg (iI (c : Int))) = _
  rw [iI_cn (by omega), iI_s1, List.length_append]
  rfl
theorem add_lo {a : Nat} (a2 : Int64) : ∀ (m l : List Nat) (rc : Nat → Int32) (n : Nat), m.Pairwise (· < ·) → (∀ x ∈ m, x < 64) → l.length + m.length ≤ 415 → m.length + 1 ≤ n → rowOf rc l →
    ∃ rc', lo_P_addMoves_9 (iI (a : Int)) a2 n (iI (l.length : Int)) rc (lN (sb_n m)) (iI (m.length : Int)) = some (iI ((l ++ m.map fun t => cod a t 0).length : Int), rc') ∧ rowOf rc' (l ++ m.map fun t => cod a t 0) := by
  intro m
  induction m with
  | nil =>
    intro l rc n hp hx hl hn hr
    obtain ⟨n, rfl⟩ : ∃ m, n = m + 1 := ⟨n - 1, by omega⟩
    refine ⟨rc, ?_, by simpa using hr⟩
    rw [lo_P_addMoves_9_s]
    simp only [List.map_nil, List.append_nil, List.length_nil]
    repeat (first | (refine hd_ck ?_ ?_; focus (simp (disch := omega) only [qq_let, Bool.true_eq_false, iI_z0, iI_bz0, iI_bz1, iI_bz, iI_ckt, Option.bind_some, iI_n, iI_lit, iI_neg, iI_add, iI_sub, iI_mul, iI_ltT, iI_ltF, iI_leT, iI_leF, iI_eqT, iI_eqF, iI_div, iI_cn, iI_cl, iI_in, Int.toNat_natCast, if_true, if_false, bq, not_false_eq_true]; done)) | (refine hd_T ?_ ?_; focus (simp (disch := omega) only [qq_let, Bool.true_eq_false, iI_z0, iI_bz0, iI_bz1, iI_bz, iI_ckt, Option.bind_some, iI_n, iI_lit, iI_neg, iI_add, iI_sub, iI_mul, iI_ltT, iI_ltF, iI_leT, iI_leF, iI_eqT, iI_eqF, iI_div, iI_cn, iI_cl, iI_in, Int.toNat_natCast, if_true, if_false, bq, not_false_eq_true]; done)) | (refine hd_F ?_ ?_; focus (simp (disch := omega) only [qq_let, Bool.true_eq_false, iI_z0, iI_bz0, iI_bz1, iI_bz, iI_ckt, Option.bind_some, iI_n, iI_lit, iI_neg, iI_add, iI_sub, iI_mul, iI_ltT, iI_ltF, iI_leT, iI_leF, iI_eqT, iI_eqF, iI_div, iI_cn, iI_cl, iI_in, Int.toNat_natCast, if_true, if_false, bq, not_false_eq_true]; done)) | (refine hd_b (v := ?_) ?_ ?_; rotate_left; focus (simp (disch := omega) only [qq_let, Bool.true_eq_false, iI_z0, iI_bz0, iI_bz1, iI_bz, iI_ckt, Option.bind_some, iI_n, iI_lit, iI_neg, iI_add, iI_sub, iI_mul, iI_ltT, iI_ltF, iI_leT, iI_leF, iI_eqT, iI_eqF, iI_div, iI_cn, iI_cl, iI_in, Int.toNat_natCast, if_true, if_false, bq, not_false_eq_true]; rfl)) | with_reducible rfl)
    all_goals rfl
  | cons s m ih =>
    intro l rc n hp hx hl hn hr
    obtain ⟨n, rfl⟩ : ∃ m, n = m + 1 := ⟨n - 1, by omega⟩
    rw [List.pairwise_cons] at hp
    simp only [List.length_cons] at hl hn
    have hs := hx s List.mem_cons_self
    have hlt : sb_n (s :: m) < 2 ^ 64 := by
      have hq : ∀ (r : List Nat) (q : Nat), r.Pairwise (· < ·) → (∀ x ∈ r, q ≤ x ∧ x < 64) → q ≤ 64 → sb_n r + 2 ^ q ≤ 2 ^ 64 := by
        intro r
        induction r with
        | nil => intro q _ _ h; simp only [sb_n, Nat.zero_add]; exact Nat.pow_le_pow_right (by decide) h
        | cons y r ihr =>
          intro q h1 h2 h3
          rw [List.pairwise_cons] at h1
          have hy := h2 y List.mem_cons_self
          have h4 := ihr (y + 1) h1.2 (fun x hx => ⟨h1.1 x hx, (h2 x (List.mem_cons_of_mem _ hx)).2⟩) (by omega)
          have h5 : 2 ^ q ≤ 2 ^ y := Nat.pow_le_pow_right (by decide) hy.1
          have h6 : 2 ^ (y + 1) = 2 * 2 ^ y := by rw [Nat.pow_succ]; omega
          show 2 ^ y + sb_n r + 2 ^ q ≤ 2 ^ 64
          omega
      have := hq (s :: m) 0 (List.pairwise_cons.mpr hp) (fun x hx2 => ⟨by omega, hx x hx2⟩) (by omega)
      have h1 : (2 : Nat) ^ 0 = 1 := rfl
      omega
    obtain ⟨h1, h2⟩ := sb_step hs hp.1 hlt
    rw [iI_n] at h1
    have h3 := w_add (rc := rc) (l := l) (by omega) (cod a s 0)
    have h4 := rowOf_add hr (cod a s 0)
    obtain ⟨rc', h5, h6⟩ := ih (l ++ [cod a s 0]) (upd rc l.length (iI (cod a s 0 : Int))) n hp.2 (fun x h => hx x (List.mem_cons_of_mem _ h)) (by simp only [List.length_append, List.length_singleton]; omega) (by omega) h4
    have el : (l ++ [cod a s 0]) ++ m.map (fun t => cod a t 0) = l ++ (s :: m).map fun t => cod a t 0 := by simp
    rw [el] at h5 h6
    refine ⟨rc', ?_, h6⟩
    rw [lo_P_addMoves_9_s, if_neg (by
      simp only [List.length_cons]
      simp (disch := omega) only [qq_let, Bool.true_eq_false, iI_z0, iI_bz0, iI_bz1, iI_bz, iI_ckt, Option.bind_some, iI_n, iI_lit, iI_neg, iI_add, iI_sub, iI_mul, iI_ltT, iI_ltF, iI_leT, iI_leF, iI_eqT, iI_eqF, iI_div, iI_cn, iI_cl, iI_in, Int.toNat_natCast, if_true, if_false, bq, not_false_eq_true])]
    refine hd_b h1 ?_
    refine hd_b (b_codeOf a s 0) ?_
    refine hd_b h3 ?_
    show lo_P_addMoves_9 _ _ _ _ _ (lN (sb_n (s :: m)) &&& (lN (sb_n (s :: m)) - 1)) (iI ((s :: m).length : Int) + (-1)) = _
    rw [h2, show iI ((s :: m).length : Int) + (-1) = iI (m.length : Int) from by
      rw [iI_m1, iI_add, List.length_cons]; congr 1; omega]
    exact h5
theorem p_addMoves {a t : Nat} {l : List Nat} {rc : Nat → Int32} (ht : t < 2 ^ 64) (hl : l.length + (sb_l t).length ≤ 415) (hr : rowOf rc l) :
    ∃ rc', fn_P_addMoves (iI (l.length : Int)) rc (iI (a : Int)) (lN t) = some (iI ((l ++ (sb_l t).map fun x => cod a x 0).length : Int), rc') ∧ rowOf rc' (l ++ (sb_l t).map fun x => cod a x 0) := by
  obtain ⟨rc', h1, h2⟩ := add_lo (a := a) (lN t) (sb_l t) l rc qq_FU (sb_asc t) (fun x h => sb_lt h) hl (by have := fu1; omega) hr
  refine ⟨rc', ?_, h2⟩
  rw [fn_P_addMoves, bc_fn _ ht]
  rw [sb_all ht] at h1
  have e : bc_c t 64 = (sb_l t).length := sb_cnt t 64
  show lo_P_addMoves_9 _ _ _ _ _ _ (nI (bc_c t 64)) = _
  rw [e, iI_n]
  exact h1
def prs (a s : Nat) : List Nat := [cod a s 2, cod a s 3, cod a s 4, cod a s 5]
theorem addp_in {a s : Nat} {sd ps : Int32} {sq : Nat → Int32} {m : List Nat} {l : List Nat} {rc : Nat → Int32} (k55 : Int32 → (Nat → Int32) → Int64 → Int32 → Option (Int32 × (Nat → Int32)))
    (h1 : fn_P_lowestOf (lN (sb_n (s :: m))) = some (iI (s : Int))) (h2 : lN (sb_n (s :: m)) &&& (lN (sb_n (s :: m)) - 1) = lN (sb_n m)) (hl : l.length + 4 ≤ 415) (hr : rowOf rc l) :
    ∃ rc', rowOf rc' (l ++ prs a s) ∧ lo_P_addPawnMoves_63 sd ps sq (iI (a : Int)) k55 qq_FU (iI (l.length : Int)) rc (lN (sb_n (s :: m))) (iI ((s :: m).length : Int)) 2 = k55 (iI ((l ++ prs a s).length : Int)) rc' (lN (sb_n m)) (iI (m.length : Int)) := by
  have stp : ∀ (p n : Nat) (l2 : List Nat) (rc2 : Nat → Int32), p ≤ 5 → l2.length < 415 → lo_P_addPawnMoves_63 sd ps sq (iI (a : Int)) k55 (n + 1) (iI (l2.length : Int)) rc2 (lN (sb_n (s :: m))) (iI ((s :: m).length : Int)) (iI (p : Int)) = lo_P_addPawnMoves_63 sd ps sq (iI (a : Int)) k55 n (iI ((l2 ++ [cod a s p]).length : Int)) (upd rc2 l2.length (iI (cod a s p : Int))) (lN (sb_n (s :: m))) (iI ((s :: m).length : Int)) (iI ((p + 1 : Nat) : Int)) := by
    intro p n l2 rc2 hp hl2
    rw [lo_P_addPawnMoves_63_s, if_neg (by simp (disch := omega) only [qq_let, Bool.true_eq_false, iI_z0, iI_bz0, iI_bz1, iI_bz, iI_ckt, Option.bind_some, iI_n, iI_lit, iI_neg, iI_add, iI_sub, iI_mul, iI_ltT, iI_ltF, iI_leT, iI_leF, iI_eqT, iI_eqF, iI_div, iI_cn, iI_cl, iI_in, Int.toNat_natCast, if_true, if_false, bq, not_false_eq_true])]
    refine hd_b h1 ?_
    refine hd_b (b_codeOf a s p) ?_
    refine hd_b (w_add (rc := rc2) (l := l2) hl2 (cod a s p)) ?_
    show lo_P_addPawnMoves_63 _ _ _ _ _ _ _ _ _ _ (iI (p : Int) + 1) = _
    rw [iI_s1]
  have fin : ∀ (n : Nat) (l2 : List Nat) (rc2 : Nat → Int32), lo_P_addPawnMoves_63 sd ps sq (iI (a : Int)) k55 (n + 1) (iI (l2.length : Int)) rc2 (lN (sb_n (s :: m))) (iI ((s :: m).length : Int)) (iI ((6 : Nat) : Int)) = k55 (iI (l2.length : Int)) rc2 (lN (sb_n m)) (iI (m.length : Int)) := by
    intro n l2 rc2
    rw [lo_P_addPawnMoves_63_s, if_pos (by simp (disch := omega) only [qq_let, Bool.true_eq_false, iI_z0, iI_bz0, iI_bz1, iI_bz, iI_ckt, Option.bind_some, iI_n, iI_lit, iI_neg, iI_add, iI_sub, iI_mul, iI_ltT, iI_ltF, iI_leT, iI_leF, iI_eqT, iI_eqF, iI_div, iI_cn, iI_cl, iI_in, Int.toNat_natCast, if_true, if_false, bq])]
    show k55 _ _ (lN (sb_n (s :: m)) &&& (lN (sb_n (s :: m)) - 1)) (iI ((s :: m).length : Int) + (-1)) = _
    rw [h2, show iI ((s :: m).length : Int) + (-1) = iI (m.length : Int) from by
      rw [iI_m1, iI_add, List.length_cons]; congr 1; omega]
  have r1 := rowOf_add hr (cod a s 2)
  have r2 := rowOf_add r1 (cod a s 3)
  have r3 := rowOf_add r2 (cod a s 4)
  have r4 := rowOf_add r3 (cod a s 5)
  have el : l ++ [cod a s 2] ++ [cod a s 3] ++ [cod a s 4] ++ [cod a s 5] = l ++ prs a s := by simp [prs]
  rw [el] at r4
  refine ⟨_, r4, ?_⟩
  rw [← fin 995, ← el]
  show lo_P_addPawnMoves_63 sd ps sq (iI (a : Int)) k55 (999 + 1) (iI (l.length : Int)) rc (lN (sb_n (s :: m))) (iI ((s :: m).length : Int)) (iI ((2 : Nat) : Int)) = _
  rw [stp 2 999 l rc (by omega) (by omega), stp 3 998 _ _ (by omega) (by simp; omega), stp 4 997 _ _ (by omega) (by simp; omega), stp 5 996 _ _ (by omega) (by simp; omega)]
theorem sb_64 : ∀ (r : List Nat) (q : Nat), r.Pairwise (· < ·) → (∀ x ∈ r, q ≤ x ∧ x < 64) → q ≤ 64 → sb_n r + 2 ^ q ≤ 2 ^ 64 := by
  intro r
  induction r with
  | nil => intro q _ _ h; simp only [sb_n, Nat.zero_add]; exact Nat.pow_le_pow_right (by decide) h
  | cons y r ihr =>
    intro q h1 h2 h3
    rw [List.pairwise_cons] at h1
    have hy := h2 y List.mem_cons_self
    have h4 := ihr (y + 1) h1.2 (fun x hx => ⟨h1.1 x hx, (h2 x (List.mem_cons_of_mem _ hx)).2⟩) (by omega)
    have h5 : 2 ^ q ≤ 2 ^ y := Nat.pow_le_pow_right (by decide) hy.1
    have h6 : 2 ^ (y + 1) = 2 * 2 ^ y := by rw [Nat.pow_succ]; omega
    show 2 ^ y + sb_n r + 2 ^ q ≤ 2 ^ 64
    omega
theorem addp_lo {a : Nat} {sd ps : Int32} {sq : Nat → Int32} : ∀ (m l : List Nat) (rc : Nat → Int32) (n : Nat), m.Pairwise (· < ·) → (∀ x ∈ m, x < 64) → l.length + (m.flatMap (prs a)).length ≤ 415 → m.length + 1 ≤ n → rowOf rc l →
    ∃ rc', lo_P_addPawnMoves_55 sd ps sq (iI (a : Int)) n (iI (l.length : Int)) rc (lN (sb_n m)) (iI (m.length : Int)) = some (iI ((l ++ m.flatMap (prs a)).length : Int), rc') ∧ rowOf rc' (l ++ m.flatMap (prs a)) := by
  intro m
  induction m with
  | nil =>
    intro l rc n hp hx hl hn hr
    obtain ⟨n, rfl⟩ : ∃ m, n = m + 1 := ⟨n - 1, by omega⟩
    refine ⟨rc, ?_, by simpa using hr⟩
    rw [lo_P_addPawnMoves_55_s]
    simp only [List.flatMap_nil, List.append_nil, List.length_nil]
    repeat (first | (refine hd_ck ?_ ?_; focus (simp (disch := omega) only [qq_let, Bool.true_eq_false, iI_z0, iI_bz0, iI_bz1, iI_bz, iI_ckt, Option.bind_some, iI_n, iI_lit, iI_neg, iI_add, iI_sub, iI_mul, iI_ltT, iI_ltF, iI_leT, iI_leF, iI_eqT, iI_eqF, iI_div, iI_cn, iI_cl, iI_in, Int.toNat_natCast, if_true, if_false, bq, not_false_eq_true]; done)) | (refine hd_T ?_ ?_; focus (simp (disch := omega) only [qq_let, Bool.true_eq_false, iI_z0, iI_bz0, iI_bz1, iI_bz, iI_ckt, Option.bind_some, iI_n, iI_lit, iI_neg, iI_add, iI_sub, iI_mul, iI_ltT, iI_ltF, iI_leT, iI_leF, iI_eqT, iI_eqF, iI_div, iI_cn, iI_cl, iI_in, Int.toNat_natCast, if_true, if_false, bq, not_false_eq_true]; done)) | (refine hd_F ?_ ?_; focus (simp (disch := omega) only [qq_let, Bool.true_eq_false, iI_z0, iI_bz0, iI_bz1, iI_bz, iI_ckt, Option.bind_some, iI_n, iI_lit, iI_neg, iI_add, iI_sub, iI_mul, iI_ltT, iI_ltF, iI_leT, iI_leF, iI_eqT, iI_eqF, iI_div, iI_cn, iI_cl, iI_in, Int.toNat_natCast, if_true, if_false, bq, not_false_eq_true]; done)) | (refine hd_b (v := ?_) ?_ ?_; rotate_left; focus (simp (disch := omega) only [qq_let, Bool.true_eq_false, iI_z0, iI_bz0, iI_bz1, iI_bz, iI_ckt, Option.bind_some, iI_n, iI_lit, iI_neg, iI_add, iI_sub, iI_mul, iI_ltT, iI_ltF, iI_leT, iI_leF, iI_eqT, iI_eqF, iI_div, iI_cn, iI_cl, iI_in, Int.toNat_natCast, if_true, if_false, bq, not_false_eq_true]; rfl)) | with_reducible rfl)
    all_goals rfl
  | cons s m ih =>
    intro l rc n hp hx hl hn hr
    obtain ⟨n, rfl⟩ : ∃ m, n = m + 1 := ⟨n - 1, by omega⟩
    have hp' := hp
    rw [List.pairwise_cons] at hp
    have e4 : (prs a s).length = 4 := rfl
    simp only [List.flatMap_cons, List.length_append, e4, List.length_cons] at hl hn
    have hs := hx s List.mem_cons_self
    have h64 := sb_64 (s :: m) 0 hp' (fun x h => ⟨by omega, hx x h⟩) (by omega)
    have hml : m.length ≤ 415 := by
      have : m.length ≤ (m.flatMap (prs a)).length := by
        clear hl hn hp hp' hx ih h64
        induction m with
        | nil => simp
        | cons y m ihm => simp only [List.flatMap_cons, List.length_append, List.length_cons]; have : (prs a y).length = 4 := rfl; omega
      omega
    have h1' : (2 : Nat) ^ 0 = 1 := rfl
    obtain ⟨h1, h2⟩ := sb_step hs hp.1 (by omega)
    rw [iI_n] at h1
    obtain ⟨rc1, h3, h4⟩ := addp_in (a := a) (sd := sd) (ps := ps) (sq := sq) (l := l) (rc := rc) (lo_P_addPawnMoves_55 sd ps sq (iI (a : Int)) n) h1 h2 (by omega) hr
    obtain ⟨rc', h5, h6⟩ := ih (l ++ prs a s) rc1 n hp.2 (fun x h => hx x (List.mem_cons_of_mem _ h)) (by simp only [List.length_append, e4]; omega) (by omega) h3
    have el : (l ++ prs a s) ++ m.flatMap (prs a) = l ++ (s :: m).flatMap (prs a) := by simp
    rw [el] at h5 h6
    refine ⟨rc', ?_, h6⟩
    rw [lo_P_addPawnMoves_55_s, if_neg (by
      simp only [List.length_cons]
      simp (disch := omega) only [qq_let, Bool.true_eq_false, iI_z0, iI_bz0, iI_bz1, iI_bz, iI_ckt, Option.bind_some, iI_n, iI_lit, iI_neg, iI_add, iI_sub, iI_mul, iI_ltT, iI_ltF, iI_leT, iI_leF, iI_eqT, iI_eqF, iI_div, iI_cn, iI_cl, iI_in, Int.toNat_natCast, if_true, if_false, bq, not_false_eq_true]), h4]
    exact h5
/-- the codes that a pawn's targets give -/
def cpw (sd a : Nat) (m : List Nat) : List Nat := if a / 8 = (if sd = 0 then 6 else 1) then m.flatMap (prs a) else m.map fun x => cod a x 0
theorem p_addPawn {b : Bd} {sd pp a : Nat} {l : List Nat} {rc : Nat → Int32} (hsd : sd < 2) (hpp : pp < 9) (ha : 8 ≤ a) (ha2 : a < 56) (hl : l.length + (cpw sd a (sb_l (orl 0 (tpn b sd pp a)))).length ≤ 415) (hr : rowOf rc l) (ht : orl 0 (tpn b sd pp a) < 2 ^ 64) :
    ∃ rc', fn_P_addPawnMoves (iI (sd : Int)) (iI ((pp : Int) - 1)) (bq b) (iI (l.length : Int)) rc (iI (a : Int)) = some (iI ((l ++ cpw sd a (sb_l (orl 0 (tpn b sd pp a)))).length : Int), rc') ∧ rowOf rc' (l ++ cpw sd a (sb_l (orl 0 (tpn b sd pp a)))) := by
  have hT := p_pawn (b := b) hsd hpp ha ha2
  have hmain : ∃ rc', bk_P_addPawnMoves_31 (iI (sd : Int)) (iI ((pp : Int) - 1)) (bq b) (iI (a : Int)) (iI (l.length : Int)) rc (lN (orl 0 (tpn b sd pp a))) (ge_z (decide (a / 8 = (if sd = 0 then 6 else 1)))) = some (iI ((l ++ cpw sd a (sb_l (orl 0 (tpn b sd pp a)))).length : Int), rc') ∧ rowOf rc' (l ++ cpw sd a (sb_l (orl 0 (tpn b sd pp a)))) := by
    generalize orl 0 (tpn b sd pp a) = T at *
    by_cases c : a / 8 = (if sd = 0 then 6 else 1)
    · rw [cpw, if_pos c] at hl
      rw [cpw, if_pos c, decide_eq_true c]
      have hlen : (sb_l T).length ≤ 64 := by
        have := List.length_filter_le (fun j => T.testBit j) (List.range 64)
        rw [List.length_range] at this
        exact this
      obtain ⟨rc', h1, h2⟩ := addp_lo (a := a) (sd := iI (sd : Int)) (ps := iI ((pp : Int) - 1)) (sq := bq b) (sb_l T) l rc qq_FU (sb_asc T) (fun x h => sb_lt h) hl (by have := fu1; omega) hr
      refine ⟨rc', ?_, h2⟩
      rw [bk_P_addPawnMoves_31, if_neg (by decide), bc_fn _ ht]
      rw [sb_all ht] at h1
      have e : bc_c T 64 = (sb_l T).length := sb_cnt T 64
      show lo_P_addPawnMoves_55 _ _ _ _ _ _ _ _ (nI (bc_c T 64)) = _
      rw [e, iI_n]
      exact h1
    · rw [cpw, if_neg c] at hl
      rw [cpw, if_neg c, decide_eq_false c]
      obtain ⟨rc', h1, h2⟩ := p_addMoves (a := a) (l := l) (rc := rc) ht (by simpa using hl) hr
      refine ⟨rc', ?_, h2⟩
      rw [bk_P_addPawnMoves_31, if_pos (by decide), h1]
      rfl
  obtain ⟨rc', h1, h2⟩ := hmain
  refine ⟨rc', ?_, h2⟩
  rw [fn_P_addPawnMoves, hT]
  simp only [Option.bind_some, bk_P_addPawnMoves_23]
  by_cases cs : sd = 0
  · rw [if_pos cs] at h1
    by_cases c : a / 8 = 6
    · rw [decide_eq_true c] at h1
      change bk_P_addPawnMoves_31 _ _ _ _ _ _ _ 1 = _ at h1
      repeat (first | with_reducible exact h1 | (refine hd_ck ?_ ?_; focus (simp (disch := omega) only [qq_let, Bool.true_eq_false, iI_z0, iI_bz0, iI_bz1, iI_bz, iI_ckt, Option.bind_some, iI_n, iI_lit, iI_neg, iI_add, iI_sub, iI_mul, iI_ltT, iI_ltF, iI_leT, iI_leF, iI_eqT, iI_eqF, iI_div, iI_cn, iI_cl, iI_in, Int.toNat_natCast, if_true, if_false, bq, not_false_eq_true]; done)) | (refine hd_T ?_ ?_; focus (simp (disch := omega) only [qq_let, Bool.true_eq_false, iI_z0, iI_bz0, iI_bz1, iI_bz, iI_ckt, Option.bind_some, iI_n, iI_lit, iI_neg, iI_add, iI_sub, iI_mul, iI_ltT, iI_ltF, iI_leT, iI_leF, iI_eqT, iI_eqF, iI_div, iI_cn, iI_cl, iI_in, Int.toNat_natCast, if_true, if_false, bq, not_false_eq_true]; done)) | (refine hd_F ?_ ?_; focus (simp (disch := omega) only [qq_let, Bool.true_eq_false, iI_z0, iI_bz0, iI_bz1, iI_bz, iI_ckt, Option.bind_some, iI_n, iI_lit, iI_neg, iI_add, iI_sub, iI_mul, iI_ltT, iI_ltF, iI_leT, iI_leF, iI_eqT, iI_eqF, iI_div, iI_cn, iI_cl, iI_in, Int.toNat_natCast, if_true, if_false, bq, not_false_eq_true]; done)) | (refine hd_b (v := ?_) ?_ ?_; rotate_left; focus (simp (disch := omega) only [qq_let, Bool.true_eq_false, iI_z0, iI_bz0, iI_bz1, iI_bz, iI_ckt, Option.bind_some, iI_n, iI_lit, iI_neg, iI_add, iI_sub, iI_mul, iI_ltT, iI_ltF, iI_leT, iI_leF, iI_eqT, iI_eqF, iI_div, iI_cn, iI_cl, iI_in, Int.toNat_natCast, if_true, if_false, bq, not_false_eq_true]; rfl)) | with_reducible rfl)
    · rw [decide_eq_false c] at h1
      change bk_P_addPawnMoves_31 _ _ _ _ _ _ _ 0 = _ at h1
      repeat (first | with_reducible exact h1 | (refine hd_ck ?_ ?_; focus (simp (disch := omega) only [qq_let, Bool.true_eq_false, iI_z0, iI_bz0, iI_bz1, iI_bz, iI_ckt, Option.bind_some, iI_n, iI_lit, iI_neg, iI_add, iI_sub, iI_mul, iI_ltT, iI_ltF, iI_leT, iI_leF, iI_eqT, iI_eqF, iI_div, iI_cn, iI_cl, iI_in, Int.toNat_natCast, if_true, if_false, bq, not_false_eq_true]; done)) | (refine hd_T ?_ ?_; focus (simp (disch := omega) only [qq_let, Bool.true_eq_false, iI_z0, iI_bz0, iI_bz1, iI_bz, iI_ckt, Option.bind_some, iI_n, iI_lit, iI_neg, iI_add, iI_sub, iI_mul, iI_ltT, iI_ltF, iI_leT, iI_leF, iI_eqT, iI_eqF, iI_div, iI_cn, iI_cl, iI_in, Int.toNat_natCast, if_true, if_false, bq, not_false_eq_true]; done)) | (refine hd_F ?_ ?_; focus (simp (disch := omega) only [qq_let, Bool.true_eq_false, iI_z0, iI_bz0, iI_bz1, iI_bz, iI_ckt, Option.bind_some, iI_n, iI_lit, iI_neg, iI_add, iI_sub, iI_mul, iI_ltT, iI_ltF, iI_leT, iI_leF, iI_eqT, iI_eqF, iI_div, iI_cn, iI_cl, iI_in, Int.toNat_natCast, if_true, if_false, bq, not_false_eq_true]; done)) | (refine hd_b (v := ?_) ?_ ?_; rotate_left; focus (simp (disch := omega) only [qq_let, Bool.true_eq_false, iI_z0, iI_bz0, iI_bz1, iI_bz, iI_ckt, Option.bind_some, iI_n, iI_lit, iI_neg, iI_add, iI_sub, iI_mul, iI_ltT, iI_ltF, iI_leT, iI_leF, iI_eqT, iI_eqF, iI_div, iI_cn, iI_cl, iI_in, Int.toNat_natCast, if_true, if_false, bq, not_false_eq_true]; rfl)) | with_reducible rfl)
  · rw [if_neg cs] at h1
    by_cases c : a / 8 = 1
    · rw [decide_eq_true c] at h1
      change bk_P_addPawnMoves_31 _ _ _ _ _ _ _ 1 = _ at h1
      repeat (first | with_reducible exact h1 | (refine hd_ck ?_ ?_; focus (simp (disch := omega) only [qq_let, Bool.true_eq_false, iI_z0, iI_bz0, iI_bz1, iI_bz, iI_ckt, Option.bind_some, iI_n, iI_lit, iI_neg, iI_add, iI_sub, iI_mul, iI_ltT, iI_ltF, iI_leT, iI_leF, iI_eqT, iI_eqF, iI_div, iI_cn, iI_cl, iI_in, Int.toNat_natCast, if_true, if_false, bq, not_false_eq_true]; done)) | (refine hd_T ?_ ?_; focus (simp (disch := omega) only [qq_let, Bool.true_eq_false, iI_z0, iI_bz0, iI_bz1, iI_bz, iI_ckt, Option.bind_some, iI_n, iI_lit, iI_neg, iI_add, iI_sub, iI_mul, iI_ltT, iI_ltF, iI_leT, iI_leF, iI_eqT, iI_eqF, iI_div, iI_cn, iI_cl, iI_in, Int.toNat_natCast, if_true, if_false, bq, not_false_eq_true]; done)) | (refine hd_F ?_ ?_; focus (simp (disch := omega) only [qq_let, Bool.true_eq_false, iI_z0, iI_bz0, iI_bz1, iI_bz, iI_ckt, Option.bind_some, iI_n, iI_lit, iI_neg, iI_add, iI_sub, iI_mul, iI_ltT, iI_ltF, iI_leT, iI_leF, iI_eqT, iI_eqF, iI_div, iI_cn, iI_cl, iI_in, Int.toNat_natCast, if_true, if_false, bq, not_false_eq_true]; done)) | (refine hd_b (v := ?_) ?_ ?_; rotate_left; focus (simp (disch := omega) only [qq_let, Bool.true_eq_false, iI_z0, iI_bz0, iI_bz1, iI_bz, iI_ckt, Option.bind_some, iI_n, iI_lit, iI_neg, iI_add, iI_sub, iI_mul, iI_ltT, iI_ltF, iI_leT, iI_leF, iI_eqT, iI_eqF, iI_div, iI_cn, iI_cl, iI_in, Int.toNat_natCast, if_true, if_false, bq, not_false_eq_true]; rfl)) | with_reducible rfl)
    · rw [decide_eq_false c] at h1
      change bk_P_addPawnMoves_31 _ _ _ _ _ _ _ 0 = _ at h1
      repeat (first | with_reducible exact h1 | (refine hd_ck ?_ ?_; focus (simp (disch := omega) only [qq_let, Bool.true_eq_false, iI_z0, iI_bz0, iI_bz1, iI_bz, iI_ckt, Option.bind_some, iI_n, iI_lit, iI_neg, iI_add, iI_sub, iI_mul, iI_ltT, iI_ltF, iI_leT, iI_leF, iI_eqT, iI_eqF, iI_div, iI_cn, iI_cl, iI_in, Int.toNat_natCast, if_true, if_false, bq, not_false_eq_true]; done)) | (refine hd_T ?_ ?_; focus (simp (disch := omega) only [qq_let, Bool.true_eq_false, iI_z0, iI_bz0, iI_bz1, iI_bz, iI_ckt, Option.bind_some, iI_n, iI_lit, iI_neg, iI_add, iI_sub, iI_mul, iI_ltT, iI_ltF, iI_leT, iI_leF, iI_eqT, iI_eqF, iI_div, iI_cn, iI_cl, iI_in, Int.toNat_natCast, if_true, if_false, bq, not_false_eq_true]; done)) | (refine hd_F ?_ ?_; focus (simp (disch := omega) only [qq_let, Bool.true_eq_false, iI_z0, iI_bz0, iI_bz1, iI_bz, iI_ckt, Option.bind_some, iI_n, iI_lit, iI_neg, iI_add, iI_sub, iI_mul, iI_ltT, iI_ltF, iI_leT, iI_leF, iI_eqT, iI_eqF, iI_div, iI_cn, iI_cl, iI_in, Int.toNat_natCast, if_true, if_false, bq, not_false_eq_true]; done)) | (refine hd_b (v := ?_) ?_ ?_; rotate_left; focus (simp (disch := omega) only [qq_let, Bool.true_eq_false, iI_z0, iI_bz0, iI_bz1, iI_bz, iI_ckt, Option.bind_some, iI_n, iI_lit, iI_neg, iI_add, iI_sub, iI_mul, iI_ltT, iI_ltF, iI_leT, iI_leF, iI_eqT, iI_eqF, iI_div, iI_cn, iI_cl, iI_in, Int.toNat_natCast, if_true, if_false, bq, not_false_eq_true]; rfl)) | with_reducible rfl)
