/-! at most 415 candidates -/
theorem fil_or {α : Type} (l : List α) (p q : α → Bool) : (l.filter fun x => p x || q x).length ≤ (l.filter p).length + (l.filter q).length := by
  induction l with
  | nil => simp
  | cons x l ih =>
    simp only [List.filter_cons]
    cases h1 : p x <;> cases h2 : q x <;> simp <;> omega
theorem fil_gt (s : Nat) : ∀ (n j : Nat), s < j → ((List.range' j n).filter fun x => decide (x = s)).length = 0
  | 0, _, _ => rfl
  | n + 1, j, h => by
    rw [List.range'_succ, List.filter_cons, if_neg (by simp; omega)]
    exact fil_gt s n (j + 1) (by omega)
theorem fil_one (s : Nat) : ∀ (n j : Nat), ((List.range' j n).filter fun x => decide (x = s)).length ≤ 1
  | 0, _ => by simp
  | n + 1, j => by
    rw [List.range'_succ, List.filter_cons]
    by_cases h : j = s
    · rw [if_pos (by simp [h]), List.length_cons, fil_gt s n (j + 1) (by omega)]
      omega
    · rw [if_neg (by simp [h])]
      exact fil_one s n (j + 1)
theorem fil_mem (L : List Nat) : ((List.range' 0 64).filter fun x => decide (x ∈ L)).length ≤ L.length := by
  induction L with
  | nil => simp
  | cons s L ih =>
    have e : (fun x => decide (x ∈ s :: L)) = (fun x => decide (x = s) || decide (x ∈ L)) := by
      funext x
      simp
    rw [e, List.length_cons]
    have h1 := fil_or (List.range' 0 64) (fun x => decide (x = s)) (fun x => decide (x ∈ L))
    have h2 := fil_one s 64 0
    omega
theorem sb_len (L : List Nat) : (sb_l (orl 0 L)).length ≤ L.length := by
  have h := fil_mem L
  rw [sb_l, List.range_eq_range']
  have e : (fun j => (orl 0 L).testBit j) = fun x => decide (x ∈ L) := by
    funext x
    rw [orl_bit, Nat.zero_testBit, Bool.false_or]
  rw [e]
  exact h
theorem fm_len {α β : Type} (l : List α) (f : α → List β) (g : α → Nat) (h : ∀ x ∈ l, (f x).length ≤ g x) : (l.flatMap f).length ≤ (l.map g).sum := by
  induction l with
  | nil => simp
  | cons x l ih =>
    rw [List.flatMap_cons, List.length_append, List.map_cons, List.sum_cons]
    have h1 := h x List.mem_cons_self
    have h2 := ih (fun y hy => h y (List.mem_cons_of_mem _ hy))
    omega
theorem st_27 : ∀ a, a < 64 → ((List.range' 0 8).map fun w => min 7 (ge_st w a)).sum ≤ 27 ∧ ((List.range' 0 4).map fun w => min 7 (ge_st w a)).sum ≤ 27 ∧ ((List.range' 4 4).map fun w => min 7 (ge_st w a)).sum ≤ 27 ∧ ((List.range' 0 8).map fun w => min 1 (ge_st w a)).sum ≤ 8 := by decide +kernel
theorem tws_len {b : Bd} {sd a r w k : Nat} : (tws b sd a r w k).length ≤ ((List.range' w k).map fun w => min r (ge_st w a)).sum :=
  fm_len _ _ _ (fun x _ => tw_len b sd x a _ _)
theorem tk_len {b : Bd} {sd a : Nat} : (tk b sd a 0 8).length ≤ 8 := by
  have := fm_len (List.range' 0 8) (tk1 b sd a) (fun _ => 1) (fun x _ => by unfold tk1; split <;> simp)
  exact this
theorem lif_len (c : Bool) (s : Nat) : (lif c s).length ≤ 1 := by cases c <;> simp [lif]
theorem tc_len {b : Bd} {sd r : Nat} : (tc b sd r).length ≤ 2 := by
  unfold tc tc2
  split
  · rw [List.length_append]
    have h1 := lif_len (ch b sd r && !mh b (1 - sd) (hm sd + 1)) (hm sd + 2)
    have h2 := lif_len (cl b sd r && !mh b (1 - sd) (hm sd - 1)) (hm sd - 2)
    omega
  · simp
theorem tpn_len {b : Bd} {sd pp a : Nat} : (tpn b sd pp a).length ≤ 4 := by
  unfold tpn tpn2
  rw [List.length_append, List.length_append]
  have h1 := lif_len (decide (0 < a % 8) && cpt b sd pp (nx sd a - 1)) (nx sd a - 1)
  have h2 := lif_len (decide (a % 8 < 7) && cpt b sd pp (nx sd a + 1)) (nx sd a + 1)
  have h3 : (tpn1 b sd a).length ≤ 2 := by
    unfold tpn1
    split
    · have := lif_len (decide (a / 8 = (if sd = 0 then 1 else 6)) && (b (nx2 sd a)).val == 0) (nx2 sd a)
      rw [List.length_cons]; omega
    · simp
  omega
theorem prs_len (a : Nat) (m : List Nat) : (m.flatMap (prs a)).length = 4 * m.length := by
  induction m with
  | nil => rfl
  | cons x m ih => rw [List.flatMap_cons, List.length_append, ih, List.length_cons]; show 4 + _ = _; omega
theorem cf_len {b : Bd} {sd r pp a : Nat} (ha : a < 64) : (cf b sd r pp a).length ≤ if isOf (b a) sd = true then (if kd (b a) = 6 then 10 else 27) else 0 := by
  obtain ⟨t1, t2, t3, t4⟩ := st_27 a ha
  have q1 := tws_len (b := b) (sd := sd) (a := a) (r := 7) (w := 0) (k := 8)
  have q2 := tws_len (b := b) (sd := sd) (a := a) (r := 7) (w := 0) (k := 4)
  have q3 := tws_len (b := b) (sd := sd) (a := a) (r := 7) (w := 4) (k := 4)
  have q4 := tws_len (b := b) (sd := sd) (a := a) (r := 1) (w := 0) (k := 8)
  have q5 := tk_len (b := b) (sd := sd) (a := a)
  unfold cf
  split
  · rename_i h1
    split
    · rename_i h2
      rw [if_neg (by omega)]
      have h3 := sb_len (tpn b sd pp a)
      have h4 := tpn_len (b := b) (sd := sd) (pp := pp) (a := a)
      by_cases cc : a / 8 = (if sd = 0 then 6 else 1)
      · rw [cpw, if_pos cc, prs_len]; omega
      · rw [cpw, if_neg cc, List.length_map]; omega
    · split
      · rename_i h2 h6
        rw [List.length_map]
        have h3 := sb_len (tp b sd a 6 ++ tc b sd r)
        have h4 := tc_len (b := b) (sd := sd) (r := r)
        have h5 : tp b sd a 6 = tws b sd a 1 0 8 := rfl
        rw [List.length_append, h5] at h3
        rw [h5]
        omega
      · rw [List.length_map]
        have h3 := sb_len (tp b sd a (kd (b a)))
        have h4 : (tp b sd a (kd (b a))).length ≤ 27 := by
          unfold tp
          split
          · omega
          · split
            · omega
            · split
              · omega
              · split
                · omega
                · omega
        omega
  · simp
theorem all_len {b : Bd} {sd r pp : Nat} (l : List Nat) (hl : ∀ a ∈ l, a < 64) : (l.flatMap (cf b sd r pp)).length + 17 * (l.filter fun a => isOf (b a) sd && kd (b a) == 6).length ≤ 27 * (l.filter fun a => isOf (b a) sd).length := by
  induction l with
  | nil => simp
  | cons a l ih =>
    have h1 := ih (fun x hx => hl x (List.mem_cons_of_mem _ hx))
    have h2 := cf_len (b := b) (sd := sd) (r := r) (pp := pp) (hl a List.mem_cons_self)
    rw [List.flatMap_cons, List.length_append, List.filter_cons, List.filter_cons]
    cases c1 : isOf (b a) sd with
    | false =>
      rw [c1] at h2
      simp only [Bool.false_eq_true, if_false, Bool.false_and] at h2 ⊢
      omega
    | true =>
      rw [c1] at h2
      by_cases c6 : kd (b a) = 6
      · simp only [c6, if_true, beq_self_eq_true, Bool.and_self, List.length_cons] at h2 ⊢
        omega
      · simp only [c6, if_true, if_false, show (kd (b a) == 6) = false from by simp [c6], Bool.and_false, Bool.false_eq_true, List.length_cons] at h2 ⊢
        omega
theorem king_kd : ∀ p : Fin 13, ∀ sd : Nat, sd < 2 → p.val = 6 + 6 * sd → isOf p sd = true ∧ kd p = 6 := by decide
theorem cands_len {b : Bd} {sd r pp : Nat} {k : Nat → Nat} (h : pv b sd r pp k) : (cands b sd r pp).length ≤ 415 := by
  have hsd := h.1.1
  have hk := pv_ok h hsd
  have h16 := h.2.2.2.2.2.1 sd hsd
  have h1 := all_len (b := b) (sd := sd) (r := r) (pp := pp) (List.range' 0 64) (fun a ha => by rw [List.mem_range'_1] at ha; omega)
  have h2 : 1 ≤ ((List.range' 0 64).filter fun a => isOf (b a) sd && kd (b a) == 6).length := by
    apply List.length_pos_of_mem (a := k sd)
    rw [List.mem_filter, List.mem_range'_1]
    have := king_kd (b (k sd)) sd hsd hk.2.1
    exact ⟨by have := hk.1; omega, by simp [this.1, this.2]⟩
  unfold cnt at h16
  unfold cands
  omega
