/-! the targets are just what goes -/
theorem may_eq {b : Bd} {sd s : Nat} (hsd : sd < 2) : may b sd s = !isOf (b s) sd := may_own (b s) sd hsd
theorem tws_mem {b : Bd} {sd a r w k t : Nat} (hk : w + k ≤ 8) (ha : a < 64) : t ∈ tws b sd a r w k ↔ ∃ v e, w ≤ v ∧ v < w + k ∧ 1 ≤ e ∧ e ≤ r ∧ ge_wd a t = some (v, e) ∧ ry b v a e = true ∧ may b sd t = true := by
  simp only [tws, List.mem_flatMap, List.mem_range'_1, tw_mem]
  constructor
  · rintro ⟨v, ⟨h1, h2⟩, e, h3, h4, rfl, h5, h6⟩
    have h7 := ge_st_le v (by omega) a ha
    exact ⟨v, e, h1, h2, h3, by omega, ge_wd_in v (by omega) a ha e (by omega) h3 (by omega), (ry_iff b v a e).mpr h5, h6⟩
  · rintro ⟨v, e, h1, h2, h3, h4, h5, h6, h7⟩
    obtain ⟨g1, g2, g3, g4, g5⟩ := ge_wd_of h5
    exact ⟨v, ⟨h1, h2⟩, e, h3, by omega, g5.symm, (ry_iff b v a e).mp h6, by rw [g5]; exact h7⟩
theorem ge_sym (a t : Nat) : ge_fi t a * ge_ra t a = ge_fi a t * ge_ra a t := by
  have h1 : ge_fi t a = ge_fi a t := by unfold ge_fi; omega
  have h2 : ge_ra t a = ge_ra a t := by unfold ge_ra; omega
  rw [h1, h2]
theorem tk_mem {b : Bd} {sd a t : Nat} (ha : a < 64) (ht : t < 64) : t ∈ tk b sd a 0 8 ↔ ge_fi a t * ge_ra a t = 2 ∧ may b sd t = true := by
  have hj := ge_jk t ht a ha
  rw [ge_sym, Bool.eq_iff_iff, beq_iff_eq, List.any_eq_true] at hj
  rw [hj]
  simp only [tk, List.mem_flatMap, tk1]
  constructor
  · rintro ⟨j, h1, h2⟩
    split at h2
    · rename_i h3
      rw [List.mem_singleton] at h2
      subst h2
      exact ⟨⟨j, h1, by simp [h3.1]⟩, h3.2⟩
    · exact absurd h2 List.not_mem_nil
  · rintro ⟨⟨j, h1, h2⟩, h3⟩
    rw [Bool.and_eq_true, beq_iff_eq] at h2
    refine ⟨j, h1, ?_⟩
    rw [if_pos ⟨h2.1, by rw [h2.2]; exact h3⟩, h2.2]
    exact List.mem_singleton.mpr rfl
theorem tp_mem {b : Bd} {sd a t : Nat} (hsd : sd < 2) (ha : a < 64) (ht : t < 64) (hk1 : kd (b a) ≠ 1) (hk0 : 1 ≤ kd (b a)) : t ∈ tp b sd a (kd (b a)) ↔ (isOf (b t) sd = false ∧ re b a t = true) := by
  have hk6 := kd_le (b a)
  have hm : may b sd t = true ↔ isOf (b t) sd = false := by rw [may_eq hsd]; simp
  rw [← hm]
  have hc : kd (b a) = 2 ∨ kd (b a) = 3 ∨ kd (b a) = 4 ∨ kd (b a) = 5 ∨ kd (b a) = 6 := by omega
  by_cases h2 : kd (b a) = 2
  · rw [tp, if_pos h2, tk_mem ha ht]
    simp only [re, rk, h2, beq_iff_eq]
    exact And.comm
  · have hre := re_wd (b := b) ha ht h2
    rw [hre, rw1]
    have key : ∀ (r w k : Nat), w + k ≤ 8 → (∀ v e, v < 8 → 1 ≤ e → e < 8 → (gk (b a) v e = true ↔ (w ≤ v ∧ v < w + k ∧ e ≤ r))) → (t ∈ tws b sd a r w k ↔ may b sd t = true ∧ (match ge_wd a t with | some (w, d) => gk (b a) w d && ry b w a d | none => false) = true) := by
      intro r w k hwk hg
      rw [tws_mem hwk ha]
      constructor
      · rintro ⟨v, e, h1, h2, h3, h4, h5, h6, h7⟩
        obtain ⟨g1, g2, g3, g4, g5⟩ := ge_wd_of h5
        refine ⟨h7, ?_⟩
        rw [h5]
        simp only [Bool.and_eq_true]
        exact ⟨(hg v e g1 g2 g3).mpr ⟨h1, h2, h4⟩, h6⟩
      · rintro ⟨h1, h2⟩
        cases hw : ge_wd a t with
        | none => rw [hw] at h2; simp at h2
        | some x =>
          obtain ⟨v, e⟩ := x
          obtain ⟨g1, g2, g3, g4, g5⟩ := ge_wd_of hw
          rw [hw] at h2
          simp only [Bool.and_eq_true] at h2
          obtain ⟨q1, q2, q3⟩ := (hg v e g1 g2 g3).mp h2.1
          exact ⟨v, e, q1, q2, g2, q3, rfl, h2.2, h1⟩
    rcases hc with h | h | h | h | h
    · exact absurd h h2
    · rw [tp, if_neg h2, if_pos h]
      apply key 7 4 4 (by omega)
      intro v e h1 h3 h4
      simp only [gk, h, decide_eq_true_eq]
      omega
    · rw [tp, if_neg h2, if_neg (by omega), if_pos h]
      apply key 7 0 4 (by omega)
      intro v e h1 h3 h4
      simp only [gk, h, decide_eq_true_eq]
      omega
    · rw [tp, if_neg h2, if_neg (by omega), if_neg (by omega), if_pos h]
      apply key 7 0 8 (by omega)
      intro v e h1 h3 h4
      simp only [gk, h, true_iff]
      omega
    · rw [tp, if_neg h2, if_neg (by omega), if_neg (by omega), if_neg (by omega)]
      apply key 1 0 8 (by omega)
      intro v e h1 h3 h4
      simp only [gk, h, beq_iff_eq]
      omega
theorem isOf_pawn : ∀ p : Fin 13, ∀ sd : Nat, sd < 2 → p.val = 1 + 6 * sd → kd p = 1 ∧ isOf p sd = true ∧ (p.val ≤ 6 ↔ sd = 0) := by decide
theorem isOf_two : ∀ p : Fin 13, ∀ sd : Nat, sd < 2 → (isOf p (1 - sd) = true ↔ (isOf p sd = false ∧ p.val ≠ 0)) := by decide
theorem isOf_z : ∀ p : Fin 13, ∀ sd : Nat, sd < 2 → p.val = 0 → isOf p sd = false := by decide
theorem pawn_re {b : Bd} {sd a t : Nat} (hsd : sd < 2) (hp : (b a).val = 1 + 6 * sd) (ha : 8 ≤ a) (ha2 : a < 56) : re b a t = true ↔ ((0 < a % 8 ∧ t = nx sd a - 1) ∨ (a % 8 < 7 ∧ t = nx sd a + 1)) := by
  obtain ⟨h1, -, h3⟩ := isOf_pawn (b a) sd hsd hp
  simp only [re, rk, h1, Bool.and_eq_true, beq_iff_eq]
  unfold ge_fi nx
  by_cases cs : sd = 0
  · rw [if_pos (h3.mpr cs), if_pos cs]; omega
  · rw [if_neg (fun h => cs (h3.mp h)), if_neg cs]; omega
theorem pawn_mem {b : Bd} {sd pp a t : Nat} (hsd : sd < 2) (hpp : pp < 9) (ha : 8 ≤ a) (ha2 : a < 56) (hp : (b a).val = 1 + 6 * sd) (ht : t < 64) (hpe : 1 ≤ pp → (b (ptg sd pp)).val = 0) : t ∈ tpn b sd pp a ↔ (isOf (b t) sd = false ∧ pg1 b sd pp a t = true) := by
  have hre := pawn_re (t := t) hsd hp ha ha2
  have h2 := isOf_two (b t) sd hsd
  have hz := isOf_z (b t) sd hsd
  simp only [tpn, List.mem_append]
  have e1 : t ∈ tpn1 b sd a ↔ (stp1 b sd a t = true ∨ far1 b sd a t = true) := by
    simp only [tpn1, stp1, far1, Bool.and_eq_true, beq_iff_eq, decide_eq_true_eq]
    by_cases c : (b (nx sd a)).val = 0
    · rw [if_pos c, List.mem_cons, lif_mem, Bool.and_eq_true, decide_eq_true_eq, beq_iff_eq]
      constructor
      · rintro (rfl | ⟨⟨q1, q2⟩, rfl⟩)
        · exact Or.inl ⟨rfl, c⟩
        · exact Or.inr ⟨q1, rfl, c, q2⟩
      · rintro (⟨rfl, -⟩ | ⟨q1, rfl, -, q2⟩)
        · exact Or.inl rfl
        · exact Or.inr ⟨⟨q1, q2⟩, rfl⟩
    · rw [if_neg c]
      constructor
      · intro h; exact absurd h List.not_mem_nil
      · rintro (⟨rfl, q⟩ | ⟨q1, rfl, q2, q3⟩)
        · exact absurd q c
        · exact absurd q2 c
  have hps : ((0 < a % 8 ∧ t = nx sd a - 1) ∨ (a % 8 < 7 ∧ t = nx sd a + 1)) → 1 ≤ pp → (t = ptg sd pp ↔ (t % 8 + 1 = pp ∧ a / 8 + sd = 4)) := by
    intro h h0
    unfold nx at h
    unfold ptg
    by_cases cs : sd = 0
    · rw [if_pos cs] at h ⊢; omega
    · rw [if_neg cs] at h ⊢; omega
  have e2 : t ∈ tpn2 b sd pp a (nx sd a) ↔ (isOf (b t) sd = false ∧ ((re b a t = true ∧ (b t).val ≠ 0) ∨ psb b sd pp a t = true)) := by
    simp only [tpn2, List.mem_append, lif_mem, Bool.and_eq_true, decide_eq_true_eq, cpt, Bool.or_eq_true, beq_iff_eq, psb]
    constructor
    · intro h
      have hr : re b a t = true := by
        apply hre.mpr
        rcases h with ⟨⟨q1, -⟩, q2⟩ | ⟨⟨q1, -⟩, q2⟩
        · exact Or.inl ⟨q1, q2⟩
        · exact Or.inr ⟨q1, q2⟩
      have hc : isOf (b t) (1 - sd) = true ∨ (1 ≤ pp ∧ t = ptg sd pp) := by
        rcases h with ⟨⟨-, q1⟩, q2⟩ | ⟨⟨-, q1⟩, q2⟩
        · rw [← q2] at q1; exact q1
        · rw [← q2] at q1; exact q1
      rcases hc with hc | ⟨hc1, hc2⟩
      · obtain ⟨g1, g2⟩ := h2.mp hc
        exact ⟨g1, Or.inl ⟨hr, g2⟩⟩
      · have hb := hpe hc1
        rw [← hc2] at hb
        obtain ⟨g1, g2⟩ := (hps (hre.mp hr) hc1).mp hc2
        exact ⟨hz hb, Or.inr ⟨hc1, g1, g2, hr, hb⟩⟩
    · rintro ⟨h1, h3⟩
      have hr : re b a t = true := by
        rcases h3 with h3 | h3
        · exact h3.1
        · exact h3.2.2.2.1
      have hc : isOf (b t) (1 - sd) = true ∨ (1 ≤ pp ∧ t = ptg sd pp) := by
        rcases h3 with h3 | h3
        · exact Or.inl (h2.mpr ⟨h1, h3.2⟩)
        · exact Or.inr ⟨h3.1, (hps (hre.mp hr) h3.1).mpr ⟨h3.2.1, h3.2.2.1⟩⟩
      rcases hre.mp hr with ⟨q1, q2⟩ | ⟨q1, q2⟩
      · left
        rw [← q2]
        exact ⟨⟨q1, hc⟩, rfl⟩
      · right
        rw [← q2]
        exact ⟨⟨q1, hc⟩, rfl⟩
  rw [e1, e2]
  simp only [pg1, Bool.or_eq_true, Bool.and_eq_true, Bool.not_eq_true', beq_eq_false_iff_ne]
  constructor
  · rintro ((h | h) | ⟨h1, h⟩)
    · refine ⟨?_, Or.inl h⟩
      simp only [stp1, Bool.and_eq_true, beq_iff_eq] at h
      exact hz h.2
    · refine ⟨?_, Or.inr (Or.inl h)⟩
      simp only [far1, Bool.and_eq_true, beq_iff_eq] at h
      exact hz h.2.2.2
    · exact ⟨h1, Or.inr (Or.inr h)⟩
  · rintro ⟨h1, h | h | h⟩
    · exact Or.inl (Or.inl h)
    · exact Or.inl (Or.inr h)
    · exact Or.inr ⟨h1, h⟩
theorem cs_at : ∀ sd : Nat, sd < 2 → ge_at 0 (hm sd) 1 = hm sd + 1 ∧ ge_at 0 (hm sd) 2 = hm sd + 2 ∧ ge_at 2 (hm sd) 1 = hm sd - 1 ∧ ge_at 2 (hm sd) 2 = hm sd - 2 ∧ ge_at 2 (hm sd) 3 = hm sd - 3 := by decide
theorem tc_mem {b : Bd} {sd r ks t : Nat} (hsd : sd < 2) (hk : ok1 b sd ks) (hh : r.testBit (2 * sd) = true ∨ r.testBit (2 * sd + 1) = true → ks = hm sd) : t ∈ tc b sd r ↔ (isOf (b t) sd = false ∧ cst b sd r ks ks t = true) := by
  obtain ⟨w1, w2⟩ := cs_wd sd hsd
  obtain ⟨a1, a2, a3, a4, a5⟩ := cs_at sd hsd
  have hq : hm sd = 4 + 56 * sd := rfl
  have f1 : fr b (hm sd) (hm sd + 3) = ((List.range' (hm sd + 1) 2).all fun j => (b j).val == 0) := by
    simp only [fr, w1, ry, a1, a2, Bool.true_and]
    simp [List.range'_succ]
  have f2 : fr b (hm sd) (hm sd - 4) = ((List.range' (hm sd - 3) 3).all fun j => (b j).val == 0) := by
    simp only [fr, w2, ry, a3, a4, a5, Bool.true_and]
    simp only [List.range'_succ, List.range'_zero, List.all_cons, List.all_nil, Bool.and_true, show hm sd - 3 + 1 = hm sd - 2 by omega, show hm sd - 2 + 1 = hm sd - 1 by omega]
    cases (b (hm sd - 1)).val == 0 <;> cases (b (hm sd - 2)).val == 0 <;> cases (b (hm sd - 3)).val == 0 <;> rfl
  have g1 : ∀ q, ch b sd r = true → (q = hm sd + 2) → isOf (b q) sd = false := by
    intro q h1 h2
    simp only [ch, Bool.and_eq_true, List.all_eq_true, List.mem_range'_1, beq_iff_eq] at h1
    exact isOf_z _ _ hsd (h1.2 q (by omega))
  have g2 : ∀ q, cl b sd r = true → (q = hm sd - 2) → isOf (b q) sd = false := by
    intro q h1 h2
    simp only [cl, Bool.and_eq_true, List.all_eq_true, List.mem_range'_1, beq_iff_eq] at h1
    exact isOf_z _ _ hsd (h1.2 q (by omega))
  by_cases hR : r.testBit (2 * sd) = true ∨ r.testBit (2 * sd + 1) = true
  · have hks := hh hR
    subst hks
    have c1 : csu b sd r (hm sd) = (ch b sd r && (!mh b (1 - sd) (hm sd) && !mh b (1 - sd) (hm sd + 1))) := by
      simp only [csu, ch, f1, Bool.and_assoc]
    have c2 : csd b sd r (hm sd) = (cl b sd r && (!mh b (1 - sd) (hm sd) && !mh b (1 - sd) (hm sd - 1))) := by
      simp only [csd, cl, f2, Bool.and_assoc]
    simp only [tc, tc2, cst, c1, c2, beq_self_eq_true, Bool.true_and]
    cases h1 : ch b sd r <;> cases h2 : cl b sd r <;> cases h3 : mh b (1 - sd) (hm sd) <;> simp [lif_mem]
    · exact ⟨fun h => ⟨g2 _ h2 h.2, h.2, h.1⟩, fun h => ⟨h.2.2, h.2.1⟩⟩
    · exact ⟨fun h => ⟨g1 _ h1 h.2, h.2, h.1⟩, fun h => ⟨h.2.2, h.2.1⟩⟩
    · constructor
      · rintro (h | h)
        · exact ⟨g1 _ h1 h.2, Or.inl ⟨h.2, h.1⟩⟩
        · exact ⟨g2 _ h2 h.2, Or.inr ⟨h.2, h.1⟩⟩
      · rintro ⟨-, h | h⟩
        · exact Or.inl ⟨h.2, h.1⟩
        · exact Or.inr ⟨h.2, h.1⟩
  · have r0 : r.testBit (2 * sd) = false := by
      cases h : r.testBit (2 * sd) with
      | false => rfl
      | true => exact absurd (Or.inl h) hR
    have r1 : r.testBit (2 * sd + 1) = false := by
      cases h : r.testBit (2 * sd + 1) with
      | false => rfl
      | true => exact absurd (Or.inr h) hR
    simp [tc, tc2, ch, cl, cst, csu, csd, r0, r1]
