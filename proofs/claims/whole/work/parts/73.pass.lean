/-! moves by passing: the class's number and the model's -/
def lwb (P : Ps) : Bool := decide (2 ≤ P.2.2.2.1) && ((P.1 (pbs P.2.1 P.2.2.2.1 - 1)).val == 1 + 6 * P.2.1 && sf P.1 P.2.1 P.2.2.2.2 (pbs P.2.1 P.2.2.2.1 - 1) (ptg P.2.1 P.2.2.2.1) 0)
def hib (P : Ps) : Bool := decide (1 ≤ P.2.2.2.1 ∧ P.2.2.2.1 < 8) && ((P.1 (pbs P.2.1 P.2.2.2.1 + 1)).val == 1 + 6 * P.2.1 && sf P.1 P.2.1 P.2.2.2.2 (pbs P.2.1 P.2.2.2.1 + 1) (ptg P.2.1 P.2.2.2.1) 0)
def bn (x : Bool) : Nat := if x then 1 else 0
def pn1 (P : Ps) : Nat := if (lwb P || hib P) = true then 4 * (P.2.2.2.1 - 1) + bn (lwb P) + 2 * bn (hib P) else 0
def pn2 (P : Ps) : Nat := if (lwb P || hib P) = true then 4 * P.2.2.2.1 + bn (lwb P) + 2 * bn (hib P) else 0
theorem geo_e {sd : Nat} (hsd : sd < 2) (pp a : Nat) : pbs sd pp = pp - 1 + 8 * (4 - sd) ∧ ptg sd pp = pp - 1 + (40 - 24 * sd) ∧ (sd = 0 → nx sd a = a + 8) ∧ (sd = 1 → nx sd a = a - 8) := by
  rcases (show sd = 0 ∨ sd = 1 by omega) with rfl | rfl
  · exact ⟨rfl, rfl, fun _ => rfl, fun z => by omega⟩
  · exact ⟨rfl, rfl, fun z => by omega, fun _ => rfl⟩
theorem ps_gs {b : Bd} {sd r pp : Nat} {k : Nat → Nat} (h : pv b sd r pp k) (h1 : 1 ≤ pp) {a : Nat} (ha : (2 ≤ pp ∧ a = pbs sd pp - 1) ∨ (pp < 8 ∧ a = pbs sd pp + 1)) (hv : (b a).val = 1 + 6 * sd) : gs b sd r pp (k sd) a (ptg sd pp) 0 = true := by
  have hsd := h.1.1
  have hpp := h.1.2.2
  have hpf := h.2.2.2.2.1 h1
  obtain ⟨k1, k2, -⟩ := isOf_pawn (b a) sd hsd hv
  have hz := isOf_z (b (ptg sd pp)) sd hsd hpf.1
  obtain ⟨e1, e2, e3, e4⟩ := geo_e hsd pp a
  have hb : 8 ≤ a ∧ a < 56 := by omega
  have hs01 : sd = 0 ∨ sd = 1 := by omega
  have hre := (@pawn_re b sd a (ptg sd pp) hsd hv hb.1 hb.2).mpr (by
    rcases hs01 with q | q
    · have := e3 q; omega
    · have := e4 q; omega)
  have hfit : fit sd (ptg sd pp) 0 = true := by
    rw [fit, if_neg]
    · rfl
    · intro q
      split at q <;> omega
  have hps : psb b sd pp a (ptg sd pp) = true := by
    rw [psb]
    simp only [Bool.and_eq_true, decide_eq_true_eq, beq_iff_eq]
    exact ⟨h1, by omega, by omega, hre, hpf.1⟩
  rw [gs, k2, hz, if_pos k1, pg, hfit, pg1, hps]
  simp
theorem pbs_lt {sd pp : Nat} (hsd : sd < 2) (hpp : pp < 9) (h1 : 1 ≤ pp) : pbs sd pp < 64 ∧ ptg sd pp < 64 ∧ 8 ≤ pbs sd pp ∧ pbs sd pp < 48 ∧ pbs sd pp = pp - 1 + 8 * (4 - sd) := by
  obtain ⟨e1, e2, -, -⟩ := geo_e hsd pp 0
  omega
theorem p_passingMoves {P : Ps} (h : pvp P) : fn_P_passingMoves (iI (P.2.1 : Int)) (iI (P.2.2.1 : Int)) (iI ((P.2.2.2.1 : Int) - 1)) (bq P.1) (kq P.2.2.2.2) = some (iI (pn1 P : Int), iI (P.2.1 : Int), iI (P.2.2.1 : Int), iI ((P.2.2.2.1 : Int) - 1), bq P.1, kq P.2.2.2.2) := by
  obtain ⟨b, sd, r, pp, k⟩ := P
  have h : pv b sd r pp k := h
  show fn_P_passingMoves (iI (sd : Int)) (iI (r : Int)) (iI ((pp : Int) - 1)) (bq b) (kq k) = some (iI (pn1 (b, sd, r, pp, k) : Int), iI (sd : Int), iI (r : Int), iI ((pp : Int) - 1), bq b, kq k)
  have hsd := h.1.1
  have hpp := h.1.2.2
  rw [fn_P_passingMoves]
  rcases Nat.lt_or_ge pp 1 with h1 | h1
  · have e0 : pp = 0 := by omega
    subst e0
    exact hd_T rfl rfl
  obtain ⟨l1, l2, l3, l4, l5⟩ := pbs_lt hsd hpp h1
  have hpt := p_ptg sd hsd pp hpp h1
  have e16 : (1 : Int32) + 6 * iI (sd : Int) = iI ((1 + 6 * sd : Nat) : Int) := by
    show iI 1 + iI 6 * iI _ = _
    rw [iI_mul, iI_add]; congr 1
  -- the end: the number out of the two answers
  have end1 : ∀ lw hg : Bool, bk_P_passingMoves_128 (iI (sd : Int)) (iI (r : Int)) (iI ((pp : Int) - 1)) (bq b) (kq k) (ge_z lw) (ge_z hg) = some (iI ((if (lw || hg) = true then 4 * (pp - 1) + bn lw + 2 * bn hg else 0 : Nat) : Int), iI (sd : Int), iI (r : Int), iI ((pp : Int) - 1), bq b, kq k) := by
    have e4 : (4 : Int32) * iI ((pp : Int) - 1) = iI ((4 * (pp - 1) : Nat) : Int) := by
      show iI 4 * iI _ = _
      rw [iI_mul]; congr 1; omega
    have s : ∀ x y z : Nat, iI (x : Int) + iI (y : Int) + iI (z : Int) = iI ((x + y + z : Nat) : Int) := by
      intro x y z
      rw [iI_add, iI_add]; congr 1
    intro lw hg
    rw [bk_P_passingMoves_128]
    cases lw with
    | false =>
      refine hd_T rfl ?_
      cases hg with
      | false => exact hd_T rfl rfl
      | true =>
        refine hd_F gzT ?_
        rw [bk_P_passingMoves_139]
        refine hd_T rfl ?_
        rw [bk_P_passingMoves_154]
        refine hd_F gzT ?_
        rw [bk_P_passingMoves_165, bk_P_passingMoves_170, e4]
        rw [show (iI ((4 * (pp - 1) : Nat) : Int) + 0 + 2 : Int32) = iI ((4 * (pp - 1) : Nat) : Int) + iI ((0 : Nat) : Int) + iI ((2 : Nat) : Int) from rfl, s]
        rfl
    | true =>
      refine hd_F gzT ?_
      rw [bk_P_passingMoves_139]
      refine hd_F gzT ?_
      rw [bk_P_passingMoves_154]
      cases hg with
      | false =>
        refine hd_T rfl ?_
        rw [bk_P_passingMoves_165, bk_P_passingMoves_170, e4]
        rw [show (iI ((4 * (pp - 1) : Nat) : Int) + 1 + 0 : Int32) = iI ((4 * (pp - 1) : Nat) : Int) + iI ((1 : Nat) : Int) + iI ((0 : Nat) : Int) from rfl, s]
        rfl
      | true =>
        refine hd_F gzT ?_
        rw [bk_P_passingMoves_165, bk_P_passingMoves_170, e4]
        rw [show (iI ((4 * (pp - 1) : Nat) : Int) + 1 + 2 : Int32) = iI ((4 * (pp - 1) : Nat) : Int) + iI ((1 : Nat) : Int) + iI ((2 : Nat) : Int) from rfl, s]
        rfl
  have eb : iI (pbs sd pp : Int) + 1 = iI ((pbs sd pp + 1 : Nat) : Int) := iI_s1 _
  have em : iI (pbs sd pp : Int) - 1 = iI ((pbs sd pp - 1 : Nat) : Int) := by
    show iI _ - iI 1 = _
    rw [iI_sub]; congr 1; omega
  -- the high side
  have hi : ∀ lw : Bool, bk_P_passingMoves_83 (iI (sd : Int)) (iI (r : Int)) (iI ((pp : Int) - 1)) (bq b) (kq k) (iI ((1 + 6 * sd : Nat) : Int)) (iI (pbs sd pp : Int)) (ge_z lw) = bk_P_passingMoves_128 (iI (sd : Int)) (iI (r : Int)) (iI ((pp : Int) - 1)) (bq b) (kq k) (ge_z lw) (ge_z (hib (b, sd, r, pp, k))) := by
    intro lw
    have eh : hib (b, sd, r, pp, k) = (decide (1 ≤ pp ∧ pp < 8) && ((b (pbs sd pp + 1)).val == 1 + 6 * sd && sf b sd k (pbs sd pp + 1) (ptg sd pp) 0)) := rfl
    rw [eh, bk_P_passingMoves_83]
    by_cases h8 : pp < 8
    · rw [decide_eq_true ⟨h1, h8⟩, Bool.true_and]
      refine hd_F (by show ¬ iI 7 ≤ iI _; rw [iI_le (by omega) (by omega) (by omega) (by omega)]; omega) ?_
      rw [eb, iI_cn (by omega)]
      refine hd_ck (iI_in (by omega) (by omega) (by omega)) ?_
      have ev : bq b (pbs sd pp + 1) = iI ((b (pbs sd pp + 1)).val : Int) := rfl
      rw [ev]
      by_cases hv : (b (pbs sd pp + 1)).val = 1 + 6 * sd
      · have hg := ps_gs h h1 (Or.inr ⟨h8, rfl⟩) hv
        have hs := p_safe h (by omega) l2 (by omega) hg
        have hcd := b_codeOf (pbs sd pp + 1) (ptg sd pp) 0
        rw [hv, beq_self_eq_true, Bool.true_and]
        refine hd_T rfl (hd_b hpt (hd_b hcd (hd_b hs ?_)))
        cases sf b sd k (pbs sd pp + 1) (ptg sd pp) 0 with
        | false => exact hd_T rfl rfl
        | true => exact hd_F gzT rfl
      · rw [beq_eq_false_iff_ne.mpr hv, Bool.false_and]
        refine hd_F (by rw [iI_eq (by omega) (by omega) (by omega) (by omega)]; omega) ?_
        rfl
    · rw [decide_eq_false (by omega), Bool.false_and]
      refine hd_T (by show iI 7 ≤ iI _; rw [iI_le (by omega) (by omega) (by omega) (by omega)]; omega) ?_
      rfl
  have lo : bk_P_passingMoves_38 (iI (sd : Int)) (iI (r : Int)) (iI ((pp : Int) - 1)) (bq b) (kq k) (iI ((1 + 6 * sd : Nat) : Int)) (iI ((pp : Int) - 1)) 8 (if sd = 0 then 4 else 3) = bk_P_passingMoves_83 (iI (sd : Int)) (iI (r : Int)) (iI ((pp : Int) - 1)) (bq b) (kq k) (iI ((1 + 6 * sd : Nat) : Int)) (iI (pbs sd pp : Int)) (ge_z (lwb (b, sd, r, pp, k))) := by
    have el : lwb (b, sd, r, pp, k) = (decide (2 ≤ pp) && ((b (pbs sd pp - 1)).val == 1 + 6 * sd && sf b sd k (pbs sd pp - 1) (ptg sd pp) 0)) := rfl
    have ex : iI ((pp : Int) - 1) + 8 * (if sd = 0 then (4 : Int32) else 3) = iI (pbs sd pp : Int) := by
      rw [l5]
      rcases (show sd = 0 ∨ sd = 1 by omega) with rfl | rfl
      · show iI _ + iI 8 * iI 4 = _
        rw [iI_mul, iI_add]; congr 1; omega
      · show iI _ + iI 8 * iI 3 = _
        rw [iI_mul, iI_add]; congr 1; omega
    rw [el, bk_P_passingMoves_38, ex]
    by_cases h2 : 2 ≤ pp
    · rw [decide_eq_true h2, Bool.true_and]
      refine hd_F (by show ¬ iI _ ≤ iI 0; rw [iI_le (by omega) (by omega) (by omega) (by omega)]; omega) ?_
      rw [em, iI_cn (by omega)]
      refine hd_ck (iI_in (by omega) (by omega) (by omega)) ?_
      have ev : bq b (pbs sd pp - 1) = iI ((b (pbs sd pp - 1)).val : Int) := rfl
      rw [ev]
      by_cases hv : (b (pbs sd pp - 1)).val = 1 + 6 * sd
      · have hg := ps_gs h h1 (Or.inl ⟨h2, rfl⟩) hv
        have hs := p_safe h (by omega) l2 (by omega) hg
        have hcd := b_codeOf (pbs sd pp - 1) (ptg sd pp) 0
        rw [hv, beq_self_eq_true, Bool.true_and]
        refine hd_T rfl (hd_b hpt (hd_b hcd (hd_b hs ?_)))
        cases sf b sd k (pbs sd pp - 1) (ptg sd pp) 0 with
        | false => exact hd_T rfl rfl
        | true => exact hd_F gzT rfl
      · rw [beq_eq_false_iff_ne.mpr hv, Bool.false_and]
        refine hd_F (by rw [iI_eq (by omega) (by omega) (by omega) (by omega)]; omega) ?_
        rfl
    · rw [decide_eq_false (by omega), Bool.false_and]
      refine hd_T (by show iI _ ≤ iI 0; rw [iI_le (by omega) (by omega) (by omega) (by omega)]; omega) ?_
      rfl
  refine hd_F (by show ¬ iI _ = iI (-1); rw [iI_eq (by omega) (by omega) (by omega) (by omega)]; omega) ?_
  show (if iI (sd : Int) = 0 then bk_P_passingMoves_38 (iI (sd : Int)) (iI (r : Int)) (iI ((pp : Int) - 1)) (bq b) (kq k) (1 + (6 * iI (sd : Int))) (iI ((pp : Int) - 1)) 8 4 else bk_P_passingMoves_38 (iI (sd : Int)) (iI (r : Int)) (iI ((pp : Int) - 1)) (bq b) (kq k) (1 + (6 * iI (sd : Int))) (iI ((pp : Int) - 1)) 8 3) = _
  rw [e16]
  have fin : bk_P_passingMoves_38 (iI (sd : Int)) (iI (r : Int)) (iI ((pp : Int) - 1)) (bq b) (kq k) (iI ((1 + 6 * sd : Nat) : Int)) (iI ((pp : Int) - 1)) 8 (if sd = 0 then 4 else 3) = some (iI (pn1 (b, sd, r, pp, k) : Int), iI (sd : Int), iI (r : Int), iI ((pp : Int) - 1), bq b, kq k) := by
    rw [lo, hi, end1]; rfl
  rcases (show sd = 0 ∨ sd = 1 by omega) with hz | hz
  · refine hd_T (by rw [hz]; rfl) ?_
    rw [if_pos hz] at fin
    exact fin
  · refine hd_F (by rw [hz]; decide) ?_
    rw [if_neg (by omega)] at fin
    exact fin
theorem pn1_lt {P : Ps} (h : pvp P) : pn1 P < 32 := by
  have hpp := h.1.2.2
  have h1 : ∀ x, bn x ≤ 1 := by intro x; cases x <;> decide
  have h2 := h1 (lwb P)
  have h3 := h1 (hib P)
  rw [pn1]; split
  · by_cases h0 : 1 ≤ P.2.2.2.1
    · omega
    · have : P.2.2.2.1 = 0 := by omega
      omega
  · omega
theorem pn_12 {P Q : Ps} (_h : pvp P) (_h' : pvp Q) : pn1 P = pn1 Q ↔ pn2 P = pn2 Q := by
  have h1 : ∀ x, bn x ≤ 1 := by intro x; cases x <;> decide
  have h2 := h1 (lwb P)
  have h3 := h1 (hib P)
  have h4 := h1 (lwb Q)
  have h5 := h1 (hib Q)
  have z : ∀ P : Ps, (lwb P || hib P) = true → 1 ≤ P.2.2.2.1 := by
    intro P hp
    rw [lwb, hib] at hp
    simp only [Bool.or_eq_true, Bool.and_eq_true, decide_eq_true_eq] at hp
    omega
  have w : ∀ P : Ps, (lwb P || hib P) = true → 1 ≤ bn (lwb P) + 2 * bn (hib P) := by
    intro P hp
    revert hp
    cases lwb P <;> cases hib P <;> decide
  rw [pn1, pn1, pn2, pn2]
  split
  · rename_i a
    have a1 := z P a
    have a2 := w P a
    split
    · rename_i c
      have c1 := z Q c
      have c2 := w Q c
      omega
    · omega
  · split
    · rename_i c
      have c1 := z Q c
      have c2 := w Q c
      omega
    · exact Iff.rfl
