/-! moves by passing, in the model -/
theorem m_pass_r {b : Bd} {sd r pp : Nat} {k : Nat → Nat} (h : pv b sd r pp k) (h1 : 1 ≤ pp) (q : Int32) (K : KT) {f : Int} {a d : Nat} (hf : -10 < f ∧ f < 20) (hd : d < 2) (x : Nat) (ok : Bool) (hok : ok = true ↔ (0 ≤ f ∧ f ≤ 7)) (ha : ok = true → (a : Int) = 8 * (4 - (sd : Int)) + f ∧ a < 64) (hgs : ok = true → (b a).val = 1 + 6 * sd → gs b sd r pp (k sd) a (ptg sd pp) 0 = true)
    (k4 : Int32 → Int32 → Int32 → Int32 → (Nat → Int32) → (Nat → Int32) → (Nat → Int32) → (Nat → Int32) → (Nat → Int32) → (Nat → Int32) → Int32 → Int32 → Option ty_M_passing) :
    ∃ K' : KT, bk_M_passing_35 k4 (iI (sd : Int)) (iI (r : Int)) (iI ((pp : Int) - 1)) q (bq b) K.1 K.2.1 K.2.2.1 K.2.2.2.1 K.2.2.2.2 (iI (x : Int)) (iI (d : Int)) (iI f) = k4 (iI (sd : Int)) (iI (r : Int)) (iI ((pp : Int) - 1)) q (bq b) K'.1 K'.2.1 K'.2.2.1 K'.2.2.2.1 K'.2.2.2.2 (iI ((x + (if (ok && ((b a).val == 1 + 6 * sd && sf b sd k a (ptg sd pp) 0)) = true then 1 + d else 0) : Nat) : Int)) (iI ((d + 1 : Nat) : Int)) ∧ kag 3 K K' := by
  have hsd := h.1.1
  have hpp := h.1.2.2
  obtain ⟨l1, l2, l3, l4, l5⟩ := pbs_lt hsd hpp h1
  obtain ⟨g1, g2, -, -⟩ := geo_e hsd pp 0
  have ev : (8 : Int32) * (4 - iI (sd : Int)) + iI f = iI (8 * (4 - (sd : Int)) + f) := by
    show iI 8 * (iI 4 - iI _) + iI _ = _
    rw [iI_sub, iI_mul, iI_add]
  have et : (8 : Int32) * (4 - iI (sd : Int) + iI (if sd = 0 then 1 else -1)) + iI ((pp : Int) - 1) = iI (ptg sd pp : Int) := by
    show iI 8 * (iI 4 - iI _ + iI _) + iI _ = _
    rw [iI_sub, iI_add, iI_mul, iI_add]
    congr 1
    split <;> omega
  have e16 : (1 : Int32) + 6 * iI (sd : Int) = iI ((1 + 6 * sd : Nat) : Int) := by
    show iI 1 + iI 6 * iI _ = _
    rw [iI_mul, iI_add]; congr 1
  have ea := m_ahead sd hsd
  have eo := @m_outside f 0 7 (by omega) (by omega) (by omega) (by omega) (by omega) (by omega)
  have eo' : fn_M_outside (iI f) 0 7 = some (ge_z (!(decide (0 ≤ f) && decide (f ≤ 7)))) := eo
  rw [bk_M_passing_35, ev, ea]
  simp only [qq_let, Option.bind_some]
  have e118 : ∀ K9 : KT, bk_M_passing_118 k4 (iI (sd : Int)) (iI (r : Int)) (iI ((pp : Int) - 1)) q (bq b) K9.1 K9.2.1 K9.2.2.1 K9.2.2.2.1 K9.2.2.2.2 (iI (x : Int)) (iI (d : Int)) = k4 (iI (sd : Int)) (iI (r : Int)) (iI ((pp : Int) - 1)) q (bq b) K9.1 K9.2.1 K9.2.2.1 K9.2.2.2.1 K9.2.2.2.2 (iI ((x + 0 : Nat) : Int)) (iI ((d + 1 : Nat) : Int)) := by
    intro K9
    rw [bk_M_passing_118, bk_M_passing_119, if_pos rfl, bk_M_passing_135, ← iI_s1]
    rfl
  cases hk : ok with
  | false =>
    refine ⟨K, ?_, kag_r _ _⟩
    have ho : (!(decide (0 ≤ f) && decide (f ≤ 7))) = true := by
      have : ¬ (0 ≤ f ∧ f ≤ 7) := fun z => by rw [hok.mpr z] at hk; exact absurd hk (by decide)
      simp only [Bool.not_eq_true', Bool.and_eq_false_iff, decide_eq_false_iff_not]
      omega
    rw [ho] at eo'
    refine hd_b eo' (hd_F gzT ?_)
    rw [e118, Bool.false_and]
    rfl
  | true =>
    have ho : (!(decide (0 ≤ f) && decide (f ≤ 7))) = false := by
      have := hok.mp hk
      simp only [Bool.not_eq_false', Bool.and_eq_true, decide_eq_true_eq]
      omega
    rw [ho] at eo'
    obtain ⟨a1, a2⟩ := ha hk
    rw [← a1, iI_cn (by omega), e16, et, Bool.true_and]
    have ebv : bq b a = iI ((b a).val : Int) := rfl
    rw [ebv]
    by_cases hv : (b a).val = 1 + 6 * sd
    · obtain ⟨K1, r1, r2⟩ := m_isMove h a2 l2 (show 0 < 6 by omega) q K
      have r1' : fn_M_isMove (iI (sd : Int)) (iI (r : Int)) (iI ((pp : Int) - 1)) q (bq b) K.1 K.2.1 K.2.2.1 K.2.2.2.1 K.2.2.2.2 (iI (a : Int)) (iI (ptg sd pp : Int)) 0 = _ := r1
      rw [hgs hk hv, Bool.true_and] at r1'
      refine ⟨K1, ?_, r2⟩
      rw [hv, beq_self_eq_true, Bool.true_and]
      refine hd_b eo' (hd_T rfl (hd_ck (iI_in (by omega) (by omega) (by omega)) (hd_T rfl (hd_b r1' ?_))))
      cases sf b sd k a (ptg sd pp) 0 with
      | false =>
        refine hd_T rfl ?_
        exact e118 K1
      | true =>
        refine hd_F gzT ?_
        rw [bk_M_passing_119, if_neg (by decide), bk_M_passing_135, if_pos rfl]
        show k4 _ _ _ _ _ _ _ _ _ _ (iI (x : Int) + 1 + iI (d : Int)) (iI (d : Int) + 1) = _
        rw [iI_s1, iI_s1, iI_add]
        congr 2
        omega
    · refine ⟨K, ?_, kag_r _ _⟩
      rw [beq_eq_false_iff_ne.mpr hv, Bool.false_and]
      refine hd_b eo' (hd_T rfl (hd_ck (iI_in (by omega) (by omega) (by omega)) (hd_F ?_ ?_)))
      · rw [iI_eq (by omega) (by omega) (by omega) (by omega)]; omega
      · exact e118 K
theorem m_passing {P : Ps} (h : pvp P) (q : Int32) (K : KT) :
    ∃ K' : KT, fn_M_passing (iI (P.2.1 : Int)) (iI (P.2.2.1 : Int)) (iI ((P.2.2.2.1 : Int) - 1)) q (bq P.1) K.1 K.2.1 K.2.2.1 K.2.2.2.1 K.2.2.2.2 = some (iI (pn2 P : Int), iI (P.2.1 : Int), iI (P.2.2.1 : Int), iI ((P.2.2.2.1 : Int) - 1), q, bq P.1, K'.1, K'.2.1, K'.2.2.1, K'.2.2.2.1, K'.2.2.2.2) ∧ kag 3 K K' := by
  obtain ⟨b, sd, r, pp, k⟩ := P
  have h : pv b sd r pp k := h
  show ∃ K' : KT, fn_M_passing (iI (sd : Int)) (iI (r : Int)) (iI ((pp : Int) - 1)) q (bq b) K.1 K.2.1 K.2.2.1 K.2.2.2.1 K.2.2.2.2 = some (iI (pn2 (b, sd, r, pp, k) : Int), iI (sd : Int), iI (r : Int), iI ((pp : Int) - 1), q, bq b, K'.1, K'.2.1, K'.2.2.1, K'.2.2.2.1, K'.2.2.2.2) ∧ kag 3 K K'
  have hsd := h.1.1
  have hpp := h.1.2.2
  rw [fn_M_passing, show qq_FU = 997 + 1 + 1 + 1 from rfl]
  rcases Nat.lt_or_ge pp 1 with h1 | h1
  · have e0 : pp = 0 := by omega
    subst e0
    refine ⟨K, ?_, kag_r _ _⟩
    rw [lo_M_passing_4_s]
    exact hd_F (by decide) (hd_T (by decide) rfl)
  obtain ⟨l1, l2, l3, l4, l5⟩ := pbs_lt hsd hpp h1
  obtain ⟨K1, r1, r2⟩ := m_pass_r h h1 q K (f := (pp : Int) - 2) (a := pbs sd pp - 1) (d := 0) (by omega) (by omega) 0 (decide (2 ≤ pp)) (by rw [decide_eq_true_eq]; omega) (fun z => by rw [decide_eq_true_eq] at z; omega) (fun z hv => ps_gs h h1 (Or.inl ⟨by rw [decide_eq_true_eq] at z; omega, rfl⟩) hv) (lo_M_passing_4 (997 + 1 + 1))
  obtain ⟨K2, s1, s2⟩ := m_pass_r h h1 q K1 (f := (pp : Int)) (a := pbs sd pp + 1) (d := 1) (by omega) (by omega) (0 + (if (decide (2 ≤ pp) && ((b (pbs sd pp - 1)).val == 1 + 6 * sd && sf b sd k (pbs sd pp - 1) (ptg sd pp) 0)) = true then 1 + 0 else 0)) (decide (1 ≤ pp ∧ pp < 8)) (by rw [decide_eq_true_eq]; omega) (fun z => by rw [decide_eq_true_eq] at z; omega) (fun z hv => ps_gs h h1 (Or.inr ⟨by rw [decide_eq_true_eq] at z; omega, rfl⟩) hv) (lo_M_passing_4 (997 + 1))
  have m0 : ¬ iI ((pp : Int) - 1) < 0 := by show ¬ iI _ < iI 0; rw [iI_lt (by omega) (by omega) (by omega) (by omega)]; omega
  have em : iI ((pp : Int) - 1) - 1 = iI ((pp : Int) - 2) := by
    show iI _ - iI 1 = _
    rw [iI_sub]; congr 1; omega
  have ep : iI ((pp : Int) - 1) + 1 = iI (pp : Int) := by
    show iI _ + iI 1 = _
    rw [iI_add]; congr 1; omega
  have elw : lwb (b, sd, r, pp, k) = (decide (2 ≤ pp) && ((b (pbs sd pp - 1)).val == 1 + 6 * sd && sf b sd k (pbs sd pp - 1) (ptg sd pp) 0)) := rfl
  have ehi : hib (b, sd, r, pp, k) = (decide (1 ≤ pp ∧ pp < 8) && ((b (pbs sd pp + 1)).val == 1 + 6 * sd && sf b sd k (pbs sd pp + 1) (ptg sd pp) 0)) := rfl
  rw [← elw] at r1 s1
  rw [← ehi] at s1
  refine ⟨K2, ?_, kag_t r2 s2⟩
  rw [lo_M_passing_4_s]
  refine hd_F (by decide) (hd_F m0 (hd_T rfl ?_))
  rw [em]
  refine Eq.trans r1 ?_
  rw [lo_M_passing_4_s]
  refine hd_F (by decide) (hd_F m0 (hd_F (by decide) ?_))
  rw [ep]
  refine Eq.trans s1 ?_
  rw [lo_M_passing_4_s]
  refine hd_T (by decide) ?_
  rw [bk_M_passing_142]
  have e5 : pn2 (b, sd, r, pp, k) = if (lwb (b, sd, r, pp, k) || hib (b, sd, r, pp, k)) = true then 4 * pp + bn (lwb (b, sd, r, pp, k)) + 2 * bn (hib (b, sd, r, pp, k)) else 0 := rfl
  rw [e5]
  have e4 : ∀ y : Nat, (4 : Int32) * (iI ((pp : Int) - 1) + 1) + iI (y : Int) = iI ((4 * pp + y : Nat) : Int) := by
    intro y
    rw [ep]
    show iI 4 * iI _ + iI _ = _
    rw [iI_mul, iI_add]; congr 1
  cases lwb (b, sd, r, pp, k) <;> cases hib (b, sd, r, pp, k)
  · exact hd_T rfl rfl
  · refine hd_F (by decide) ?_
    rw [bk_M_passing_160, e4]
    rfl
  · refine hd_F (by decide) ?_
    rw [bk_M_passing_160, e4]
    rfl
  · refine hd_F (by decide) ?_
    rw [bk_M_passing_160, e4]
    rfl
