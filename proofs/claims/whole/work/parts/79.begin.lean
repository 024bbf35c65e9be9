/-! begin -/
def kof (b : Bd) (who : Nat) : Nat := ((List.range' 0 64).filter fun a => (b a).val == 6 + 6 * who).headD 0
theorem kof_ok {b : Bd} {who : Nat} (h : cnk b who = 1) : ok1 b who (kof b who) := by
  obtain ⟨ks, hk⟩ := cnk_ok h
  have h' := h
  rw [cnk] at h'
  obtain ⟨x, hx⟩ := List.length_eq_one_iff.mp h'
  have hm : x ∈ (List.range' 0 64).filter fun a => (b a).val == 6 + 6 * who := by rw [hx]; exact List.mem_singleton.mpr rfl
  rw [List.mem_filter, List.mem_range'_1, beq_iff_eq] at hm
  have e : kof b who = x := by rw [kof, hx]; rfl
  have e2 : x = ks := hk.2.2 x (by omega) hm.2
  rw [e, e2]; exact hk
def gd (b : Bd) (sd r pp : Nat) : Bool := crw b && (!mh b sd (kof b (1 - sd)) && (rfb r b && pfb b sd pp))
theorem crw_ok {b : Bd} (h : crw b = true) {who : Nat} (hw : who < 2) : ok1 b who (kof b who) := by
  apply kof_ok
  rw [crw, fairp, fairp] at h
  simp only [Bool.and_eq_true, decide_eq_true_eq] at h
  rcases (show who = 0 ∨ who = 1 by omega) with rfl | rfl
  · exact h.1.2.1
  · exact h.2.2.1
theorem pv_begin {b : Bd} {sd r pp : Nat} (hsd : sd < 2) (hr : r < 16) (hpp : pp < 9) (h : gd b sd r pp = true) {k : Nat → Nat} (h0 : k 0 = kof b 0) (h1 : k 1 = kof b 1) : pv b sd r pp k := by
  rw [gd] at h
  simp only [Bool.and_eq_true, Bool.not_eq_true'] at h
  obtain ⟨hc, hm, hrr, hp⟩ := h
  have o0 := crw_ok hc (show 0 < 2 by omega)
  have o1 := crw_ok hc (show 1 < 2 by omega)
  rw [crw, fairp, fairp] at hc
  simp only [Bool.and_eq_true, decide_eq_true_eq, List.all_eq_true, List.mem_range'_1, nop, Bool.not_eq_true', Bool.and_eq_false_iff, Bool.or_eq_false_iff, decide_eq_false_iff_not, beq_eq_false_iff_ne, ne_eq] at hc
  refine ⟨⟨hsd, hr, hpp⟩, ⟨by rw [h0]; exact o0, by rw [h1]; exact o1⟩, ?_, ?_, ?_, ?_, ?_⟩
  · intro a ha hk
    rw [kd_pw] at hk
    have q0 := hc.1.1 a (by omega)
    have q1 := hc.2.1 a (by omega)
    omega
  · intro who hw
    rw [rfb] at hrr
    simp only [Bool.and_eq_true, Bool.or_eq_true, Bool.not_eq_true', eqv, beq_iff_eq, rbt] at hrr
    obtain ⟨a0, a1, a2, a3⟩ := hrr
    rcases (show who = 0 ∨ who = 1 by omega) with rfl | rfl
    · refine ⟨fun z => ?_, fun z => ?_⟩
      · rcases a0 with q | q
        · have z : r.testBit 0 = true := z
          rw [q] at z; exact absurd z (by decide)
        · exact q
      · rcases a1 with q | q
        · have z : r.testBit 1 = true := z
          rw [q] at z; exact absurd z (by decide)
        · exact q
    · refine ⟨fun z => ?_, fun z => ?_⟩
      · rcases a2 with q | q
        · have z : r.testBit 2 = true := z
          rw [q] at z; exact absurd z (by decide)
        · exact q
      · rcases a3 with q | q
        · have z : r.testBit 3 = true := z
          rw [q] at z; exact absurd z (by decide)
        · exact q
  · intro hp1
    rw [pfb] at hp
    simp only [Bool.and_eq_true, Bool.or_eq_true, decide_eq_true_eq, eqv, beq_iff_eq] at hp
    rcases hp with q | q
    · omega
    · exact ⟨q.2.1, q.1⟩
  · intro who hw
    rcases (show who = 0 ∨ who = 1 by omega) with rfl | rfl
    · exact hc.1.2.2
    · exact hc.2.2.2
  · have : k (1 - sd) = kof b (1 - sd) := by
      rcases (show sd = 0 ∨ sd = 1 by omega) with rfl | rfl
      · exact h1
      · exact h0
    rw [this]; exact hm
theorem g_allowed {b : Bd} {sd r pp : Nat} (hsd : sd < 2) (hr : r < 16) (hpp : pp < 9) : fn_G_isAllowed (bq b) (iI (sd : Int)) (iI (r : Int)) (iI ((pp : Int) - 1)) = some (ge_z (gd b sd r pp)) := by
  have z0 : bk_G_isAllowed_98 (bq b) (iI (sd : Int)) (iI (r : Int)) (iI ((pp : Int) - 1)) = some (ge_z false) := (show bk_G_isAllowed_99 _ _ _ _ 0 = _ from hd_ck (by decide) rfl)
  have hs : fn_B_isSide (iI (sd : Int)) = some (ge_z true) := by
    rcases (show sd = 0 ∨ sd = 1 by omega) with rfl | rfl
    · decide
    · decide
  have f0 : fn_G_hasFairPieces (bq b) 0 = some (ge_z (fairp b 0)) := g_fair (b := b) (show 0 < 2 by omega)
  have f1 : fn_G_hasFairPieces (bq b) 1 = some (ge_z (fairp b 1)) := g_fair (b := b) (show 1 < 2 by omega)
  rw [fn_G_isAllowed]
  refine hd_b hs (hd_F gzT ?_)
  refine hd_F (by show ¬ iI _ < iI 0; rw [iI_lt (by omega) (by omega) (by omega) (by omega)]; omega) ?_
  refine hd_F (by show ¬ iI 15 < iI _; rw [iI_lt (by omega) (by omega) (by omega) (by omega)]; omega) ?_
  refine hd_F (by show ¬ iI _ < iI (-1); rw [iI_lt (by omega) (by omega) (by omega) (by omega)]; omega) ?_
  refine hd_F (by show ¬ iI 7 < iI _; rw [iI_lt (by omega) (by omega) (by omega) (by omega)]; omega) ?_
  rw [gd]
  refine hd_b f0 ?_
  cases hf0 : fairp b 0 with
  | false =>
    have : crw b = false := by rw [crw, hf0]; rfl
    rw [this]
    exact hd_T rfl z0
  | true =>
    refine hd_F gzT (hd_b f1 ?_)
    cases hf1 : fairp b 1 with
    | false =>
      have : crw b = false := by rw [crw, hf1, Bool.and_false]
      rw [this]
      exact hd_T rfl z0
    | true =>
      have hc : crw b = true := by rw [crw, hf0, hf1]; rfl
      rw [hc, Bool.true_and]
      refine hd_F gzT ?_
      have hk := crw_ok hc (show 1 - sd < 2 by omega)
      have hq := p_squareOf (show 1 - sd < 2 by omega) hk
      have ex : (6 : Int32) + 6 * (1 - iI (sd : Int)) = iI ((6 + 6 * (1 - sd) : Nat) : Int) := by
        rw [i1m hsd]
        show iI 6 + iI 6 * iI _ = _
        rw [iI_mul, iI_add]; congr 1
      have hh := @p_isHitBy b sd (kof b (1 - sd)) hsd hk.1
      have hR := g_rights (b := b) hr
      have hP := g_passed (b := b) hsd hpp
      rw [ex]
      refine hd_b hq (hd_b hh ?_)
      cases mh b sd (kof b (1 - sd)) with
      | true => exact hd_F gzT z0
      | false =>
        refine hd_T rfl (hd_b hR ?_)
        rw [Bool.not_false, Bool.true_and]
        cases rfb r b with
        | false => exact hd_T rfl z0
        | true =>
          refine hd_F gzT (hd_b hP ?_)
          rw [Bool.true_and]
          cases pfb b sd pp with
          | false => exact hd_T rfl z0
          | true => exact hd_F gzT (show bk_G_isAllowed_99 _ _ _ _ 1 = _ from hd_ck (by decide) rfl)
/-- outside the bounds -/
def inb (x y z : Int) : Prop := (0 ≤ x ∧ x ≤ 1) ∧ (0 ≤ y ∧ y ≤ 15) ∧ (-1 ≤ z ∧ z ≤ 7)
def i32 (x : Int) : Prop := -2147483648 ≤ x ∧ x < 2147483648
theorem g_out {b : Bd} {x y z : Int} (hx : i32 x) (hy : i32 y) (hz : i32 z) (h : ¬ inb x y z) : fn_G_isAllowed (bq b) (iI x) (iI y) (iI z) = some (ge_z false) := by
  have z0 : bk_G_isAllowed_98 (bq b) (iI x) (iI y) (iI z) = some (ge_z false) := (show bk_G_isAllowed_99 _ _ _ _ 0 = _ from hd_ck (by decide) rfl)
  rw [i32] at hx hy hz
  rw [inb] at h
  rw [fn_G_isAllowed]
  by_cases h1 : 0 ≤ x ∧ x ≤ 1
  · have hs : fn_B_isSide (iI x) = some (ge_z true) := by
      rcases (show x = 0 ∨ x = 1 by omega) with rfl | rfl
      · decide
      · decide
    refine hd_b hs (hd_F gzT ?_)
    by_cases h2 : y < 0
    · exact hd_T (by show iI _ < iI 0; rw [iI_lt (by omega) (by omega) (by omega) (by omega)]; omega) z0
    · refine hd_F (by show ¬ iI _ < iI 0; rw [iI_lt (by omega) (by omega) (by omega) (by omega)]; omega) ?_
      by_cases h3 : 15 < y
      · exact hd_T (by show iI 15 < iI _; rw [iI_lt (by omega) (by omega) (by omega) (by omega)]; omega) z0
      · refine hd_F (by show ¬ iI 15 < iI _; rw [iI_lt (by omega) (by omega) (by omega) (by omega)]; omega) ?_
        by_cases h4 : z < -1
        · exact hd_T (by show iI _ < iI (-1); rw [iI_lt (by omega) (by omega) (by omega) (by omega)]; omega) z0
        · refine hd_F (by show ¬ iI _ < iI (-1); rw [iI_lt (by omega) (by omega) (by omega) (by omega)]; omega) ?_
          exact hd_T (by show iI 7 < iI _; rw [iI_lt (by omega) (by omega) (by omega) (by omega)]; omega) z0
  · have hs : fn_B_isSide (iI x) = some (ge_z false) := by
      rw [fn_B_isSide]
      refine hd_F (by show ¬ iI _ = iI 0; rw [iI_eq (by omega) (by omega) (by omega) (by omega)]; omega) ?_
      refine hd_F (by show ¬ iI _ = iI 1; rw [iI_eq (by omega) (by omega) (by omega) (by omega)]; omega) ?_
      exact hd_ck (by decide) rfl
    exact hd_b hs (hd_T rfl z0)
theorem m_ref0 (mth : Int32) : fn_M_refused mth 0 = some (0, 0) := by rw [fn_M_refused]; rfl
theorem m_ref1 (mth : Int32) : fn_M_refused mth 1 = some (1, 1) := by rw [fn_M_refused]; rfl
theorem m_ref2 (mth : Int32) : fn_M_refused mth 2 = some (1, 2) := by rw [fn_M_refused]; rfl
theorem m_b79 (a1 a2 a3 mth mpl msd mrt mps mqt mmd : Int32) (bd pa pS pR pG pP pQ kp kS kR kP kQ li : Nat → Int32) : bk_M_begin_79 a1 a2 a3 mth mpl msd mrt mps mqt mmd bd pa pS pR pG pP pQ kp kS kR kP kQ li = bk_M_begin_80 a1 a2 a3 mth mpl msd mrt mps mqt mmd bd pa pS pR pG pP pQ kp kS kR kP kQ li (ge_z false) := by
  rw [bk_M_begin_79, show ge_z false = 0 from rfl]
theorem m_b33 (a1 a2 a3 mth mpl msd mrt mps mqt mmd : Int32) (bd pa pS pR pG pP pQ kp kS kR kP kQ li : Nat → Int32) : bk_M_begin_33 a1 a2 a3 mth mpl msd mrt mps mqt mmd bd pa pS pR pG pP pQ kp kS kR kP kQ li = bk_M_begin_80 a1 a2 a3 mth mpl msd mrt mps mqt mmd bd pa pS pR pG pP pQ kp kS kR kP kQ li (ge_z false) := by
  rw [bk_M_begin_33, bk_M_begin_34, if_pos rfl, m_b79]
theorem m_b80 (a1 a2 a3 mth mpl msd mrt mps mqt mmd : Int32) (bd pa pS pR pG pP pQ kp kS kR kP kQ li : Nat → Int32) : bk_M_begin_80 a1 a2 a3 mth mpl msd mrt mps mqt mmd bd pa pS pR pG pP pQ kp kS kR kP kQ li 1 = bk_M_begin_80 a1 a2 a3 mth mpl msd mrt mps mqt mmd bd pa pS pR pG pP pQ kp kS kR kP kQ li (ge_z true) := by
  rw [show ge_z true = 1 from rfl]
theorem m_beg_in {b : Bd} {sd r pp : Nat} (hsd : sd < 2) (hr : r < 16) (hpp : pp < 9) (mth mpl msd mrt mps mqt mmd : Int32) (pa pS pR pG pP pQ : Nat → Int32) (K : KT) (li : Nat → Int32) :
    fn_M_begin mth mpl msd mrt mps mqt mmd (bq b) pa pS pR pG pP pQ K.1 K.2.1 K.2.2.1 K.2.2.2.1 K.2.2.2.2 li (iI (sd : Int)) (iI (r : Int)) (iI ((pp : Int) - 1)) = bk_M_begin_80 (iI (sd : Int)) (iI (r : Int)) (iI ((pp : Int) - 1)) mth mpl msd mrt mps mqt mmd (bq b) pa pS pR pG pP pQ K.1 K.2.1 K.2.2.1 K.2.2.2.1 K.2.2.2.2 li (ge_z (gd b sd r pp)) := by
  have o1 : fn_M_outside (iI (sd : Int)) 0 1 = some (ge_z (!(decide (0 ≤ (sd : Int)) && decide ((sd : Int) ≤ 1)))) := @m_outside (sd : Int) 0 1 (by omega) (by omega) (by omega) (by omega) (by omega) (by omega)
  have o2 : fn_M_outside (iI (r : Int)) 0 15 = some (ge_z (!(decide (0 ≤ (r : Int)) && decide ((r : Int) ≤ 15)))) := @m_outside (r : Int) 0 15 (by omega) (by omega) (by omega) (by omega) (by omega) (by omega)
  have o3 : fn_M_outside (iI ((pp : Int) - 1)) (-1) 7 = some (ge_z (!(decide (-1 ≤ (pp : Int) - 1) && decide ((pp : Int) - 1 ≤ 7)))) := by rw [iI_m1, show (7 : Int32) = iI 7 from rfl]; exact @m_outside ((pp : Int) - 1) (-1) 7 (by omega) (by omega) (by omega) (by omega) (by omega) (by omega)
  rw [decide_eq_true (by omega), decide_eq_true (by omega)] at o1 o2 o3
  rw [fn_M_begin]
  refine hd_b o1 (hd_T rfl (hd_b o2 (hd_T rfl (hd_b o3 (hd_T rfl ?_)))))
  rw [bk_M_begin_34]
  refine hd_F (by decide) ?_
  have hc := m_crowd b
  refine hd_b hc ?_
  rw [gd]
  cases hcr : crw b with
  | false =>
    rw [Bool.false_and]
    exact hd_T rfl (m_b79 ..)
  | true =>
    refine hd_F gzT ?_
    have hk := crw_ok hcr (show 1 - sd < 2 by omega)
    have hi := m_isChecked (show 1 - sd < 2 by omega) hk
    rw [i1m hsd]
    refine hd_b hi ?_
    rw [show 1 - (1 - sd) = sd by omega, Bool.true_and]
    cases mh b sd (kof b (1 - sd)) with
    | true =>
      rw [Bool.not_true, Bool.false_and]
      exact hd_F gzT (m_b79 ..)
    | false =>
      refine hd_T rfl (hd_b (m_rights (b := b) hr) ?_)
      rw [Bool.not_false, Bool.true_and]
      cases rfb r b with
      | false =>
        rw [Bool.false_and]
        exact hd_T rfl (m_b79 ..)
      | true =>
        refine hd_F gzT (hd_b (m_passed (b := b) hsd hpp) ?_)
        rw [Bool.true_and]
        cases pfb b sd pp with
        | false => exact hd_T rfl (m_b79 ..)
        | true => exact hd_F gzT (m_b80 ..)
theorem m_beg_out {b : Bd} {x y z : Int} (hx : i32 x) (hy : i32 y) (hz : i32 z) (h : ¬ inb x y z) (mth mpl msd mrt mps mqt mmd : Int32) (pa pS pR pG pP pQ : Nat → Int32) (K : KT) (li : Nat → Int32) :
    fn_M_begin mth mpl msd mrt mps mqt mmd (bq b) pa pS pR pG pP pQ K.1 K.2.1 K.2.2.1 K.2.2.2.1 K.2.2.2.2 li (iI x) (iI y) (iI z) = bk_M_begin_80 (iI x) (iI y) (iI z) mth mpl msd mrt mps mqt mmd (bq b) pa pS pR pG pP pQ K.1 K.2.1 K.2.2.1 K.2.2.2.1 K.2.2.2.2 li (ge_z false) := by
  rw [i32] at hx hy hz
  rw [inb] at h
  have o1 : fn_M_outside (iI x) 0 1 = some (ge_z (!(decide (0 ≤ x) && decide (x ≤ 1)))) := @m_outside x 0 1 (by omega) (by omega) (by omega) (by omega) (by omega) (by omega)
  have o2 : fn_M_outside (iI y) 0 15 = some (ge_z (!(decide (0 ≤ y) && decide (y ≤ 15)))) := @m_outside y 0 15 (by omega) (by omega) (by omega) (by omega) (by omega) (by omega)
  have o3 : fn_M_outside (iI z) (-1) 7 = some (ge_z (!(decide (-1 ≤ z) && decide (z ≤ 7)))) := by rw [iI_m1, show (7 : Int32) = iI 7 from rfl]; exact @m_outside z (-1) 7 (by omega) (by omega) (by omega) (by omega) (by omega) (by omega)
  rw [fn_M_begin]
  refine hd_b o1 ?_
  by_cases h1 : 0 ≤ x ∧ x ≤ 1
  · rw [decide_eq_true h1.1, decide_eq_true h1.2]
    refine hd_T rfl (hd_b o2 ?_)
    by_cases h2 : 0 ≤ y ∧ y ≤ 15
    · rw [decide_eq_true h2.1, decide_eq_true h2.2]
      refine hd_T rfl (hd_b o3 ?_)
      have : (!(decide (-1 ≤ z) && decide (z ≤ 7))) = true := by
        simp only [Bool.not_eq_true', Bool.and_eq_false_iff, decide_eq_false_iff_not]; omega
      rw [this]
      exact hd_F gzT (m_b33 ..)
    · have : (!(decide (0 ≤ y) && decide (y ≤ 15))) = true := by
        simp only [Bool.not_eq_true', Bool.and_eq_false_iff, decide_eq_false_iff_not]; omega
      rw [this]
      exact hd_F gzT (m_b33 ..)
  · have : (!(decide (0 ≤ x) && decide (x ≤ 1))) = true := by
      simp only [Bool.not_eq_true', Bool.and_eq_false_iff, decide_eq_false_iff_not]; omega
    rw [this]
    exact hd_F gzT (m_b33 ..)
/-- the game that begins: one position -/
def kst (b : Bd) (k : Nat → Nat) : Nat → Nat := fun j => if j = 1 then kof b 1 else if j = 0 then kof b 0 else k j
theorem b_start {b : Bd} {sd r pp : Nat} {k : Nat → Nat} (h : pvp (b, sd, r, pp, kst b k)) (hc : crw b = true) (pl sd0 rt0 ps0 md : Int32) (bo : Nat → Int64) (ma qt : Nat → Int32) :
    ∃ bo', fn_B_startPlay pl sd0 rt0 ps0 (bq b) (kq k) md bo ma qt (iI (sd : Int)) (iI (r : Int)) (iI ((pp : Int) - 1)) = some (1, iI (sd : Int), iI (r : Int), iI ((pp : Int) - 1), bq b, kq (kst b k), iI 0, bo', upd ma 0 (iI (mkp (b, sd, r, pp, kst b k) : Int)), upd qt 0 0) ∧ (∀ i, i < 4 → bo' i = lN (wv b 16 (16 * i) 0)) := by
  have q0 := p_squareOf (show 0 < 2 by omega) (crw_ok hc (show 0 < 2 by omega))
  have q1 := p_squareOf (show 1 < 2 by omega) (crw_ok hc (show 1 < 2 by omega))
  have pm := p_passingMoves h
  obtain ⟨bo', n1, n2, n3⟩ := h_note h (show 0 ≤ 150 by omega) bo ma
  refine ⟨bo', ?_, fun i hi => by have := n2 i hi; rw [Nat.mul_zero, Nat.zero_add] at this; exact this⟩
  rw [fn_B_startPlay]
  refine hd_b (show fn_P_squareOf (bq b) 6 = _ from q0) (hd_ck (by decide) (hd_b (show fn_P_squareOf (bq b) 12 = _ from q1) (hd_ck (by decide) ?_)))
  have ek : upd (upd (kq k) (0 : Int32).toNatClampNeg (iI (kof b 0 : Int))) (1 : Int32).toNatClampNeg (iI (kof b 1 : Int)) = kq (kst b k) := by
    rw [show (0 : Int32).toNatClampNeg = 0 from rfl, show (1 : Int32).toNatClampNeg = 1 from rfl, kq_up, kq_up]
    rfl
  simp only [qq_let]
  rw [ek]
  exact hd_b (show fn_H_start md qt = some (iI 0, upd qt 0 0) from hd_ck (by decide) rfl) (hd_b pm (hd_b n1 rfl))
