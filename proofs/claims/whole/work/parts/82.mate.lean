/-! the law: mate -/
def mtv (P : Ps) (z : Nat) : Nat := if (decide (1 ≤ z) && m1 P) = true then 1 else if (decide (2 ≤ z) && m2 P) = true then 2 else 0
theorem b_mate {P : Ps} (h : pvp P) {z : Nat} (hz : z ≤ 2) (rn0 : Int32) (rc0 : Nat → Int32) (rn1 : Int32) (rc1 : Nat → Int32) (rn2 : Int32) (rc2 : Nat → Int32) (rn3 : Int32) (rc3 : Nat → Int32) : ∃ (x0 : Int32) (y0 : Nat → Int32) (x1 : Int32) (y1 : Nat → Int32) (x2 : Int32) (y2 : Nat → Int32) (x3 : Int32) (y3 : Nat → Int32), fn_B_mate 1 (iI (P.2.1 : Int)) (iI (P.2.2.1 : Int)) (iI ((P.2.2.2.1 : Int) - 1)) (bq P.1) (kq P.2.2.2.2) rn0 rc0 rn1 rc1 rn2 rc2 rn3 rc3 (iI (z : Int)) = some (0, iI (mtv P z : Int), iI (P.2.1 : Int), iI (P.2.2.1 : Int), iI ((P.2.2.2.1 : Int) - 1), bq P.1, kq P.2.2.2.2, x0, y0, x1, y1, x2, y2, x3, y3) := by
  have hF : ¬ iI (z : Int) < 0 := by show ¬ iI _ < iI 0; rw [iI_lt (by omega) (by omega) (by omega) (by omega)]; omega
  have hT : iI (z : Int) ≤ 2 := by show iI _ ≤ iI 2; rw [iI_le (by omega) (by omega) (by omega) (by omega)]; omega
  have go : ∃ (x0 : Int32) (y0 : Nat → Int32) (x1 : Int32) (y1 : Nat → Int32) (x2 : Int32) (y2 : Nat → Int32) (x3 : Int32) (y3 : Nat → Int32), lo_B_mate_25 1 (iI (z : Int)) qq_FU (iI (P.2.1 : Int)) (iI (P.2.2.1 : Int)) (iI ((P.2.2.2.1 : Int) - 1)) (bq P.1) (kq P.2.2.2.2) rn0 rc0 rn1 rc1 rn2 rc2 rn3 rc3 1 = some (0, iI (mtv P z : Int), iI (P.2.1 : Int), iI (P.2.2.1 : Int), iI ((P.2.2.2.1 : Int) - 1), bq P.1, kq P.2.2.2.2, x0, y0, x1, y1, x2, y2, x3, y3) := by
    rw [show qq_FU = 997 + 1 + 1 + 1 from rfl, lo_B_mate_25_s]
    by_cases h1 : z < 1
    · have e : mtv P z = 0 := by rw [mtv, decide_eq_false (by omega), decide_eq_false (by omega)]; rfl
      rw [e]
      exact ⟨_, _, _, _, _, _, _, _, hd_T (by show iI _ < iI 1; rw [iI_lt (by omega) (by omega) (by omega) (by omega)]; omega) rfl⟩
    · obtain ⟨a0, b0, a1, b1, a2, b2, a3, b3, f1⟩ := s_force0 h 1 (by omega) (by omega) rn0 rc0 rn1 rc1 rn2 rc2 rn3 rc3
      have g1 : ¬ iI (z : Int) < 1 := by show ¬ iI _ < iI 1; rw [iI_lt (by omega) (by omega) (by omega) (by omega)]; omega
      have f1' : fn_S_forcesMate_0 rn0 rc0 rn1 rc1 rn2 rc2 rn3 rc3 (iI (P.2.1 : Int)) (iI (P.2.2.1 : Int)) (iI ((P.2.2.2.1 : Int) - 1)) (bq P.1) (kq P.2.2.2.2) 1 = some (ge_z (m1 P), a0, b0, a1, b1, a2, b2, a3, b3, iI (P.2.1 : Int), iI (P.2.2.1 : Int), iI ((P.2.2.2.1 : Int) - 1), bq P.1, kq P.2.2.2.2) := f1
      rw [mtv, decide_eq_true (show 1 ≤ z by omega), Bool.true_and]
      cases hm1 : m1 P with
      | true =>
        rw [hm1] at f1'
        exact ⟨_, _, _, _, _, _, _, _, hd_F g1 (hd_b f1' (hd_F gzT rfl))⟩
      | false =>
        rw [hm1] at f1'
        by_cases h2 : z < 2
        · refine ⟨a0, b0, a1, b1, a2, b2, a3, b3, hd_F g1 (hd_b f1' (hd_T rfl ?_))⟩
          rw [decide_eq_false (show ¬ 2 ≤ z by omega)]
          show lo_B_mate_25 _ _ (997 + 1 + 1) _ _ _ _ _ _ _ _ _ _ _ _ _ 2 = _
          rw [lo_B_mate_25_s]
          exact hd_T (by show iI _ < iI 2; rw [iI_lt (by omega) (by omega) (by omega) (by omega)]; omega) rfl
        · obtain ⟨c0, d0, c1, d1, c2, d2, c3, d3, f2⟩ := s_force0 h 2 (by omega) (by omega) a0 b0 a1 b1 a2 b2 a3 b3
          have g2 : ¬ iI (z : Int) < 2 := by show ¬ iI _ < iI 2; rw [iI_lt (by omega) (by omega) (by omega) (by omega)]; omega
          have em : fmz 2 P = m2 P := by rw [fmz, if_neg (by decide), hm1, Bool.false_or]
          rw [em] at f2
          have f2' : fn_S_forcesMate_0 a0 b0 a1 b1 a2 b2 a3 b3 (iI (P.2.1 : Int)) (iI (P.2.2.1 : Int)) (iI ((P.2.2.2.1 : Int) - 1)) (bq P.1) (kq P.2.2.2.2) 2 = some (ge_z (m2 P), c0, d0, c1, d1, c2, d2, c3, d3, iI (P.2.1 : Int), iI (P.2.2.1 : Int), iI ((P.2.2.2.1 : Int) - 1), bq P.1, kq P.2.2.2.2) := f2
          refine ⟨c0, d0, c1, d1, c2, d2, c3, d3, hd_F g1 (hd_b f1' (hd_T rfl ?_))⟩
          rw [decide_eq_true (show 2 ≤ z by omega), Bool.true_and, if_neg (by decide)]
          show lo_B_mate_25 _ _ (997 + 1 + 1) _ _ _ _ _ _ _ _ _ _ _ _ _ 2 = _
          rw [lo_B_mate_25_s]
          refine hd_F g2 (hd_b f2' ?_)
          cases m2 P with
          | true => exact hd_F gzT rfl
          | false =>
            refine hd_T rfl ?_
            show lo_B_mate_25 _ _ (997 + 1) _ _ _ _ _ _ _ _ _ _ _ _ _ 3 = _
            rw [lo_B_mate_25_s]
            exact hd_T (by show iI _ < iI 3; rw [iI_lt (by omega) (by omega) (by omega) (by omega)]; omega) rfl
  obtain ⟨x0, y0, x1, y1, x2, y2, x3, y3, e⟩ := go
  exact ⟨x0, y0, x1, y1, x2, y2, x3, y3, hd_b b_rw1 (hd_T rfl (hd_F hF (hd_T hT e)))⟩
theorem m_mate {P : Ps} (h : pvp P) {z : Nat} (hz : z ≤ 2) (q mth : Int32) (K : KT) (li : Nat → Int32) : ∃ (K' : KT) (li' : Nat → Int32), fn_M_mate mth 1 (iI (P.2.1 : Int)) (iI (P.2.2.1 : Int)) (iI ((P.2.2.2.1 : Int) - 1)) q (bq P.1) K.1 K.2.1 K.2.2.1 K.2.2.2.1 K.2.2.2.2 li (iI (z : Int)) = some (iI (mtv P z : Int), 0, iI (P.2.1 : Int), iI (P.2.2.1 : Int), iI ((P.2.2.2.1 : Int) - 1), q, bq P.1, K'.1, K'.2.1, K'.2.2.1, K'.2.2.2.1, K'.2.2.2.2, li') := by
  have eo : fn_M_outside (iI (z : Int)) 0 2 = some (ge_z (!(decide (0 ≤ (z : Int)) && decide ((z : Int) ≤ 2)))) := @m_outside (z : Int) 0 2 (by omega) (by omega) (by omega) (by omega) (by omega) (by omega)
  rw [decide_eq_true (by omega), decide_eq_true (by omega)] at eo
  have g50 : ∀ (K1 : KT) (li1 : Nat → Int32), (decide (1 ≤ z) && m1 P) = false → ∃ (K' : KT) (li' : Nat → Int32), bk_M_mate_50 1 (iI (z : Int)) 0 (iI (P.2.1 : Int)) (iI (P.2.2.1 : Int)) (iI ((P.2.2.2.1 : Int) - 1)) q (bq P.1) K1.1 K1.2.1 K1.2.2.1 K1.2.2.2.1 K1.2.2.2.2 li1 = some (iI (mtv P z : Int), 0, iI (P.2.1 : Int), iI (P.2.2.1 : Int), iI ((P.2.2.2.1 : Int) - 1), q, bq P.1, K'.1, K'.2.1, K'.2.2.1, K'.2.2.2.1, K'.2.2.2.2, li') := by
    intro K1 li1 hf
    rw [mtv, hf, if_neg (by decide), bk_M_mate_50]
    by_cases h2 : z ≤ 1
    · rw [decide_eq_false (show ¬ 2 ≤ z by omega)]
      exact ⟨K1, li1, hd_T (by show iI _ ≤ iI 1; rw [iI_le (by omega) (by omega) (by omega) (by omega)]; omega) rfl⟩
    · obtain ⟨K2, li2, e2⟩ := m_inTwo h q K1 li1
      rw [decide_eq_true (show 2 ≤ z by omega), Bool.true_and]
      have g : ¬ iI (z : Int) ≤ 1 := by show ¬ iI _ ≤ iI 1; rw [iI_le (by omega) (by omega) (by omega) (by omega)]; omega
      refine ⟨K2, li2, hd_F g (hd_b e2 ?_)⟩
      cases m2 P with
      | true => exact hd_F gzT rfl
      | false => exact hd_T rfl rfl
  have g26 : ∃ (K' : KT) (li' : Nat → Int32), bk_M_mate_26 1 (iI (z : Int)) mth (iI (P.2.1 : Int)) (iI (P.2.2.1 : Int)) (iI ((P.2.2.2.1 : Int) - 1)) q (bq P.1) K.1 K.2.1 K.2.2.1 K.2.2.2.1 K.2.2.2.2 li 0 = some (iI (mtv P z : Int), 0, iI (P.2.1 : Int), iI (P.2.2.1 : Int), iI ((P.2.2.2.1 : Int) - 1), q, bq P.1, K'.1, K'.2.1, K'.2.2.1, K'.2.2.2.1, K'.2.2.2.2, li') := by
    rw [bk_M_mate_26]
    by_cases h1 : z ≤ 0
    · obtain ⟨K', li', e⟩ := g50 K li (by rw [decide_eq_false (by omega)]; rfl)
      exact ⟨K', li', hd_b (m_ref0 mth) (hd_T rfl (hd_T (by show iI _ ≤ iI 0; rw [iI_le (by omega) (by omega) (by omega) (by omega)]; omega) e))⟩
    · have g : ¬ iI (z : Int) ≤ 0 := by show ¬ iI _ ≤ iI 0; rw [iI_le (by omega) (by omega) (by omega) (by omega)]; omega
      obtain ⟨K1, li1, o1, -, -⟩ := m_once h (show 0 < 3 by omega) q K li
      have o1' : fn_M_matesAtOnce (iI (P.2.1 : Int)) (iI (P.2.2.1 : Int)) (iI ((P.2.2.2.1 : Int) - 1)) q (bq P.1) K.1 K.2.1 K.2.2.1 K.2.2.2.1 K.2.2.2.2 li 0 = _ := o1
      cases hm : m1 P with
      | true =>
        rw [hm] at o1'
        refine ⟨K1, li1, hd_b (m_ref0 mth) (hd_T rfl (hd_F g (hd_b o1' (hd_F gzT ?_))))⟩
        rw [mtv, decide_eq_true (show 1 ≤ z by omega), hm]
        rfl
      | false =>
        rw [hm] at o1'
        obtain ⟨K', li', e⟩ := g50 K1 li1 (by rw [hm, Bool.and_false])
        exact ⟨K', li', hd_b (m_ref0 mth) (hd_T rfl (hd_F g (hd_b o1' (hd_T rfl e))))⟩
  obtain ⟨K', li', e⟩ := g26
  exact ⟨K', li', hd_F ne10 (hd_b eo (hd_T rfl e))⟩
theorem la_842 {L : Nat} {xs : Nat → Int32} {k23 : LK} {i : Nat} (hi : i + 4 ≤ L) (hL : L ≤ 2048) (hk : hkk k23 (iI ((i + 4 : Nat) : Int))) {pl : Int32} {sd : Int32} {rt : Int32} {ps : Int32} {sq : Nat → Int32} {kg : Nat → Int32} {md : Int32} {bo : Nat → Int64} {ma : Nat → Int32} {qt : Nat → Int32} {yc : Nat → Int32} {yb : Nat → Int32} {rn : Int32} {rc : Nat → Int32} {rn0 : Int32} {rc0 : Nat → Int32} {rn1 : Int32} {rc1 : Nat → Int32} {rn2 : Int32} {rc2 : Nat → Int32} {rn3 : Int32} {rc3 : Nat → Int32} {mth : Int32} {mpl : Int32} {msd : Int32} {mrt : Int32} {mps : Int32} {mqt : Int32} {mmd : Int32} {bd : Nat → Int32} {pa : Nat → Int32} {pS : Nat → Int32} {pR : Nat → Int32} {pG : Nat → Int32} {pP : Nat → Int32} {pQ : Nat → Int32} {kp : Nat → Int32} {kS : Nat → Int32} {kR : Nat → Int32} {kP : Nat → Int32} {kQ : Nat → Int32} {li : Nat → Int32} {ou : Nat → Int64} (h : Rl pl sd rt ps sq kg md bo ma qt yc yb mpl msd mrt mps mqt mmd bd pa pS pR pG pP pQ) : bk_L_law_842 L xs k23 pl sd rt ps sq kg md bo ma qt yc yb rn rc rn0 rc0 rn1 rc1 rn2 rc2 rn3 rc3 mth mpl msd mrt mps mqt mmd bd pa pS pR pG pP pQ kp kS kR kP kQ li ou (iI (i : Int)) = some 1 := by
  rw [bk_L_law_842]
  obtain ⟨x, x1, x2, ex⟩ := i_of (xs (iI (i : Int) + 1).toNatClampNeg)
  rw [ex]
  refine hd_ck (ix1 hi hL) ?_
  rcases h with h | h
  · have h0 := h
    obtain ⟨⟨rfl, rfl, rfl, rfl, rfl⟩, -⟩ := h
    have q1 : fn_L_mate 0 sd rt ps sq kg rn0 rc0 rn1 rc1 rn2 rc2 rn3 rc3 ou (iI x) = some (1, sd, rt, ps, sq, kg, rn0, rc0, rn1, rc1, rn2, rc2, rn3, rc3, ou) := hd_b (show fn_B_mate 0 sd rt ps sq kg rn0 rc0 rn1 rc1 rn2 rc2 rn3 rc3 (iI x) = some (1, 0, sd, rt, ps, sq, kg, rn0, rc0, rn1, rc1, rn2, rc2, rn3, rc3) from hd_b b_rw0 (hd_F ne10 rfl)) (hd_F ne10 (hd_T rfl rfl))
    have q2 : fn_M_mate mth 0 msd 0 (-1) mqt bd kp kS kR kP kQ li (iI x) = some (0, 1, msd, 0, -1, mqt, bd, kp, kS, kR, kP, kQ, li) := hd_T rfl (hd_b (m_ref1 mth) (hd_F ne10 rfl))
    exact hd_b q1 (hd_ck (ix1 hi hL) (hd_b q2 (hd_b rfl (hd_T rfl (hd_F ne10 (la_898 hi hL hk (Or.inl h0)))))))
  · have h0 := h
    obtain ⟨⟨rfl, rfl⟩, n, G, cs, Q, hg, ⟨rfl, rfl, rfl, rfl, rfl, rfl⟩, ⟨rfl, rfl, rfl, rfl, rfl, rfl⟩, -⟩ := h
    have hp := hg.2.1 n (Nat.le_refl _)
    by_cases hin : 0 ≤ x ∧ x ≤ 2
    · have ehx : iI x = iI ((x.toNat : Nat) : Int) := by congr 1; omega
      rw [ehx]
      obtain ⟨u0, v0, u1, v1, u2, v2, u3, v3, p1⟩ := b_mate hp (show x.toNat ≤ 2 by omega) rn0 rc0 rn1 rc1 rn2 rc2 rn3 rc3
      obtain ⟨K', li', p2⟩ := m_mate hp (show x.toNat ≤ 2 by omega) (Q n) mth (kp, kS, kR, kP, kQ) li
      have q1 : fn_L_mate 1 (iI ((G n).2.1 : Int)) (iI ((G n).2.2.1 : Int)) (iI (((G n).2.2.2.1 : Int) - 1)) (bq (G n).1) (kq (G n).2.2.2.2) rn0 rc0 rn1 rc1 rn2 rc2 rn3 rc3 ou (iI ((x.toNat : Nat) : Int)) = some (0, iI ((G n).2.1 : Int), iI ((G n).2.2.1 : Int), iI (((G n).2.2.2.1 : Int) - 1), bq (G n).1, kq (G n).2.2.2.2, u0, v0, u1, v1, u2, v2, u3, v3, vp_updL ou (0 : Int32).toNatClampNeg (iI (mtv (G n) x.toNat : Int)).toInt64) := hd_b p1 (hd_T rfl (hd_ck (by decide) rfl))
      exact hd_b q1 (hd_ck (ix1 hi hL) (hd_b p2 (hd_b rfl (hd_T rfl (hd_T rfl (hd_ck (by decide) (hd_T ((lg_0 _ _).mpr (uL _ _ _)) (la_898 hi hL hk (Or.inr h0)))))))))
    · have p1 : fn_B_mate 1 (iI ((G n).2.1 : Int)) (iI ((G n).2.2.1 : Int)) (iI (((G n).2.2.2.1 : Int) - 1)) (bq (G n).1) (kq (G n).2.2.2.2) rn0 rc0 rn1 rc1 rn2 rc2 rn3 rc3 (iI x) = some (2, 0, iI ((G n).2.1 : Int), iI ((G n).2.2.1 : Int), iI (((G n).2.2.2.1 : Int) - 1), bq (G n).1, kq (G n).2.2.2.2, rn0, rc0, rn1, rc1, rn2, rc2, rn3, rc3) := by
        refine hd_b b_rw1 (hd_T rfl ?_)
        by_cases h2 : x < 0
        · exact hd_T (by show iI _ < iI 0; rw [iI_lt (by omega) (by omega) (by omega) (by omega)]; omega) rfl
        · exact hd_F (by show ¬ iI _ < iI 0; rw [iI_lt (by omega) (by omega) (by omega) (by omega)]; omega) (hd_F (by show ¬ iI _ ≤ iI 2; rw [iI_le (by omega) (by omega) (by omega) (by omega)]; omega) rfl)
      have q1 : fn_L_mate 1 (iI ((G n).2.1 : Int)) (iI ((G n).2.2.1 : Int)) (iI (((G n).2.2.2.1 : Int) - 1)) (bq (G n).1) (kq (G n).2.2.2.2) rn0 rc0 rn1 rc1 rn2 rc2 rn3 rc3 ou (iI x) = some (2, iI ((G n).2.1 : Int), iI ((G n).2.2.1 : Int), iI (((G n).2.2.2.1 : Int) - 1), bq (G n).1, kq (G n).2.2.2.2, rn0, rc0, rn1, rc1, rn2, rc2, rn3, rc3, ou) := hd_b p1 (hd_F ne20 (hd_F ne21 (hd_T rfl rfl)))
      have eo : fn_M_outside (iI x) 0 2 = some (ge_z (!(decide (0 ≤ x) && decide (x ≤ 2)))) := @m_outside x 0 2 (by omega) (by omega) (by omega) (by omega) (by omega) (by omega)
      have ho : (!(decide (0 ≤ x) && decide (x ≤ 2))) = true := by
        simp only [Bool.not_eq_true', Bool.and_eq_false_iff, decide_eq_false_iff_not]; omega
      rw [ho] at eo
      have q2 : fn_M_mate mth 1 (iI ((G n).2.1 : Int)) (iI ((G n).2.2.1 : Int)) (iI (((G n).2.2.2.1 : Int) - 1)) (Q n) (bq (G n).1) kp kS kR kP kQ li (iI x) = some (0, 2, iI ((G n).2.1 : Int), iI ((G n).2.2.1 : Int), iI (((G n).2.2.2.1 : Int) - 1), Q n, bq (G n).1, kp, kS, kR, kP, kQ, li) := hd_F ne10 (hd_b eo (hd_F gzT (hd_b (m_ref2 mth) (hd_F ne10 rfl))))
      exact hd_b q1 (hd_ck (ix1 hi hL) (hd_b q2 (hd_b rfl (hd_T rfl (hd_F ne20 (la_898 hi hL hk (Or.inr h0)))))))
