/-! the law: begin -/
theorem la_203 {L : Nat} {xs : Nat → Int32} {k23 : LK} {i : Nat} (hi : i + 4 ≤ L) (hL : L ≤ 2048) (hk : hkk k23 (iI ((i + 4 : Nat) : Int))) {pl : Int32} {sd : Int32} {rt : Int32} {ps : Int32} {sq : Nat → Int32} {kg : Nat → Int32} {md : Int32} {bo : Nat → Int64} {ma : Nat → Int32} {qt : Nat → Int32} {yc : Nat → Int32} {yb : Nat → Int32} {rn : Int32} {rc : Nat → Int32} {rn0 : Int32} {rc0 : Nat → Int32} {rn1 : Int32} {rc1 : Nat → Int32} {rn2 : Int32} {rc2 : Nat → Int32} {rn3 : Int32} {rc3 : Nat → Int32} {mth : Int32} {mpl : Int32} {msd : Int32} {mrt : Int32} {mps : Int32} {mqt : Int32} {mmd : Int32} {bd : Nat → Int32} {pa : Nat → Int32} {pS : Nat → Int32} {pR : Nat → Int32} {pG : Nat → Int32} {pP : Nat → Int32} {pQ : Nat → Int32} {kp : Nat → Int32} {kS : Nat → Int32} {kR : Nat → Int32} {kP : Nat → Int32} {kQ : Nat → Int32} {li : Nat → Int32} {ou : Nat → Int64} (h : Rl pl sd rt ps sq kg md bo ma qt yc yb mpl msd mrt mps mqt mmd bd pa pS pR pG pP pQ) : bk_L_law_203 L xs k23 pl sd rt ps sq kg md bo ma qt yc yb rn rc rn0 rc0 rn1 rc1 rn2 rc2 rn3 rc3 mth mpl msd mrt mps mqt mmd bd pa pS pR pG pP pQ kp kS kR kP kQ li ou (iI (i : Int)) = some 1 := by
  rw [bk_L_law_203]
  obtain ⟨x, x1, x2, ex⟩ := i_of (xs (iI (i : Int) + 1).toNatClampNeg)
  obtain ⟨y, y1, y2, ey⟩ := i_of (xs (iI (i : Int) + 2).toNatClampNeg)
  obtain ⟨z, z1, z2, ez⟩ := i_of (xs (iI (i : Int) + 3).toNatClampNeg)
  have hx : i32 x := ⟨x1, x2⟩
  have hy : i32 y := ⟨y1, y2⟩
  have hz : i32 z := ⟨z1, z2⟩
  rw [ex, ey, ez]
  refine hd_ck (ix1 hi hL) (hd_ck (ix2 hi hL) (hd_ck (ix3 hi hL) ?_))
  rcases h with h | h
  · have h0 := h
    obtain ⟨⟨rfl, rfl, rfl, rfl, rfl⟩, b, k, rfl, rfl, rfl⟩ := h
    have bad : fn_G_isAllowed (bq b) (iI x) (iI y) (iI z) = some (ge_z false) → fn_M_begin mth 0 msd 0 (-1) mqt 0 (bq b) pa pS pR pG pP pQ kp kS kR kP kQ li (iI x) (iI y) (iI z) = bk_M_begin_80 (iI x) (iI y) (iI z) mth 0 msd 0 (-1) mqt 0 (bq b) pa pS pR pG pP pQ kp kS kR kP kQ li (ge_z false) → fn_L_begin 0 sd rt ps (bq b) (kq k) md bo ma qt rn rc ou (iI x) (iI y) (iI z) = some (2, 0, sd, rt, ps, bq b, kq k, md, bo, ma, qt, rn, rc, ou) ∧ fn_M_begin mth 0 msd 0 (-1) mqt 0 (bq b) pa pS pR pG pP pQ kp kS kR kP kQ li (iI x) (iI y) (iI z) = some (0, 2, 0, msd, 0, -1, mqt, 0, bq b, pa, pS, pR, pG, pP, pQ, kp, kS, kR, kP, kQ, li) := by
      intro a1 a2
      refine ⟨hd_b (show fn_B_begin 0 sd rt ps (bq b) (kq k) md bo ma qt rn rc (iI x) (iI y) (iI z) = some (2, 0, 0, sd, rt, ps, bq b, kq k, md, bo, ma, qt, rn, rc) from hd_b b_ri0 (hd_T rfl (hd_b a1 (hd_T rfl rfl)))) (hd_F ne20 (hd_F ne21 (hd_T rfl rfl))), ?_⟩
      rw [a2, bk_M_begin_80]
      exact hd_T rfl (hd_T rfl (hd_b (m_ref2 mth) (hd_F ne10 rfl)))
    by_cases hin : inb x y z
    · have hin' := hin
      rw [inb] at hin'
      have eX : iI x = iI ((x.toNat : Nat) : Int) := by congr 1; omega
      have eY : iI y = iI ((y.toNat : Nat) : Int) := by congr 1; omega
      have eZ : iI z = iI ((((z + 1).toNat : Nat) : Int) - 1) := by congr 1; omega
      have hs : x.toNat < 2 := by omega
      have hr : y.toNat < 16 := by omega
      have hp : (z + 1).toNat < 9 := by omega
      have g1 := g_allowed (b := b) hs hr hp
      have g2 := m_beg_in (b := b) hs hr hp mth 0 msd 0 (-1) mqt 0 pa pS pR pG pP pQ (kp, kS, kR, kP, kQ) li
      rw [← eX, ← eY, ← eZ] at g1 g2
      cases hgd : gd b x.toNat y.toNat (z + 1).toNat with
      | false =>
        rw [hgd] at g1 g2
        obtain ⟨q1, q2⟩ := bad g1 g2
        exact hd_b q1 (hd_ck (ix1 hi hL) (hd_ck (ix2 hi hL) (hd_ck (ix3 hi hL) (hd_b q2 (hd_b rfl (hd_T rfl (hd_F ne20 (la_898 hi hL hk (Or.inl h0)))))))))
      | true =>
        rw [hgd] at g1 g2
        have hc : crw b = true := by
          rw [gd, Bool.and_eq_true] at hgd
          exact hgd.1
        have hpv : pvp (b, x.toNat, y.toNat, (z + 1).toNat, kst b k) := pv_begin hs hr hp hgd rfl rfl
        obtain ⟨bo', s1, s2⟩ := b_start hpv hc 0 sd rt ps md bo ma qt
        obtain ⟨rc', c1, c2⟩ := c_moves hpv rn rc
        obtain ⟨K1, pa', n1, n2, n3⟩ := m_note hpv (show 0 ≤ 150 by omega) 0 (kp, kS, kR, kP, kQ) pa pS pR pG pP pQ
        obtain ⟨K', li', d1, d2⟩ := m_coll0 hpv 0 K1 li
        rw [← eX, ← eY, ← eZ] at s1
        have c1 : fn_P_listMoves (iI ((x.toNat : Nat) : Int)) (iI ((y.toNat : Nat) : Int)) (iI ((((z + 1).toNat : Nat) : Int) - 1)) (bq b) (kq (kst b k)) rn rc = some (iI ((lmp (b, x.toNat, y.toNat, (z + 1).toNat, kst b k)).length : Int), iI ((x.toNat : Nat) : Int), iI ((y.toNat : Nat) : Int), iI ((((z + 1).toNat : Nat) : Int) - 1), bq b, kq (kst b k), iI ((lmp (b, x.toNat, y.toNat, (z + 1).toNat, kst b k)).length : Int), rc') := c1
        have n1 : fn_M_note (iI ((x.toNat : Nat) : Int)) (iI ((y.toNat : Nat) : Int)) (iI ((((z + 1).toNat : Nat) : Int) - 1)) 0 0 (bq b) pa pS pR pG pP pQ kp kS kR kP kQ = some (iI ((x.toNat : Nat) : Int), iI ((y.toNat : Nat) : Int), iI ((((z + 1).toNat : Nat) : Int) - 1), 0, bq b, pa', upd pS 0 (iI ((x.toNat : Nat) : Int)), upd pR 0 (iI ((y.toNat : Nat) : Int)), upd pG 0 (iI (pn2 (b, x.toNat, y.toNat, (z + 1).toNat, kst b k) : Int)), upd pP 0 (iI ((((z + 1).toNat : Nat) : Int) - 1)), upd pQ 0 0, K1.1, K1.2.1, K1.2.2.1, K1.2.2.2.1, K1.2.2.2.2) := n1
        have d1 : fn_M_collect (iI ((x.toNat : Nat) : Int)) (iI ((y.toNat : Nat) : Int)) (iI ((((z + 1).toNat : Nat) : Int) - 1)) 0 (bq b) K1.1 K1.2.1 K1.2.2.1 K1.2.2.2.1 K1.2.2.2.2 li 0 = some (iI ((lmp (b, x.toNat, y.toNat, (z + 1).toNat, kst b k)).length : Int), iI ((x.toNat : Nat) : Int), iI ((y.toNat : Nat) : Int), iI ((((z + 1).toNat : Nat) : Int) - 1), 0, bq b, K'.1, K'.2.1, K'.2.2.1, K'.2.2.2.1, K'.2.2.2.2, li') := d1
        rw [← eX, ← eY, ← eZ] at c1 n1 d1
        generalize hlen : (lmp (b, x.toNat, y.toNat, (z + 1).toNat, kst b k)).length = len at c1 d1
        have p1 : fn_B_begin 0 sd rt ps (bq b) (kq k) md bo ma qt rn rc (iI x) (iI y) (iI z) = some (0, iI (len : Int), 1, iI x, iI y, iI z, bq b, kq (kst b k), iI 0, bo', upd ma 0 (iI (mkp (b, x.toNat, y.toNat, (z + 1).toNat, kst b k) : Int)), upd qt 0 0, iI (len : Int), rc') := hd_b b_ri0 (hd_T rfl (hd_b g1 (hd_F gzT (hd_b s1 (hd_b c1 rfl)))))
        have q1 : fn_L_begin 0 sd rt ps (bq b) (kq k) md bo ma qt rn rc ou (iI x) (iI y) (iI z) = some (0, 1, iI x, iI y, iI z, bq b, kq (kst b k), iI 0, bo', upd ma 0 (iI (mkp (b, x.toNat, y.toNat, (z + 1).toNat, kst b k) : Int)), upd qt 0 0, iI (len : Int), rc', vp_updL ou (0 : Int32).toNatClampNeg (iI (len : Int)).toInt64) := hd_b p1 (hd_T rfl (hd_ck (by decide) rfl))
        have q2 : fn_M_begin mth 0 msd 0 (-1) mqt 0 (bq b) pa pS pR pG pP pQ kp kS kR kP kQ li (iI x) (iI y) (iI z) = some (iI (len : Int), 0, 1, iI x, iI y, iI z, 0, 0, bq b, pa', upd pS 0 (iI x), upd pR 0 (iI y), upd pG 0 (iI (pn2 (b, x.toNat, y.toNat, (z + 1).toNat, kst b k) : Int)), upd pP 0 (iI z), upd pQ 0 0, K'.1, K'.2.1, K'.2.2.1, K'.2.2.2.1, K'.2.2.2.2, li') := by
          refine Eq.trans g2 ?_
          rw [bk_M_begin_80]
          exact hd_T rfl (hd_F gzT (hd_b (m_ref0 mth) (hd_T rfl (hd_b n1 (hd_b d1 rfl)))))
        have rel : Rl 1 (iI x) (iI y) (iI z) (bq b) (kq (kst b k)) (iI 0) bo' (upd ma 0 (iI (mkp (b, x.toNat, y.toNat, (z + 1).toNat, kst b k) : Int))) (upd qt 0 0) yc yb 1 (iI x) (iI y) (iI z) 0 0 (bq b) pa' (upd pS 0 (iI x)) (upd pR 0 (iI y)) (upd pG 0 (iI (pn2 (b, x.toNat, y.toNat, (z + 1).toNat, kst b k) : Int))) (upd pP 0 (iI z)) (upd pQ 0 0) := by
          refine Or.inr ⟨⟨rfl, rfl⟩, 0, fun _ => (b, x.toNat, y.toNat, (z + 1).toNat, kst b k), fun _ => 0, fun _ => 0, ⟨by omega, fun _ _ => hpv, fun j hj => by omega⟩, ⟨eX, eY, eZ, rfl, rfl, rfl⟩, ⟨eX, eY, eZ, rfl, rfl, rfl⟩, ?_, ?_, fun j hj => by omega, ?_⟩
          · intro j hj
            have : j = 0 := by omega
            subst this
            exact ⟨upd_at _ _ _, fun w hw => by rw [Nat.mul_zero, Nat.zero_add]; exact s2 w hw⟩
          · intro j hj
            have : j = 0 := by omega
            subst this
            exact upd_at _ _ _
          · intro j hj
            have : j = 0 := by omega
            subst this
            refine ⟨fun s hs => n2 s hs, ?_, ?_, upd_at _ _ _, ?_, upd_at _ _ _⟩
            · rw [upd_at]; exact eX
            · rw [upd_at]; exact eY
            · rw [upd_at]; exact eZ
        exact hd_b q1 (hd_ck (ix1 hi hL) (hd_ck (ix2 hi hL) (hd_ck (ix3 hi hL) (hd_b q2 (hd_b rfl (hd_T rfl (hd_T rfl (hd_ck (by decide) (hd_T ((lg_0 _ _).mpr (uL _ _ _)) (la_898 hi hL hk rel))))))))))
    · obtain ⟨q1, q2⟩ := bad (g_out hx hy hz hin) (m_beg_out hx hy hz hin mth 0 msd 0 (-1) mqt 0 pa pS pR pG pP pQ (kp, kS, kR, kP, kQ) li)
      exact hd_b q1 (hd_ck (ix1 hi hL) (hd_ck (ix2 hi hL) (hd_ck (ix3 hi hL) (hd_b q2 (hd_b rfl (hd_T rfl (hd_F ne20 (la_898 hi hL hk (Or.inl h0)))))))))
  · have h0 := h
    obtain ⟨⟨rfl, rfl⟩, n, G, cs, Q, hg, -, ⟨-, -, -, rfl, -⟩, -⟩ := h
    have q1 : fn_L_begin 1 sd rt ps sq kg md bo ma qt rn rc ou (iI x) (iI y) (iI z) = some (1, 1, sd, rt, ps, sq, kg, md, bo, ma, qt, rn, rc, ou) := hd_b (show fn_B_begin 1 sd rt ps sq kg md bo ma qt rn rc (iI x) (iI y) (iI z) = some (1, 0, 1, sd, rt, ps, sq, kg, md, bo, ma, qt, rn, rc) from hd_b b_ri1 (hd_F ne10 rfl)) (hd_F ne10 (hd_T rfl rfl))
    have b80 : ∀ s0 : Int32, bk_M_begin_80 (iI x) (iI y) (iI z) mth 1 msd mrt mps mqt mmd (bq (G n).1) pa pS pR pG pP pQ kp kS kR kP kQ li s0 = some (0, 1, 1, msd, mrt, mps, mqt, mmd, bq (G n).1, pa, pS, pR, pG, pP, pQ, kp, kS, kR, kP, kQ, li) := by
      intro s0
      rw [bk_M_begin_80]
      exact hd_F ne10 (hd_b (m_ref1 mth) (hd_F ne10 rfl))
    have q2 : fn_M_begin mth 1 msd mrt mps mqt mmd (bq (G n).1) pa pS pR pG pP pQ kp kS kR kP kQ li (iI x) (iI y) (iI z) = some (0, 1, 1, msd, mrt, mps, mqt, mmd, bq (G n).1, pa, pS, pR, pG, pP, pQ, kp, kS, kR, kP, kQ, li) := by
      by_cases hin : inb x y z
      · have hin' := hin
        rw [inb] at hin'
        have eX : iI x = iI ((x.toNat : Nat) : Int) := by congr 1; omega
        have eY : iI y = iI ((y.toNat : Nat) : Int) := by congr 1; omega
        have eZ : iI z = iI ((((z + 1).toNat : Nat) : Int) - 1) := by congr 1; omega
        have g2 := m_beg_in (b := (G n).1) (show x.toNat < 2 by omega) (show y.toNat < 16 by omega) (show (z + 1).toNat < 9 by omega) mth 1 msd mrt mps mqt mmd pa pS pR pG pP pQ (kp, kS, kR, kP, kQ) li
        rw [← eX, ← eY, ← eZ] at g2
        exact Eq.trans g2 (b80 _)
      · exact Eq.trans (m_beg_out hx hy hz hin mth 1 msd mrt mps mqt mmd pa pS pR pG pP pQ (kp, kS, kR, kP, kQ) li) (b80 _)
    exact hd_b q1 (hd_ck (ix1 hi hL) (hd_ck (ix2 hi hL) (hd_ck (ix3 hi hL) (hd_b q2 (hd_b rfl (hd_T rfl (hd_F ne10 (la_898 hi hL hk (Or.inr h0)))))))))
