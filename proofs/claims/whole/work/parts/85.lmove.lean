/-! the law: move -/
def inm (x y z : Int) : Prop := (0 ≤ x ∧ x ≤ 63) ∧ (0 ≤ y ∧ y ≤ 63) ∧ (0 ≤ z ∧ z ≤ 5)
theorem b_there_o {P : Ps} {x y z : Int} (hx : i32 x) (hy : i32 y) (hz : i32 z) (h : ¬ inm x y z) (rn : Int32) (rc : Nat → Int32) : fn_B_isThere (iI (P.2.1 : Int)) (iI (P.2.2.1 : Int)) (iI ((P.2.2.2.1 : Int) - 1)) (bq P.1) (kq P.2.2.2.2) rn rc (iI x) (iI y) (iI z) = some (0, iI (P.2.1 : Int), iI (P.2.2.1 : Int), iI ((P.2.2.2.1 : Int) - 1), bq P.1, kq P.2.2.2.2, rn, rc) := by
  have e1 := b_square hx
  have e2 := b_square hy
  rw [i32] at hz
  rw [inm] at h
  rw [fn_B_isThere]
  by_cases h1 : 0 ≤ x ∧ x ≤ 63
  · rw [decide_eq_true h1] at e1
    refine hd_b e1 (hd_F gzT ?_)
    by_cases h2 : 0 ≤ y ∧ y ≤ 63
    · rw [decide_eq_true h2] at e2
      refine hd_b e2 (hd_F gzT ?_)
      by_cases h3 : z < 0
      · exact hd_T (by show iI _ < iI 0; rw [iI_lt (by omega) (by omega) (by omega) (by omega)]; omega) rfl
      · exact hd_F (by show ¬ iI _ < iI 0; rw [iI_lt (by omega) (by omega) (by omega) (by omega)]; omega) (hd_F (by show ¬ iI _ ≤ iI 5; rw [iI_le (by omega) (by omega) (by omega) (by omega)]; omega) rfl)
    · rw [decide_eq_false h2] at e2
      exact hd_b e2 (hd_T rfl rfl)
  · rw [decide_eq_false h1] at e1
    exact hd_b e1 (hd_T rfl rfl)
def okm (P : Ps) (a t p : Nat) : Bool := gs P.1 P.2.1 P.2.2.1 P.2.2.2.1 (P.2.2.2.2 P.2.1) a t p && sf P.1 P.2.1 P.2.2.2.2 a t p
theorem b_there {P : Ps} (h : pvp P) {a t p : Nat} (ha : a < 64) (ht : t < 64) (hp : p < 6) (rn : Int32) (rc : Nat → Int32) : ∃ (rn' : Int32) (rc' : Nat → Int32), fn_B_isThere (iI (P.2.1 : Int)) (iI (P.2.2.1 : Int)) (iI ((P.2.2.2.1 : Int) - 1)) (bq P.1) (kq P.2.2.2.2) rn rc (iI (a : Int)) (iI (t : Int)) (iI (p : Int)) = some (ge_z (okm P a t p), iI (P.2.1 : Int), iI (P.2.2.1 : Int), iI ((P.2.2.2.1 : Int) - 1), bq P.1, kq P.2.2.2.2, rn', rc') := by
  have e1 := b_square (z := (a : Int)) ⟨by omega, by omega⟩
  have e2 := b_square (z := (t : Int)) ⟨by omega, by omega⟩
  rw [decide_eq_true (by omega)] at e1 e2
  obtain ⟨rc', c1, c2⟩ := c_moves h rn rc
  have hl : (lmp P).length ≤ 415 := lms_len h
  have hh := w_holds c2 hl (c := cod a t p) (lm_small h) (by rw [cod]; omega)
  have hd : decide (cod a t p ∈ lmp P) = okm P a t p := by
    have := lms_cod h ha ht (p := p)
    rw [okm]
    cases hv : (gs P.1 P.2.1 P.2.2.1 P.2.2.2.1 (P.2.2.2.2 P.2.1) a t p && sf P.1 P.2.1 P.2.2.2.2 a t p) with
    | true => exact decide_eq_true (this.mpr hv)
    | false => exact decide_eq_false (fun z => by have := this.mp z; rw [hv] at this; exact absurd this (by decide))
  rw [hd] at hh
  refine ⟨iI ((lmp P).length : Int), rc', ?_⟩
  rw [fn_B_isThere]
  refine hd_b e1 (hd_F gzT (hd_b e2 (hd_F gzT (hd_F ?_ (hd_T ?_ (hd_b c1 (hd_b (b_codeOf a t p) (hd_b hh (hd_ck (iI_bz _) rfl)))))))))
  · show ¬ iI _ < iI 0; rw [iI_lt (by omega) (by omega) (by omega) (by omega)]; omega
  · show iI _ ≤ iI 5; rw [iI_le (by omega) (by omega) (by omega) (by omega)]; omega
theorem m_out5 {z : Int} (hz : i32 z) : fn_M_outside (iI z) 0 5 = some (ge_z (!decide (0 ≤ z ∧ z ≤ 5))) := by
  rw [i32] at hz
  have := @m_outside z 0 5 (by omega) (by omega) (by omega) (by omega) (by omega) (by omega)
  have e : (decide (0 ≤ z) && decide (z ≤ 5)) = decide (0 ≤ z ∧ z ≤ 5) := (Bool.decide_and _ _).symm
  rw [e] at this
  exact this
theorem m_mv_o {P : Ps} {x y z : Int} (hx : i32 x) (hy : i32 y) (hz : i32 z) (h : ¬ inm x y z) (mth q mmd : Int32) (pa pS pR pG pP pQ : Nat → Int32) (K : KT) : bk_M_move_22 1 (iI x) (iI y) (iI z) mth (iI (P.2.1 : Int)) (iI (P.2.2.1 : Int)) (iI ((P.2.2.2.1 : Int) - 1)) q mmd (bq P.1) pa pS pR pG pP pQ K.1 K.2.1 K.2.2.1 K.2.2.2.1 K.2.2.2.2 1 = bk_M_move_73 1 (iI x) (iI y) (iI z) mth (iI (P.2.1 : Int)) (iI (P.2.2.1 : Int)) (iI ((P.2.2.2.1 : Int) - 1)) q mmd (bq P.1) pa pS pR pG pP pQ K.1 K.2.1 K.2.2.1 K.2.2.2.1 K.2.2.2.2 1 (ge_z false) := by
  have o1 := m_out63 hx
  have o2 := m_out63 hy
  have o3 := m_out5 hz
  have e72 : bk_M_move_72 1 (iI x) (iI y) (iI z) mth (iI (P.2.1 : Int)) (iI (P.2.2.1 : Int)) (iI ((P.2.2.2.1 : Int) - 1)) q mmd (bq P.1) pa pS pR pG pP pQ K.1 K.2.1 K.2.2.1 K.2.2.2.1 K.2.2.2.2 1 = bk_M_move_73 1 (iI x) (iI y) (iI z) mth (iI (P.2.1 : Int)) (iI (P.2.2.1 : Int)) (iI ((P.2.2.2.1 : Int) - 1)) q mmd (bq P.1) pa pS pR pG pP pQ K.1 K.2.1 K.2.2.1 K.2.2.2.1 K.2.2.2.2 1 (ge_z false) := by
    rw [bk_M_move_72, show ge_z false = 0 from rfl]
  rw [inm] at h
  rw [bk_M_move_22]
  refine hd_F ne10 (hd_b o1 ?_)
  by_cases h1 : 0 ≤ x ∧ x ≤ 63
  · rw [decide_eq_true h1]
    refine hd_T rfl (hd_b o2 ?_)
    by_cases h2 : 0 ≤ y ∧ y ≤ 63
    · rw [decide_eq_true h2]
      refine hd_T rfl (hd_b o3 ?_)
      rw [decide_eq_false (by omega)]
      exact hd_F gzT e72
    · rw [decide_eq_false h2]
      exact hd_F gzT e72
  · rw [decide_eq_false h1]
    exact hd_F gzT e72
theorem m_mv_i {P : Ps} (h : pvp P) {a t p : Nat} (ha : a < 64) (ht : t < 64) (hp : p < 6) (mth q mmd : Int32) (pa pS pR pG pP pQ : Nat → Int32) (K : KT) : ∃ K' : KT, bk_M_move_22 1 (iI (a : Int)) (iI (t : Int)) (iI (p : Int)) mth (iI (P.2.1 : Int)) (iI (P.2.2.1 : Int)) (iI ((P.2.2.2.1 : Int) - 1)) q mmd (bq P.1) pa pS pR pG pP pQ K.1 K.2.1 K.2.2.1 K.2.2.2.1 K.2.2.2.2 1 = bk_M_move_73 1 (iI (a : Int)) (iI (t : Int)) (iI (p : Int)) mth (iI (P.2.1 : Int)) (iI (P.2.2.1 : Int)) (iI ((P.2.2.2.1 : Int) - 1)) q mmd (bq P.1) pa pS pR pG pP pQ K'.1 K'.2.1 K'.2.2.1 K'.2.2.2.1 K'.2.2.2.2 1 (ge_z (okm P a t p)) := by
  have o1 := m_out63 (z := (a : Int)) ⟨by omega, by omega⟩
  have o2 := m_out63 (z := (t : Int)) ⟨by omega, by omega⟩
  have o3 := m_out5 (z := (p : Int)) ⟨by omega, by omega⟩
  rw [decide_eq_true (by omega)] at o1 o2 o3
  obtain ⟨K', k1, -⟩ := m_isMove h ha ht hp q K
  refine ⟨K', ?_⟩
  rw [bk_M_move_22]
  refine hd_F ne10 (hd_b o1 (hd_T rfl (hd_b o2 (hd_T rfl (hd_b o3 (hd_T rfl (hd_b k1 ?_)))))))
  have eo : okm P a t p = (gs P.1 P.2.1 P.2.2.1 P.2.2.2.1 (P.2.2.2.2 P.2.1) a t p && sf P.1 P.2.1 P.2.2.2.2 a t p) := rfl
  rw [← eo]
  cases okm P a t p with
  | false =>
    refine hd_T rfl ?_
    rw [bk_M_move_72, show ge_z false = 0 from rfl]
  | true =>
    refine hd_F gzT ?_
    rw [show ge_z true = 1 from rfl]
theorem la_283 {L : Nat} {xs : Nat → Int32} {k23 : LK} {i : Nat} (hi : i + 4 ≤ L) (hL : L ≤ 2048) (hk : hkk k23 (iI ((i + 4 : Nat) : Int))) {pl : Int32} {sd : Int32} {rt : Int32} {ps : Int32} {sq : Nat → Int32} {kg : Nat → Int32} {md : Int32} {bo : Nat → Int64} {ma : Nat → Int32} {qt : Nat → Int32} {yc : Nat → Int32} {yb : Nat → Int32} {rn : Int32} {rc : Nat → Int32} {rn0 : Int32} {rc0 : Nat → Int32} {rn1 : Int32} {rc1 : Nat → Int32} {rn2 : Int32} {rc2 : Nat → Int32} {rn3 : Int32} {rc3 : Nat → Int32} {mth : Int32} {mpl : Int32} {msd : Int32} {mrt : Int32} {mps : Int32} {mqt : Int32} {mmd : Int32} {bd : Nat → Int32} {pa : Nat → Int32} {pS : Nat → Int32} {pR : Nat → Int32} {pG : Nat → Int32} {pP : Nat → Int32} {pQ : Nat → Int32} {kp : Nat → Int32} {kS : Nat → Int32} {kR : Nat → Int32} {kP : Nat → Int32} {kQ : Nat → Int32} {li : Nat → Int32} {ou : Nat → Int64} (h : Rl pl sd rt ps sq kg md bo ma qt yc yb mpl msd mrt mps mqt mmd bd pa pS pR pG pP pQ) : bk_L_law_283 L xs k23 pl sd rt ps sq kg md bo ma qt yc yb rn rc rn0 rc0 rn1 rc1 rn2 rc2 rn3 rc3 mth mpl msd mrt mps mqt mmd bd pa pS pR pG pP pQ kp kS kR kP kQ li ou (iI (i : Int)) = some 1 := by
  rw [bk_L_law_283]
  obtain ⟨x, x1, x2, ex⟩ := i_of (xs (iI (i : Int) + 1).toNatClampNeg)
  obtain ⟨y, y1, y2, ey⟩ := i_of (xs (iI (i : Int) + 2).toNatClampNeg)
  obtain ⟨z, z1, z2, ez⟩ := i_of (xs (iI (i : Int) + 3).toNatClampNeg)
  have hx : i32 x := ⟨x1, x2⟩
  have hy : i32 y := ⟨y1, y2⟩
  have hz : i32 z := ⟨z1, z2⟩
  rw [ex, ey, ez]
  refine hd_ck (ix1 hi hL) (hd_ck (ix2 hi hL) (hd_ck (ix3 hi hL) ?_))
  rcases h with h | h
  · have h0 := h
    obtain ⟨⟨rfl, rfl, rfl, rfl, rfl⟩, -⟩ := h
    have q1 : fn_L_move 0 sd rt ps sq kg md bo ma qt yc yb rn rc ou (iI x) (iI y) (iI z) = some (1, sd, rt, ps, sq, kg, md, bo, ma, qt, yc, yb, rn, rc, ou) := hd_b (show fn_B_move 0 sd rt ps sq kg md bo ma qt yc yb rn rc (iI x) (iI y) (iI z) = some (1, 0, sd, rt, ps, sq, kg, md, bo, ma, qt, yc, yb, rn, rc) from hd_b b_rw0 (hd_F ne10 rfl)) (hd_F ne10 (hd_T rfl rfl))
    have q2 : fn_M_move mth 0 msd 0 (-1) mqt 0 bd pa pS pR pG pP pQ kp kS kR kP kQ (iI x) (iI y) (iI z) = some (0, 1, msd, 0, -1, mqt, 0, bd, pa, pS, pR, pG, pP, pQ, kp, kS, kR, kP, kQ) := by
      rw [fn_M_move, if_pos rfl, bk_M_move_21, bk_M_move_22, if_pos rfl, bk_M_move_72, bk_M_move_73, if_pos rfl, bk_M_move_95]
      exact hd_b (m_ref1 mth) (hd_F ne10 rfl)
    exact hd_b q1 (hd_ck (ix1 hi hL) (hd_ck (ix2 hi hL) (hd_ck (ix3 hi hL) (hd_b q2 (hd_b rfl (hd_T rfl (hd_F ne10 (la_898 hi hL hk (Or.inl h0)))))))))
  · have h0 := h
    obtain ⟨⟨rfl, rfl⟩, n, G, cs, Q, hg, ⟨rfl, rfl, rfl, rfl, rfl, rfl⟩, ⟨rfl, rfl, rfl, rfl, rfl, rfl⟩, hm, hq, hyy, ho⟩ := h
    have hn := hg.1
    have hp := hg.2.1 n (Nat.le_refl _)
    by_cases h150 : 150 ≤ n
    · have p1 : fn_B_move 1 (iI ((G n).2.1 : Int)) (iI ((G n).2.2.1 : Int)) (iI (((G n).2.2.2.1 : Int) - 1)) (bq (G n).1) (kq (G n).2.2.2.2) (iI (n : Int)) bo ma qt yc yb rn rc (iI x) (iI y) (iI z) = some (1, 0, iI ((G n).2.1 : Int), iI ((G n).2.2.1 : Int), iI (((G n).2.2.2.1 : Int) - 1), bq (G n).1, kq (G n).2.2.2.2, iI (n : Int), bo, ma, qt, yc, yb, rn, rc) := hd_b b_rw1 (hd_T rfl (hd_F (by show ¬ iI _ < iI 150; rw [iI_lt (by omega) (by omega) (by omega) (by omega)]; omega) rfl))
      have q1 : fn_L_move 1 (iI ((G n).2.1 : Int)) (iI ((G n).2.2.1 : Int)) (iI (((G n).2.2.2.1 : Int) - 1)) (bq (G n).1) (kq (G n).2.2.2.2) (iI (n : Int)) bo ma qt yc yb rn rc ou (iI x) (iI y) (iI z) = some (1, iI ((G n).2.1 : Int), iI ((G n).2.2.1 : Int), iI (((G n).2.2.2.1 : Int) - 1), bq (G n).1, kq (G n).2.2.2.2, iI (n : Int), bo, ma, qt, yc, yb, rn, rc, ou) := hd_b p1 (hd_F ne10 (hd_T rfl rfl))
      have q2 : fn_M_move mth 1 (iI ((G n).2.1 : Int)) (iI ((G n).2.2.1 : Int)) (iI (((G n).2.2.2.1 : Int) - 1)) (Q n) (iI (n : Int)) (bq (G n).1) pa pS pR pG pP pQ kp kS kR kP kQ (iI x) (iI y) (iI z) = some (0, 1, iI ((G n).2.1 : Int), iI ((G n).2.2.1 : Int), iI (((G n).2.2.2.1 : Int) - 1), Q n, iI (n : Int), bq (G n).1, pa, pS, pR, pG, pP, pQ, kp, kS, kR, kP, kQ) := by
        rw [fn_M_move, if_neg ne10]
        refine hd_T (by show iI 150 ≤ iI _; rw [iI_le (by omega) (by omega) (by omega) (by omega)]; omega) ?_
        rw [bk_M_move_21, bk_M_move_22, if_pos rfl, bk_M_move_72, bk_M_move_73, if_pos rfl, bk_M_move_95]
        exact hd_b (m_ref1 mth) (hd_F ne10 rfl)
      exact hd_b q1 (hd_ck (ix1 hi hL) (hd_ck (ix2 hi hL) (hd_ck (ix3 hi hL) (hd_b q2 (hd_b rfl (hd_T rfl (hd_F ne10 (la_898 hi hL hk (Or.inr h0)))))))))
    · have l150 : iI (n : Int) < 150 := by show iI _ < iI 150; rw [iI_lt (by omega) (by omega) (by omega) (by omega)]; omega
      have n150 : ¬ (150 : Int32) ≤ iI (n : Int) := by show ¬ iI 150 ≤ iI _; rw [iI_le (by omega) (by omega) (by omega) (by omega)]; omega
      -- not there
      have bad : ∀ (rn' : Int32) (rc' : Nat → Int32) (K' : KT), fn_B_isThere (iI ((G n).2.1 : Int)) (iI ((G n).2.2.1 : Int)) (iI (((G n).2.2.2.1 : Int) - 1)) (bq (G n).1) (kq (G n).2.2.2.2) rn rc (iI x) (iI y) (iI z) = some (0, iI ((G n).2.1 : Int), iI ((G n).2.2.1 : Int), iI (((G n).2.2.2.1 : Int) - 1), bq (G n).1, kq (G n).2.2.2.2, rn', rc') → bk_M_move_22 1 (iI x) (iI y) (iI z) mth (iI ((G n).2.1 : Int)) (iI ((G n).2.2.1 : Int)) (iI (((G n).2.2.2.1 : Int) - 1)) (Q n) (iI (n : Int)) (bq (G n).1) pa pS pR pG pP pQ kp kS kR kP kQ 1 = bk_M_move_73 1 (iI x) (iI y) (iI z) mth (iI ((G n).2.1 : Int)) (iI ((G n).2.2.1 : Int)) (iI (((G n).2.2.2.1 : Int) - 1)) (Q n) (iI (n : Int)) (bq (G n).1) pa pS pR pG pP pQ K'.1 K'.2.1 K'.2.2.1 K'.2.2.2.1 K'.2.2.2.2 1 (ge_z false) → fn_L_move 1 (iI ((G n).2.1 : Int)) (iI ((G n).2.2.1 : Int)) (iI (((G n).2.2.2.1 : Int) - 1)) (bq (G n).1) (kq (G n).2.2.2.2) (iI (n : Int)) bo ma qt yc yb rn rc ou (iI x) (iI y) (iI z) = some (2, iI ((G n).2.1 : Int), iI ((G n).2.2.1 : Int), iI (((G n).2.2.2.1 : Int) - 1), bq (G n).1, kq (G n).2.2.2.2, iI (n : Int), bo, ma, qt, yc, yb, rn', rc', ou) ∧ fn_M_move mth 1 (iI ((G n).2.1 : Int)) (iI ((G n).2.2.1 : Int)) (iI (((G n).2.2.2.1 : Int) - 1)) (Q n) (iI (n : Int)) (bq (G n).1) pa pS pR pG pP pQ kp kS kR kP kQ (iI x) (iI y) (iI z) = some (0, 2, iI ((G n).2.1 : Int), iI ((G n).2.2.1 : Int), iI (((G n).2.2.2.1 : Int) - 1), Q n, iI (n : Int), bq (G n).1, pa, pS, pR, pG, pP, pQ, K'.1, K'.2.1, K'.2.2.1, K'.2.2.2.1, K'.2.2.2.2) := by
        intro rn' rc' K' a1 a2
        constructor
        · exact hd_b (show fn_B_move 1 (iI ((G n).2.1 : Int)) (iI ((G n).2.2.1 : Int)) (iI (((G n).2.2.2.1 : Int) - 1)) (bq (G n).1) (kq (G n).2.2.2.2) (iI (n : Int)) bo ma qt yc yb rn rc (iI x) (iI y) (iI z) = some (2, 0, iI ((G n).2.1 : Int), iI ((G n).2.2.1 : Int), iI (((G n).2.2.2.1 : Int) - 1), bq (G n).1, kq (G n).2.2.2.2, iI (n : Int), bo, ma, qt, yc, yb, rn', rc') from hd_b b_rw1 (hd_T rfl (hd_T l150 (hd_b a1 (hd_T rfl rfl))))) (hd_F ne20 (hd_F ne21 (hd_T rfl rfl)))
        · rw [fn_M_move, if_neg ne10, if_neg n150, a2, bk_M_move_73, if_neg ne10, if_pos (show ge_z false = 0 from rfl), bk_M_move_95]
          exact hd_b (m_ref2 mth) (hd_F ne10 rfl)
      by_cases hin : inm x y z
      · have hin' := hin
        rw [inm] at hin'
        have eX : iI x = iI ((x.toNat : Nat) : Int) := by congr 1; omega
        have eY : iI y = iI ((y.toNat : Nat) : Int) := by congr 1; omega
        have eZ : iI z = iI ((z.toNat : Nat) : Int) := by congr 1; omega
        have ha : x.toNat < 64 := by omega
        have ht : y.toNat < 64 := by omega
        have hpp : z.toNat < 6 := by omega
        obtain ⟨rn', rc', t1⟩ := b_there hp ha ht hpp rn rc
        obtain ⟨K', t2⟩ := m_mv_i hp ha ht hpp mth (Q n) (iI (n : Int)) pa pS pR pG pP pQ (kp, kS, kR, kP, kQ)
        rw [← eX, ← eY, ← eZ] at t1 t2
        cases hok : okm (G n) x.toNat y.toNat z.toNat with
        | false =>
          rw [hok] at t1 t2
          obtain ⟨q1, q2⟩ := bad rn' rc' K' t1 t2
          exact hd_b q1 (hd_ck (ix1 hi hL) (hd_ck (ix2 hi hL) (hd_ck (ix3 hi hL) (hd_b q2 (hd_b rfl (hd_T rfl (hd_F ne20 (la_898 hi hL hk (Or.inr h0)))))))))
        | true =>
          rw [hok] at t1 t2
          have hc : cod x.toNat y.toNat z.toNat ∈ lmp (G n) := (lms_cod hp ha ht).mpr hok
          have hgs : gs (G n).1 (G n).2.1 (G n).2.2.1 (G n).2.2.2.1 ((G n).2.2.2.2 (G n).2.1) x.toNat y.toNat z.toNat = true := by
            rw [okm, Bool.and_eq_true] at hok
            exact hok.1
          have cd := b_codeOf x.toNat y.toNat z.toNat
          rw [← eX, ← eY, ← eZ] at cd
          have go := m_go hp.1.1 hp.1.2.1 ha ht hpp hgs (iI (((G n).2.2.2.1 : Int) - 1)) (Q n)
          rw [← eX, ← eY, ← eZ] at go
          obtain ⟨e1, e2, e3⟩ := cod_1 ha ht (p := z.toNat)
          generalize hcc : cod x.toNat y.toNat z.toNat = c at hc cd e1 e2 e3
          have go : fn_M_go (iI ((G n).2.1 : Int)) (iI ((G n).2.2.1 : Int)) (iI (((G n).2.2.2.1 : Int) - 1)) (Q n) (bq (G n).1) (iI x) (iI y) (iI z) = some (iI ((nxp (G n) c).2.1 : Int), iI ((nxp (G n) c).2.2.1 : Int), iI (((nxp (G n) c).2.2.2.1 : Int) - 1), qnc (G n) c (Q n), bq (nxp (G n) c).1) := by
            rw [go, nxp, qnc, e1, e2, e3]
          have hnp := nxp_pv hp hc
          have mk := c_make hp hc (show n < 150 by omega) qt yc yb
          rw [hq n (Nat.le_refl _)] at mk
          have pm := p_passingMoves hnp
          obtain ⟨bo', n1, n2, n3⟩ := h_note hnp (show n + 1 ≤ 150 by omega) bo ma
          obtain ⟨K2, pa', m1', m2', m3'⟩ := m_note hnp (show n + 1 ≤ 150 by omega) (qnc (G n) c (Q n)) K' pa pS pR pG pP pQ
          have p1 : fn_B_move 1 (iI ((G n).2.1 : Int)) (iI ((G n).2.2.1 : Int)) (iI (((G n).2.2.2.1 : Int) - 1)) (bq (G n).1) (kq (G n).2.2.2.2) (iI (n : Int)) bo ma qt yc yb rn rc (iI x) (iI y) (iI z) = some (0, iI ((n + 1 : Nat) : Int), iI ((nxp (G n) c).2.1 : Int), iI ((nxp (G n) c).2.2.1 : Int), iI (((nxp (G n) c).2.2.2.1 : Int) - 1), bq (nxp (G n) c).1, kq (nxp (G n) c).2.2.2.2, iI ((n + 1 : Nat) : Int), bo', upd ma (n + 1) (iI (mkp (nxp (G n) c) : Int)), upd qt (n + 1) (qnc (G n) c (Q n)), upd yc n (iI (c : Int)), upd yb n (iI (bfc (G n) c : Int)), rn', rc') := hd_b b_rw1 (hd_T rfl (hd_T l150 (hd_b t1 (hd_F gzT (hd_b cd (hd_b mk (hd_b pm (hd_b n1 rfl))))))))
          have q1 : fn_L_move 1 (iI ((G n).2.1 : Int)) (iI ((G n).2.2.1 : Int)) (iI (((G n).2.2.2.1 : Int) - 1)) (bq (G n).1) (kq (G n).2.2.2.2) (iI (n : Int)) bo ma qt yc yb rn rc ou (iI x) (iI y) (iI z) = some (0, iI ((nxp (G n) c).2.1 : Int), iI ((nxp (G n) c).2.2.1 : Int), iI (((nxp (G n) c).2.2.2.1 : Int) - 1), bq (nxp (G n) c).1, kq (nxp (G n) c).2.2.2.2, iI ((n + 1 : Nat) : Int), bo', upd ma (n + 1) (iI (mkp (nxp (G n) c) : Int)), upd qt (n + 1) (qnc (G n) c (Q n)), upd yc n (iI (c : Int)), upd yb n (iI (bfc (G n) c : Int)), rn', rc', vp_updL ou (0 : Int32).toNatClampNeg (iI ((n + 1 : Nat) : Int)).toInt64) := hd_b p1 (hd_T rfl (hd_ck (by decide) rfl))
          have q2 : fn_M_move mth 1 (iI ((G n).2.1 : Int)) (iI ((G n).2.2.1 : Int)) (iI (((G n).2.2.2.1 : Int) - 1)) (Q n) (iI (n : Int)) (bq (G n).1) pa pS pR pG pP pQ kp kS kR kP kQ (iI x) (iI y) (iI z) = some (iI ((n + 1 : Nat) : Int), 0, iI ((nxp (G n) c).2.1 : Int), iI ((nxp (G n) c).2.2.1 : Int), iI (((nxp (G n) c).2.2.2.1 : Int) - 1), qnc (G n) c (Q n), iI ((n + 1 : Nat) : Int), bq (nxp (G n) c).1, pa', upd pS (n + 1) (iI ((nxp (G n) c).2.1 : Int)), upd pR (n + 1) (iI ((nxp (G n) c).2.2.1 : Int)), upd pG (n + 1) (iI (pn2 (nxp (G n) c) : Int)), upd pP (n + 1) (iI (((nxp (G n) c).2.2.2.1 : Int) - 1)), upd pQ (n + 1) (qnc (G n) c (Q n)), K2.1, K2.2.1, K2.2.2.1, K2.2.2.2.1, K2.2.2.2.2) := by
            rw [fn_M_move, if_neg ne10, if_neg n150]
            refine Eq.trans t2 ?_
            rw [bk_M_move_73, if_neg ne10, if_neg gzT, bk_M_move_95]
            refine hd_b (m_ref0 mth) (hd_T rfl (hd_b go ?_))
            simp only [qq_let]
            rw [iI_s1]
            exact hd_b m1' rfl
          have g0 : ∀ j, j ≤ n → (fun j => if j = n + 1 then nxp (G n) c else G j) j = G j := fun j hj => if_neg (by omega)
          have g1 : (fun j => if j = n + 1 then nxp (G n) c else G j) (n + 1) = nxp (G n) c := if_pos rfl
          have w0 : ∀ j, j ≤ n → (fun j => if j = n + 1 then qnc (G n) c (Q n) else Q j) j = Q j := fun j hj => if_neg (by omega)
          have w1 : (fun j => if j = n + 1 then qnc (G n) c (Q n) else Q j) (n + 1) = qnc (G n) c (Q n) := if_pos rfl
          have c0 : ∀ j, j < n → (fun j => if j = n then c else cs j) j = cs j := fun j hj => if_neg (by omega)
          have c1 : (fun j => if j = n then c else cs j) n = c := if_pos rfl
          have rel : Rl 1 (iI ((nxp (G n) c).2.1 : Int)) (iI ((nxp (G n) c).2.2.1 : Int)) (iI (((nxp (G n) c).2.2.2.1 : Int) - 1)) (bq (nxp (G n) c).1) (kq (nxp (G n) c).2.2.2.2) (iI ((n + 1 : Nat) : Int)) bo' (upd ma (n + 1) (iI (mkp (nxp (G n) c) : Int))) (upd qt (n + 1) (qnc (G n) c (Q n))) (upd yc n (iI (c : Int))) (upd yb n (iI (bfc (G n) c : Int))) 1 (iI ((nxp (G n) c).2.1 : Int)) (iI ((nxp (G n) c).2.2.1 : Int)) (iI (((nxp (G n) c).2.2.2.1 : Int) - 1)) (qnc (G n) c (Q n)) (iI ((n + 1 : Nat) : Int)) (bq (nxp (G n) c).1) pa' (upd pS (n + 1) (iI ((nxp (G n) c).2.1 : Int))) (upd pR (n + 1) (iI ((nxp (G n) c).2.2.1 : Int))) (upd pG (n + 1) (iI (pn2 (nxp (G n) c) : Int))) (upd pP (n + 1) (iI (((nxp (G n) c).2.2.2.1 : Int) - 1))) (upd pQ (n + 1) (qnc (G n) c (Q n))) := by
            generalize hGG : (fun j => if j = n + 1 then nxp (G n) c else G j) = GG at g0 g1
            generalize hWW : (fun j => if j = n + 1 then qnc (G n) c (Q n) else Q j) = WW at w0 w1
            generalize hCC : (fun j => if j = n then c else cs j) = CC at c0 c1
            refine Or.inr ⟨⟨rfl, rfl⟩, n + 1, GG, CC, WW, ⟨by omega, ?_, ?_⟩, ?_, ?_, ?_, ?_, ?_, ?_⟩
            · intro j hj
              rcases Nat.lt_or_ge n j with q | q
              · have : j = n + 1 := by omega
                rw [this, g1]; exact hnp
              · rw [g0 j q]; exact hg.2.1 j q
            · intro j hj
              rcases Nat.lt_or_ge j n with q | q
              · rw [c0 j q, g0 j (by omega), g0 (j + 1) (by omega), w0 j (by omega), w0 (j + 1) (by omega)]
                exact hg.2.2 j q
              · have : j = n := by omega
                subst this
                rw [c1, g0 j (Nat.le_refl _), g1, w0 j (Nat.le_refl _), w1]
                exact ⟨hc, rfl, rfl⟩
            · rw [g1]; exact ⟨rfl, rfl, rfl, rfl, rfl, rfl⟩
            · rw [g1, w1]; exact ⟨rfl, rfl, rfl, rfl, rfl, rfl⟩
            · intro j hj
              rcases Nat.lt_or_ge n j with q | q
              · have : j = n + 1 := by omega
                subst this
                rw [g1, upd_at]
                exact ⟨rfl, n2⟩
              · rw [g0 j q, upd_ne _ _ (by omega)]
                exact ⟨(hm j q).1, fun w hw => by rw [n3 _ (by omega)]; exact (hm j q).2 w hw⟩
            · intro j hj
              rcases Nat.lt_or_ge n j with q | q
              · have : j = n + 1 := by omega
                subst this
                rw [w1, upd_at]
              · rw [w0 j q, upd_ne _ _ (by omega)]
                exact hq j q
            · intro j hj
              rcases Nat.lt_or_ge j n with q | q
              · rw [c0 j q, g0 j (by omega), upd_ne _ _ (by omega), upd_ne _ _ (by omega)]
                exact hyy j q
              · have : j = n := by omega
                subst this
                rw [c1, g0 j (Nat.le_refl _), upd_at, upd_at]
                exact ⟨rfl, rfl⟩
            · intro j hj
              rcases Nat.lt_or_ge n j with q | q
              · have : j = n + 1 := by omega
                subst this
                rw [g1, w1, upd_at, upd_at, upd_at, upd_at, upd_at]
                exact ⟨m2', rfl, rfl, rfl, rfl, rfl⟩
              · rw [g0 j q, w0 j q, upd_ne _ _ (by omega), upd_ne _ _ (by omega), upd_ne _ _ (by omega), upd_ne _ _ (by omega), upd_ne _ _ (by omega)]
                obtain ⟨a1, a2⟩ := ho j q
                exact ⟨fun s hs => by rw [m3' _ (by omega)]; exact a1 s hs, a2⟩
          exact hd_b q1 (hd_ck (ix1 hi hL) (hd_ck (ix2 hi hL) (hd_ck (ix3 hi hL) (hd_b q2 (hd_b rfl (hd_T rfl (hd_T rfl (hd_ck (by decide) (hd_T ((lg_0 _ _).mpr (uL _ _ _)) (la_898 hi hL hk rel))))))))))
      · obtain ⟨q1, q2⟩ := bad rn rc (kp, kS, kR, kP, kQ) (b_there_o hx hy hz hin rn rc) (m_mv_o hx hy hz hin mth (Q n) (iI (n : Int)) pa pS pR pG pP pQ (kp, kS, kR, kP, kQ))
        exact hd_b q1 (hd_ck (ix1 hi hL) (hd_ck (ix2 hi hL) (hd_ck (ix3 hi hL) (hd_b q2 (hd_b rfl (hd_T rfl (hd_F ne20 (la_898 hi hL hk (Or.inr h0)))))))))
