/-! the law: clear, put, moves, nth, ending -/
def clb (b : Bd) (j : Nat) : Bd := fun i => if j ≤ i ∧ i < 64 then 0 else b i
theorem clb_s (b : Bd) {j : Nat} (hj : j < 64) : clb (bU b j 0) (j + 1) = clb b j := by
  funext i
  show (if j + 1 ≤ i ∧ i < 64 then 0 else (if i = j then 0 else b i)) = (if j ≤ i ∧ i < 64 then 0 else b i)
  by_cases e : i = j
  · subst e
    rw [if_neg (by omega), if_pos rfl, if_pos (by omega)]
  · rw [if_neg e]
    by_cases h : j ≤ i ∧ i < 64
    · rw [if_pos h, if_pos (by omega)]
    · rw [if_neg h, if_neg (by omega)]
theorem ja_fill (b : Bd) : fn_JA_fill (bq b) 0 = some (bq (clb b 0)) := by
  have lo : ∀ (m j n : Nat) (b : Bd), j + m = 64 → m + 1 ≤ n → lo_JA_fill_5 0 n (bq b) (iI (j : Int)) 64 = some (bq (clb b j)) := by
    intro m
    induction m with
    | zero =>
      intro j n b hj hn
      obtain ⟨n, rfl⟩ : ∃ n', n = n' + 1 := ⟨n - 1, by omega⟩
      have e : clb b j = b := by
        funext i
        exact if_neg (by omega)
      rw [lo_JA_fill_5_s, e]
      exact hd_T (by show iI 64 ≤ iI _; rw [iI_le (by omega) (by omega) (by omega) (by omega)]; omega) rfl
    | succ m ih =>
      intro j n b hj hn
      obtain ⟨n, rfl⟩ : ∃ n', n = n' + 1 := ⟨n - 1, by omega⟩
      rw [lo_JA_fill_5_s, iI_cn (by omega), bq_u0]
      refine hd_F (by show ¬ iI 64 ≤ iI _; rw [iI_le (by omega) (by omega) (by omega) (by omega)]; omega) (hd_ck (iI_in (by omega) (by omega) (by omega)) ?_)
      show lo_JA_fill_5 0 n _ (iI (j : Int) + 1) 64 = _
      rw [iI_s1, ih (j + 1) n _ (by omega) (by omega), clb_s b (by omega)]
  have e := lo 64 0 qq_FU b (by omega) (by rw [fu1]; omega)
  rw [show iI ((0 : Nat) : Int) = 0 from rfl] at e
  rw [fn_JA_fill]
  exact e
theorem m_clear (b : Bd) (mth mpl msd mrt mps mqt mmd : Int32) : fn_M_clear mth mpl msd mrt mps mqt mmd (bq b) = some (0, 0, 0, 0, -1, 0, 0, bq (clb b 0)) := by
  have lo : ∀ (m j n : Nat) (b : Bd), j + m = 64 → m + 1 ≤ n → lo_M_clear_37 n 0 0 0 0 (-1) 0 0 (bq b) (iI (j : Int)) = some (0, 0, 0, 0, -1, 0, 0, bq (clb b j)) := by
    intro m
    induction m with
    | zero =>
      intro j n b hj hn
      obtain ⟨n, rfl⟩ : ∃ n', n = n' + 1 := ⟨n - 1, by omega⟩
      have e : clb b j = b := by
        funext i
        exact if_neg (by omega)
      rw [lo_M_clear_37_s, e]
      exact hd_T (by show iI 64 ≤ iI _; rw [iI_le (by omega) (by omega) (by omega) (by omega)]; omega) rfl
    | succ m ih =>
      intro j n b hj hn
      obtain ⟨n, rfl⟩ : ∃ n', n = n' + 1 := ⟨n - 1, by omega⟩
      rw [lo_M_clear_37_s, iI_cn (by omega), bq_u0]
      refine hd_F (by show ¬ iI 64 ≤ iI _; rw [iI_le (by omega) (by omega) (by omega) (by omega)]; omega) (hd_ck (iI_in (by omega) (by omega) (by omega)) ?_)
      show lo_M_clear_37 n 0 0 0 0 (-1) 0 0 _ (iI (j : Int) + 1) = _
      rw [iI_s1, ih (j + 1) n _ (by omega) (by omega), clb_s b (by omega)]
  have e := lo 64 0 qq_FU b (by omega) (by rw [fu1]; omega)
  rw [show iI ((0 : Nat) : Int) = 0 from rfl] at e
  rw [fn_M_clear]
  exact e
theorem rl_kg {pl : Int32} {sd : Int32} {rt : Int32} {ps : Int32} {sq : Nat → Int32} {kg : Nat → Int32} {md : Int32} {bo : Nat → Int64} {ma : Nat → Int32} {qt : Nat → Int32} {yc : Nat → Int32} {yb : Nat → Int32} {mpl : Int32} {msd : Int32} {mrt : Int32} {mps : Int32} {mqt : Int32} {mmd : Int32} {bd : Nat → Int32} {pa : Nat → Int32} {pS : Nat → Int32} {pR : Nat → Int32} {pG : Nat → Int32} {pP : Nat → Int32} {pQ : Nat → Int32} (h : Rl pl sd rt ps sq kg md bo ma qt yc yb mpl msd mrt mps mqt mmd bd pa pS pR pG pP pQ) : ∃ (b : Bd) (k : Nat → Nat), sq = bq b ∧ bd = bq b ∧ kg = kq k := by
  rcases h with ⟨-, b, k, h1, h2, h3⟩ | ⟨-, n, G, cs, Q, -, ⟨-, -, -, h1, h3, -⟩, ⟨-, -, -, h2, -⟩, -⟩
  · exact ⟨b, k, h1, h2, h3⟩
  · exact ⟨(G n).1, _, h1, h2, h3⟩
theorem la_124 {L : Nat} {xs : Nat → Int32} {k23 : LK} {i : Nat} (hi : i + 4 ≤ L) (hL : L ≤ 2048) (hk : hkk k23 (iI ((i + 4 : Nat) : Int))) {pl : Int32} {sd : Int32} {rt : Int32} {ps : Int32} {sq : Nat → Int32} {kg : Nat → Int32} {md : Int32} {bo : Nat → Int64} {ma : Nat → Int32} {qt : Nat → Int32} {yc : Nat → Int32} {yb : Nat → Int32} {rn : Int32} {rc : Nat → Int32} {rn0 : Int32} {rc0 : Nat → Int32} {rn1 : Int32} {rc1 : Nat → Int32} {rn2 : Int32} {rc2 : Nat → Int32} {rn3 : Int32} {rc3 : Nat → Int32} {mth : Int32} {mpl : Int32} {msd : Int32} {mrt : Int32} {mps : Int32} {mqt : Int32} {mmd : Int32} {bd : Nat → Int32} {pa : Nat → Int32} {pS : Nat → Int32} {pR : Nat → Int32} {pG : Nat → Int32} {pP : Nat → Int32} {pQ : Nat → Int32} {kp : Nat → Int32} {kS : Nat → Int32} {kR : Nat → Int32} {kP : Nat → Int32} {kQ : Nat → Int32} {li : Nat → Int32} {ou : Nat → Int64} (h : Rl pl sd rt ps sq kg md bo ma qt yc yb mpl msd mrt mps mqt mmd bd pa pS pR pG pP pQ) : bk_L_law_124 L xs k23 pl sd rt ps sq kg md bo ma qt yc yb rn rc rn0 rc0 rn1 rc1 rn2 rc2 rn3 rc3 mth mpl msd mrt mps mqt mmd bd pa pS pR pG pP pQ kp kS kR kP kQ li ou (iI (i : Int)) = some 1 := by
  obtain ⟨b, k, rfl, rfl, rfl⟩ := rl_kg h
  rw [bk_L_law_124]
  exact hd_b (show fn_B_clear pl (bq b) = some (0, bq (clb b 0)) from hd_b (ja_fill b) rfl) (hd_b (m_clear b mth mpl msd mrt mps mqt mmd) (la_898 hi hL hk (Or.inl ⟨⟨rfl, rfl, rfl, rfl, rfl⟩, clb b 0, k, rfl, rfl, rfl⟩)))
theorem m_out12 {z : Int} (hz : i32 z) : fn_M_outside (iI z) 0 12 = some (ge_z (!decide (0 ≤ z ∧ z ≤ 12))) := by
  rw [i32] at hz
  have := @m_outside z 0 12 (by omega) (by omega) (by omega) (by omega) (by omega) (by omega)
  have e : (decide (0 ≤ z) && decide (z ≤ 12)) = decide (0 ≤ z ∧ z ≤ 12) := (Bool.decide_and _ _).symm
  rw [e] at this
  exact this
theorem la_135 {L : Nat} {xs : Nat → Int32} {k23 : LK} {i : Nat} (hi : i + 4 ≤ L) (hL : L ≤ 2048) (hk : hkk k23 (iI ((i + 4 : Nat) : Int))) {pl : Int32} {sd : Int32} {rt : Int32} {ps : Int32} {sq : Nat → Int32} {kg : Nat → Int32} {md : Int32} {bo : Nat → Int64} {ma : Nat → Int32} {qt : Nat → Int32} {yc : Nat → Int32} {yb : Nat → Int32} {rn : Int32} {rc : Nat → Int32} {rn0 : Int32} {rc0 : Nat → Int32} {rn1 : Int32} {rc1 : Nat → Int32} {rn2 : Int32} {rc2 : Nat → Int32} {rn3 : Int32} {rc3 : Nat → Int32} {mth : Int32} {mpl : Int32} {msd : Int32} {mrt : Int32} {mps : Int32} {mqt : Int32} {mmd : Int32} {bd : Nat → Int32} {pa : Nat → Int32} {pS : Nat → Int32} {pR : Nat → Int32} {pG : Nat → Int32} {pP : Nat → Int32} {pQ : Nat → Int32} {kp : Nat → Int32} {kS : Nat → Int32} {kR : Nat → Int32} {kP : Nat → Int32} {kQ : Nat → Int32} {li : Nat → Int32} {ou : Nat → Int64} (h : Rl pl sd rt ps sq kg md bo ma qt yc yb mpl msd mrt mps mqt mmd bd pa pS pR pG pP pQ) : bk_L_law_135 L xs k23 pl sd rt ps sq kg md bo ma qt yc yb rn rc rn0 rc0 rn1 rc1 rn2 rc2 rn3 rc3 mth mpl msd mrt mps mqt mmd bd pa pS pR pG pP pQ kp kS kR kP kQ li ou (iI (i : Int)) = some 1 := by
  rw [bk_L_law_135]
  obtain ⟨x, x1, x2, ex⟩ := i_of (xs (iI (i : Int) + 1).toNatClampNeg)
  obtain ⟨y, y1, y2, ey⟩ := i_of (xs (iI (i : Int) + 2).toNatClampNeg)
  have hx : i32 x := ⟨x1, x2⟩
  have hy : i32 y := ⟨y1, y2⟩
  rw [ex, ey]
  refine hd_ck (ix1 hi hL) (hd_ck (ix2 hi hL) ?_)
  rcases h with h | h
  · have h0 := h
    obtain ⟨⟨rfl, rfl, rfl, rfl, rfl⟩, b, k, rfl, rfl, rfl⟩ := h
    have e2 := b_square hx
    have o1 := m_out63 hx
    have o2 := m_out12 hy
    have q37 : ∀ t, bk_M_put_37 0 (iI x) (iI y) t (bq b) 2 = some (0, 2, bq b) := fun t => hd_b (m_ref2 t) (hd_F ne10 rfl)
    by_cases hin1 : 0 ≤ x ∧ x ≤ 63
    · rw [decide_eq_true hin1] at e2 o1
      by_cases hin2 : 0 ≤ y ∧ y ≤ 12
      · rw [decide_eq_true hin2] at o2
        have i1 : qq_in (iI x) 64 = true := iI_in (by omega) (by omega) (by omega)
        have ec : (iI x).toNatClampNeg = x.toNat := iI_cl (by omega) (by omega)
        have ev : iI y = iI (((⟨y.toNat, by omega⟩ : Fin 13).val : Nat) : Int) := by congr 1; show y = ((y.toNat : Nat) : Int); omega
        have eu : upd (bq b) x.toNat (iI y) = bq (bU b x.toNat ⟨y.toNat, by omega⟩) := by
          rw [ev]; exact bq_up b _ _
        have q1 : fn_L_put 0 (bq b) ou (iI x) (iI y) = some (0, bq (bU b x.toNat ⟨y.toNat, by omega⟩), vp_updL ou (0 : Int32).toNatClampNeg (bq b x.toNat).toInt64) := by
          refine hd_b (show fn_B_put 0 (bq b) (iI x) (iI y) = some (0, bq b x.toNat, bq (bU b x.toNat ⟨y.toNat, by omega⟩)) from ?_) (hd_T rfl (hd_ck (by decide) rfl))
          rw [← eu, ← ec]
          refine hd_b b_ri0 (hd_T rfl (hd_b e2 (hd_F gzT (hd_F ?_ (hd_T ?_ (hd_ck i1 (hd_ck i1 rfl)))))))
          · show ¬ iI _ < iI 0; rw [iI_lt (by omega) (by omega) (by omega) (by omega)]; omega
          · show iI _ ≤ iI 12; rw [iI_le (by omega) (by omega) (by omega) (by omega)]; omega
        have q2 : fn_M_put mth 0 (bq b) (iI x) (iI y) = some (bq b x.toNat, 0, bq (bU b x.toNat ⟨y.toNat, by omega⟩)) := by
          rw [← eu, ← ec]
          exact hd_T rfl (hd_b o1 (hd_T rfl (hd_b o2 (hd_T rfl (hd_b (m_ref0 mth) (hd_T rfl (hd_ck i1 (hd_ck i1 rfl))))))))
        exact hd_b q1 (hd_ck (ix1 hi hL) (hd_ck (ix2 hi hL) (hd_b q2 (hd_b rfl (hd_T rfl (hd_T rfl (hd_ck (by decide) (hd_T ((lg_0 _ _).mpr (uL _ _ _)) (la_898 hi hL hk (Or.inl ⟨⟨rfl, rfl, rfl, rfl, rfl⟩, _, k, rfl, rfl, rfl⟩))))))))))
      · rw [decide_eq_false hin2] at o2
        have q1 : fn_L_put 0 (bq b) ou (iI x) (iI y) = some (2, bq b, ou) := by
          refine hd_b (show fn_B_put 0 (bq b) (iI x) (iI y) = some (2, 0, bq b) from hd_b b_ri0 (hd_T rfl (hd_b e2 (hd_F gzT ?_)))) (hd_F ne20 (hd_F ne21 (hd_T rfl rfl)))
          by_cases h2 : y < 0
          · exact hd_T (by show iI _ < iI 0; rw [iI_lt (by omega) (by omega) (by omega) (by omega)]; omega) rfl
          · exact hd_F (by show ¬ iI _ < iI 0; rw [iI_lt (by omega) (by omega) (by omega) (by omega)]; omega) (hd_F (by show ¬ iI _ ≤ iI 12; rw [iI_le (by omega) (by omega) (by omega) (by omega)]; omega) rfl)
        have q2 : fn_M_put mth 0 (bq b) (iI x) (iI y) = some (0, 2, bq b) := hd_T rfl (hd_b o1 (hd_T rfl (hd_b o2 (hd_F gzT (q37 mth)))))
        exact hd_b q1 (hd_ck (ix1 hi hL) (hd_ck (ix2 hi hL) (hd_b q2 (hd_b rfl (hd_T rfl (hd_F ne20 (la_898 hi hL hk (Or.inl h0))))))))
    · rw [decide_eq_false hin1] at e2 o1
      have q1 : fn_L_put 0 (bq b) ou (iI x) (iI y) = some (2, bq b, ou) := hd_b (show fn_B_put 0 (bq b) (iI x) (iI y) = some (2, 0, bq b) from hd_b b_ri0 (hd_T rfl (hd_b e2 (hd_T rfl rfl)))) (hd_F ne20 (hd_F ne21 (hd_T rfl rfl)))
      have q2 : fn_M_put mth 0 (bq b) (iI x) (iI y) = some (0, 2, bq b) := hd_T rfl (hd_b o1 (hd_F gzT (q37 mth)))
      exact hd_b q1 (hd_ck (ix1 hi hL) (hd_ck (ix2 hi hL) (hd_b q2 (hd_b rfl (hd_T rfl (hd_F ne20 (la_898 hi hL hk (Or.inl h0))))))))
  · have h0 := h
    obtain ⟨⟨rfl, rfl⟩, -⟩ := h
    have q1 : fn_L_put 1 sq ou (iI x) (iI y) = some (1, sq, ou) := hd_b (show fn_B_put 1 sq (iI x) (iI y) = some (1, 0, sq) from hd_b b_ri1 (hd_F ne10 rfl)) (hd_F ne10 (hd_T rfl rfl))
    have q2 : fn_M_put mth 1 bd (iI x) (iI y) = some (0, 1, bd) := hd_F ne10 (hd_b (m_ref1 mth) (hd_F ne10 rfl))
    exact hd_b q1 (hd_ck (ix1 hi hL) (hd_ck (ix2 hi hL) (hd_b q2 (hd_b rfl (hd_T rfl (hd_F ne10 (la_898 hi hL hk (Or.inr h0))))))))
/-- the list of moves, in the words of a whole position -/
theorem c_moves {P : Ps} (h : pvp P) (rn : Int32) (rc : Nat → Int32) : ∃ rc', fn_P_listMoves (iI (P.2.1 : Int)) (iI (P.2.2.1 : Int)) (iI ((P.2.2.2.1 : Int) - 1)) (bq P.1) (kq P.2.2.2.2) rn rc = some (iI ((lmp P).length : Int), iI (P.2.1 : Int), iI (P.2.2.1 : Int), iI ((P.2.2.2.1 : Int) - 1), bq P.1, kq P.2.2.2.2, iI ((lmp P).length : Int), rc') ∧ rowOf rc' (lmp P) := p_listMoves h rn rc
theorem m_coll0 {P : Ps} (h : pvp P) (q : Int32) (K : KT) (li : Nat → Int32) :
    ∃ (K' : KT) (li' : Nat → Int32), fn_M_collect (iI (P.2.1 : Int)) (iI (P.2.2.1 : Int)) (iI ((P.2.2.2.1 : Int) - 1)) q (bq P.1) K.1 K.2.1 K.2.2.1 K.2.2.2.1 K.2.2.2.2 li 0 = some (iI ((lmp P).length : Int), iI (P.2.1 : Int), iI (P.2.2.1 : Int), iI ((P.2.2.2.1 : Int) - 1), q, bq P.1, K'.1, K'.2.1, K'.2.2.1, K'.2.2.2.1, K'.2.2.2.2, li') ∧ rowOf li' (lmp P) := by
  obtain ⟨K', li', q1, -, q3, -⟩ := m_collect h (show 0 < 3 by omega) q K li
  exact ⟨K', li', q1, fun j hj => by have := q3 j hj; rw [Nat.mul_zero, Nat.zero_add] at this; exact this⟩
theorem la_484 {L : Nat} {xs : Nat → Int32} {k23 : LK} {i : Nat} (hi : i + 4 ≤ L) (hL : L ≤ 2048) (hk : hkk k23 (iI ((i + 4 : Nat) : Int))) {pl : Int32} {sd : Int32} {rt : Int32} {ps : Int32} {sq : Nat → Int32} {kg : Nat → Int32} {md : Int32} {bo : Nat → Int64} {ma : Nat → Int32} {qt : Nat → Int32} {yc : Nat → Int32} {yb : Nat → Int32} {rn : Int32} {rc : Nat → Int32} {rn0 : Int32} {rc0 : Nat → Int32} {rn1 : Int32} {rc1 : Nat → Int32} {rn2 : Int32} {rc2 : Nat → Int32} {rn3 : Int32} {rc3 : Nat → Int32} {mth : Int32} {mpl : Int32} {msd : Int32} {mrt : Int32} {mps : Int32} {mqt : Int32} {mmd : Int32} {bd : Nat → Int32} {pa : Nat → Int32} {pS : Nat → Int32} {pR : Nat → Int32} {pG : Nat → Int32} {pP : Nat → Int32} {pQ : Nat → Int32} {kp : Nat → Int32} {kS : Nat → Int32} {kR : Nat → Int32} {kP : Nat → Int32} {kQ : Nat → Int32} {li : Nat → Int32} {ou : Nat → Int64} (h : Rl pl sd rt ps sq kg md bo ma qt yc yb mpl msd mrt mps mqt mmd bd pa pS pR pG pP pQ) : bk_L_law_484 L xs k23 pl sd rt ps sq kg md bo ma qt yc yb rn rc rn0 rc0 rn1 rc1 rn2 rc2 rn3 rc3 mth mpl msd mrt mps mqt mmd bd pa pS pR pG pP pQ kp kS kR kP kQ li ou (iI (i : Int)) = some 1 := by
  rw [bk_L_law_484]
  rcases h with h | h
  · have h0 := h
    obtain ⟨⟨rfl, rfl, rfl, rfl, rfl⟩, -⟩ := h
    have q1 : fn_L_moves 0 sd rt ps sq kg rn rc ou = some (1, sd, rt, ps, sq, kg, rn, rc, ou) := hd_b (show fn_B_moves 0 sd rt ps sq kg rn rc = some (1, 0, sd, rt, ps, sq, kg, rn, rc) from hd_b b_rw0 (hd_F ne10 rfl)) (hd_F ne10 (hd_T rfl rfl))
    have q2 : fn_M_moves mth 0 msd 0 (-1) mqt bd kp kS kR kP kQ li = some (0, 1, msd, 0, -1, mqt, bd, kp, kS, kR, kP, kQ, li) := hd_T rfl (hd_b (m_ref1 mth) (hd_F ne10 rfl))
    exact hd_b q1 (hd_b q2 (hd_b rfl (hd_T rfl (hd_F ne10 (la_898 hi hL hk (Or.inl h0))))))
  · have h0 := h
    obtain ⟨⟨rfl, rfl⟩, n, G, cs, Q, hg, ⟨rfl, rfl, rfl, rfl, rfl, rfl⟩, ⟨rfl, rfl, rfl, rfl, rfl, rfl⟩, -⟩ := h
    have hp := hg.2.1 n (Nat.le_refl _)
    obtain ⟨rc', c1, c2⟩ := c_moves hp rn rc
    obtain ⟨K', li', d1, d2⟩ := m_coll0 hp (Q n) (kp, kS, kR, kP, kQ) li
    have q1 : fn_L_moves 1 (iI ((G n).2.1 : Int)) (iI ((G n).2.2.1 : Int)) (iI (((G n).2.2.2.1 : Int) - 1)) (bq (G n).1) (kq (G n).2.2.2.2) rn rc ou = some (0, iI ((G n).2.1 : Int), iI ((G n).2.2.1 : Int), iI (((G n).2.2.2.1 : Int) - 1), bq (G n).1, kq (G n).2.2.2.2, iI ((lmp (G n)).length : Int), rc', vp_updL ou (0 : Int32).toNatClampNeg (iI ((lmp (G n)).length : Int)).toInt64) := hd_b (show fn_B_moves 1 (iI ((G n).2.1 : Int)) (iI ((G n).2.2.1 : Int)) (iI (((G n).2.2.2.1 : Int) - 1)) (bq (G n).1) (kq (G n).2.2.2.2) rn rc = some (0, iI ((lmp (G n)).length : Int), iI ((G n).2.1 : Int), iI ((G n).2.2.1 : Int), iI (((G n).2.2.2.1 : Int) - 1), bq (G n).1, kq (G n).2.2.2.2, iI ((lmp (G n)).length : Int), rc') from hd_b b_rw1 (hd_T rfl (hd_b c1 rfl))) (hd_T rfl (hd_ck (by decide) rfl))
    have q2 : fn_M_moves mth 1 (iI ((G n).2.1 : Int)) (iI ((G n).2.2.1 : Int)) (iI (((G n).2.2.2.1 : Int) - 1)) (Q n) (bq (G n).1) kp kS kR kP kQ li = some (iI ((lmp (G n)).length : Int), 0, iI ((G n).2.1 : Int), iI ((G n).2.2.1 : Int), iI (((G n).2.2.2.1 : Int) - 1), Q n, bq (G n).1, K'.1, K'.2.1, K'.2.2.1, K'.2.2.2.1, K'.2.2.2.2, li') := hd_F ne10 (hd_b (m_ref0 mth) (hd_T rfl (hd_b d1 rfl)))
    exact hd_b q1 (hd_b q2 (hd_b rfl (hd_T rfl (hd_T rfl (hd_ck (by decide) (hd_T ((lg_0 _ _).mpr (uL _ _ _)) (la_898 hi hL hk (Or.inr h0))))))))
theorem la_635 {L : Nat} {xs : Nat → Int32} {k23 : LK} {i : Nat} (hi : i + 4 ≤ L) (hL : L ≤ 2048) (hk : hkk k23 (iI ((i + 4 : Nat) : Int))) {pl : Int32} {sd : Int32} {rt : Int32} {ps : Int32} {sq : Nat → Int32} {kg : Nat → Int32} {md : Int32} {bo : Nat → Int64} {ma : Nat → Int32} {qt : Nat → Int32} {yc : Nat → Int32} {yb : Nat → Int32} {rn : Int32} {rc : Nat → Int32} {rn0 : Int32} {rc0 : Nat → Int32} {rn1 : Int32} {rc1 : Nat → Int32} {rn2 : Int32} {rc2 : Nat → Int32} {rn3 : Int32} {rc3 : Nat → Int32} {mth : Int32} {mpl : Int32} {msd : Int32} {mrt : Int32} {mps : Int32} {mqt : Int32} {mmd : Int32} {bd : Nat → Int32} {pa : Nat → Int32} {pS : Nat → Int32} {pR : Nat → Int32} {pG : Nat → Int32} {pP : Nat → Int32} {pQ : Nat → Int32} {kp : Nat → Int32} {kS : Nat → Int32} {kR : Nat → Int32} {kP : Nat → Int32} {kQ : Nat → Int32} {li : Nat → Int32} {ou : Nat → Int64} (h : Rl pl sd rt ps sq kg md bo ma qt yc yb mpl msd mrt mps mqt mmd bd pa pS pR pG pP pQ) : bk_L_law_635 L xs k23 pl sd rt ps sq kg md bo ma qt yc yb rn rc rn0 rc0 rn1 rc1 rn2 rc2 rn3 rc3 mth mpl msd mrt mps mqt mmd bd pa pS pR pG pP pQ kp kS kR kP kQ li ou (iI (i : Int)) = some 1 := by
  rw [bk_L_law_635]
  rcases h with h | h
  · have h0 := h
    obtain ⟨⟨rfl, rfl, rfl, rfl, rfl⟩, -⟩ := h
    have q1 : fn_L_ending 0 sd rt ps sq kg rn rc ou = some (1, sd, rt, ps, sq, kg, rn, rc, ou) := hd_b (show fn_B_ending 0 sd rt ps sq kg rn rc = some (1, 0, sd, rt, ps, sq, kg, rn, rc) from hd_b b_rw0 (hd_F ne10 rfl)) (hd_F ne10 (hd_T rfl rfl))
    have q2 : fn_M_ending mth 0 msd 0 (-1) mqt bd kp kS kR kP kQ = some (0, 1, msd, 0, -1, mqt, bd, kp, kS, kR, kP, kQ) := hd_T rfl (hd_b (m_ref1 mth) (hd_F ne10 rfl))
    exact hd_b q1 (hd_b q2 (hd_b rfl (hd_T rfl (hd_F ne10 (la_898 hi hL hk (Or.inl h0))))))
  · have h0 := h
    obtain ⟨⟨rfl, rfl⟩, n, G, cs, Q, hg, ⟨rfl, rfl, rfl, rfl, rfl, rfl⟩, ⟨rfl, rfl, rfl, rfl, rfl, rfl⟩, -⟩ := h
    have hp := hg.2.1 n (Nat.le_refl _)
    have hl : (lmp (G n)).length ≤ 415 := lms_len hp
    obtain ⟨rc', c1, c2⟩ := c_moves hp rn rc
    have cc := c_now hp
    have mc := m_chk hp
    obtain ⟨K', d1, -⟩ := m_anyMove hp (Q n) (kp, kS, kR, kP, kQ)
    have d1 : fn_M_anyMove (iI ((G n).2.1 : Int)) (iI ((G n).2.2.1 : Int)) (iI (((G n).2.2.2.1 : Int) - 1)) (Q n) (bq (G n).1) kp kS kR kP kQ = some (ge_z (!(lmp (G n)).isEmpty), iI ((G n).2.1 : Int), iI ((G n).2.2.1 : Int), iI (((G n).2.2.2.1 : Int) - 1), Q n, bq (G n).1, K'.1, K'.2.1, K'.2.2.1, K'.2.2.2.1, K'.2.2.2.2) := d1
    have fin : ∀ v : Int32, fn_B_ending 1 (iI ((G n).2.1 : Int)) (iI ((G n).2.2.1 : Int)) (iI (((G n).2.2.2.1 : Int) - 1)) (bq (G n).1) (kq (G n).2.2.2.2) rn rc = some (0, v, iI ((G n).2.1 : Int), iI ((G n).2.2.1 : Int), iI (((G n).2.2.2.1 : Int) - 1), bq (G n).1, kq (G n).2.2.2.2, iI ((lmp (G n)).length : Int), rc') → fn_M_ending mth 1 (iI ((G n).2.1 : Int)) (iI ((G n).2.2.1 : Int)) (iI (((G n).2.2.2.1 : Int) - 1)) (Q n) (bq (G n).1) kp kS kR kP kQ = some (v, 0, iI ((G n).2.1 : Int), iI ((G n).2.2.1 : Int), iI (((G n).2.2.2.1 : Int) - 1), Q n, bq (G n).1, K'.1, K'.2.1, K'.2.2.1, K'.2.2.2.1, K'.2.2.2.2) → bk_L_law_635 L xs k23 1 (iI ((G n).2.1 : Int)) (iI ((G n).2.2.1 : Int)) (iI (((G n).2.2.2.1 : Int) - 1)) (bq (G n).1) (kq (G n).2.2.2.2) (iI (n : Int)) bo ma qt yc yb rn rc rn0 rc0 rn1 rc1 rn2 rc2 rn3 rc3 mth 1 (iI ((G n).2.1 : Int)) (iI ((G n).2.2.1 : Int)) (iI (((G n).2.2.2.1 : Int) - 1)) (Q n) (iI (n : Int)) (bq (G n).1) pa pS pR pG pP pQ kp kS kR kP kQ li ou (iI (i : Int)) = some 1 := by
      intro v p1 p2
      have q1 : fn_L_ending 1 (iI ((G n).2.1 : Int)) (iI ((G n).2.2.1 : Int)) (iI (((G n).2.2.2.1 : Int) - 1)) (bq (G n).1) (kq (G n).2.2.2.2) rn rc ou = some (0, iI ((G n).2.1 : Int), iI ((G n).2.2.1 : Int), iI (((G n).2.2.2.1 : Int) - 1), bq (G n).1, kq (G n).2.2.2.2, iI ((lmp (G n)).length : Int), rc', vp_updL ou (0 : Int32).toNatClampNeg v.toInt64) := hd_b p1 (hd_T rfl (hd_ck (by decide) rfl))
      rw [bk_L_law_635]
      exact hd_b q1 (hd_b p2 (hd_b rfl (hd_T rfl (hd_T rfl (hd_ck (by decide) (hd_T ((lg_0 _ _).mpr (uL _ _ _)) (la_898 hi hL hk (Or.inr h0))))))))
    rw [← bk_L_law_635]
    cases hx : (lmp (G n)).isEmpty with
    | false =>
      rw [hx] at d1
      have hne : ¬ iI ((lmp (G n)).length : Int) ≤ 0 := by
        show ¬ iI _ ≤ iI 0
        rw [iI_le (by omega) (by omega) (by omega) (by omega)]
        intro z
        have : (lmp (G n)).length = 0 := by omega
        rw [List.isEmpty_iff_length_eq_zero.mpr this] at hx
        exact absurd hx (by decide)
      exact fin 0 (hd_b b_rw1 (hd_T rfl (hd_b c1 (hd_F hne rfl)))) (hd_F ne10 (hd_b (m_ref0 mth) (hd_T rfl (hd_b d1 (hd_F gzT rfl)))))
    | true =>
      rw [hx] at d1
      have hne : iI ((lmp (G n)).length : Int) ≤ 0 := by
        show iI _ ≤ iI 0
        rw [iI_le (by omega) (by omega) (by omega) (by omega), List.isEmpty_iff_length_eq_zero.mp hx]
        exact Int.le_refl _
      cases hy : chp (G n) with
      | false =>
        rw [hy] at cc mc
        exact fin 2 (hd_b b_rw1 (hd_T rfl (hd_b c1 (hd_T hne (hd_b cc (hd_T rfl rfl)))))) (hd_F ne10 (hd_b (m_ref0 mth) (hd_T rfl (hd_b d1 (hd_T rfl (hd_b mc (hd_T rfl rfl)))))))
      | true =>
        rw [hy] at cc mc
        exact fin 1 (hd_b b_rw1 (hd_T rfl (hd_b c1 (hd_T hne (hd_b cc (hd_F gzT rfl)))))) (hd_F ne10 (hd_b (m_ref0 mth) (hd_T rfl (hd_b d1 (hd_T rfl (hd_b mc (hd_F gzT rfl)))))))
theorem la_528 {L : Nat} {xs : Nat → Int32} {k23 : LK} {i : Nat} (hi : i + 4 ≤ L) (hL : L ≤ 2048) (hk : hkk k23 (iI ((i + 4 : Nat) : Int))) {pl : Int32} {sd : Int32} {rt : Int32} {ps : Int32} {sq : Nat → Int32} {kg : Nat → Int32} {md : Int32} {bo : Nat → Int64} {ma : Nat → Int32} {qt : Nat → Int32} {yc : Nat → Int32} {yb : Nat → Int32} {rn : Int32} {rc : Nat → Int32} {rn0 : Int32} {rc0 : Nat → Int32} {rn1 : Int32} {rc1 : Nat → Int32} {rn2 : Int32} {rc2 : Nat → Int32} {rn3 : Int32} {rc3 : Nat → Int32} {mth : Int32} {mpl : Int32} {msd : Int32} {mrt : Int32} {mps : Int32} {mqt : Int32} {mmd : Int32} {bd : Nat → Int32} {pa : Nat → Int32} {pS : Nat → Int32} {pR : Nat → Int32} {pG : Nat → Int32} {pP : Nat → Int32} {pQ : Nat → Int32} {kp : Nat → Int32} {kS : Nat → Int32} {kR : Nat → Int32} {kP : Nat → Int32} {kQ : Nat → Int32} {li : Nat → Int32} {ou : Nat → Int64} (h : Rl pl sd rt ps sq kg md bo ma qt yc yb mpl msd mrt mps mqt mmd bd pa pS pR pG pP pQ) : bk_L_law_528 L xs k23 pl sd rt ps sq kg md bo ma qt yc yb rn rc rn0 rc0 rn1 rc1 rn2 rc2 rn3 rc3 mth mpl msd mrt mps mqt mmd bd pa pS pR pG pP pQ kp kS kR kP kQ li ou (iI (i : Int)) = some 1 := by
  rw [bk_L_law_528]
  obtain ⟨x, x1, x2, ex⟩ := i_of (xs (iI (i : Int) + 1).toNatClampNeg)
  rw [ex]
  refine hd_ck (ix1 hi hL) ?_
  rcases h with h | h
  · have h0 := h
    obtain ⟨⟨rfl, rfl, rfl, rfl, rfl⟩, -⟩ := h
    have q1 : fn_L_nth 0 sd rt ps sq kg rn rc ou (iI x) = some (1, sd, rt, ps, sq, kg, rn, rc, ou) := hd_b (show fn_B_nth 0 sd rt ps sq kg rn rc (iI x) = some (1, 0, sd, rt, ps, sq, kg, rn, rc) from hd_b b_rw0 (hd_F ne10 rfl)) (hd_F ne10 (hd_T rfl rfl))
    have q2 : fn_M_nth mth 0 msd 0 (-1) mqt bd kp kS kR kP kQ li (iI x) = some (0, 1, msd, 0, -1, mqt, bd, kp, kS, kR, kP, kQ, li) := hd_T rfl (hd_b (m_ref1 mth) (hd_F ne10 rfl))
    exact hd_b q1 (hd_ck (ix1 hi hL) (hd_b q2 (hd_b rfl (hd_T rfl (hd_F ne10 (la_898 hi hL hk (Or.inl h0)))))))
  · have h0 := h
    obtain ⟨⟨rfl, rfl⟩, n, G, cs, Q, hg, ⟨rfl, rfl, rfl, rfl, rfl, rfl⟩, ⟨rfl, rfl, rfl, rfl, rfl, rfl⟩, -⟩ := h
    have hp := hg.2.1 n (Nat.le_refl _)
    have hl : (lmp (G n)).length ≤ 415 := lms_len hp
    obtain ⟨rc', c1, c2⟩ := c_moves hp rn rc
    obtain ⟨K', li', d1, d2⟩ := m_coll0 hp (Q n) (kp, kS, kR, kP, kQ) li
    have eo := @m_outside x 0 (((lmp (G n)).length : Int) - 1) (by omega) (by omega) (by omega) (by omega) (by omega) (by omega)
    have eo : fn_M_outside (iI x) 0 (iI ((lmp (G n)).length : Int) - 1) = some (ge_z (!(decide (0 ≤ x) && decide (x ≤ ((lmp (G n)).length : Int) - 1)))) := by
      rw [show (1 : Int32) = iI 1 from rfl, iI_sub]; exact eo
    by_cases hin : 0 ≤ x ∧ x < (lmp (G n)).length
    · rw [decide_eq_true hin.1, decide_eq_true (show x ≤ ((lmp (G n)).length : Int) - 1 by omega)] at eo
      have ec : (iI x).toNatClampNeg = x.toNat := iI_cl (by omega) (by omega)
      have hj : x.toNat < (lmp (G n)).length := by omega
      have ev : rc' (iI x).toNatClampNeg = iI (((lmp (G n))[x.toNat] : Nat) : Int) := by rw [ec]; exact c2 x.toNat hj
      have ev2 : li' (iI x).toNatClampNeg = iI (((lmp (G n))[x.toNat] : Nat) : Int) := by rw [ec]; exact d2 x.toNat hj
      have p1 : fn_B_nth 1 (iI ((G n).2.1 : Int)) (iI ((G n).2.2.1 : Int)) (iI (((G n).2.2.2.1 : Int) - 1)) (bq (G n).1) (kq (G n).2.2.2.2) rn rc (iI x) = some (0, iI (((lmp (G n))[x.toNat] : Nat) : Int), iI ((G n).2.1 : Int), iI ((G n).2.2.1 : Int), iI (((G n).2.2.2.1 : Int) - 1), bq (G n).1, kq (G n).2.2.2.2, iI ((lmp (G n)).length : Int), rc') := by
        rw [← ev]
        refine hd_b b_rw1 (hd_T rfl (hd_b c1 (hd_F ?_ (hd_T ?_ (hd_ck (iI_in (by omega) (by omega) (by omega)) rfl)))))
        · show ¬ iI _ < iI 0; rw [iI_lt (by omega) (by omega) (by omega) (by omega)]; omega
        · rw [iI_lt (by omega) (by omega) (by omega) (by omega)]; omega
      have q1 : fn_L_nth 1 (iI ((G n).2.1 : Int)) (iI ((G n).2.2.1 : Int)) (iI (((G n).2.2.2.1 : Int) - 1)) (bq (G n).1) (kq (G n).2.2.2.2) rn rc ou (iI x) = some (0, iI ((G n).2.1 : Int), iI ((G n).2.2.1 : Int), iI (((G n).2.2.2.1 : Int) - 1), bq (G n).1, kq (G n).2.2.2.2, iI ((lmp (G n)).length : Int), rc', vp_updL ou (0 : Int32).toNatClampNeg (iI (((lmp (G n))[x.toNat] : Nat) : Int)).toInt64) := hd_b p1 (hd_T rfl (hd_ck (by decide) rfl))
      have q2 : fn_M_nth mth 1 (iI ((G n).2.1 : Int)) (iI ((G n).2.2.1 : Int)) (iI (((G n).2.2.2.1 : Int) - 1)) (Q n) (bq (G n).1) kp kS kR kP kQ li (iI x) = some (iI (((lmp (G n))[x.toNat] : Nat) : Int), 0, iI ((G n).2.1 : Int), iI ((G n).2.2.1 : Int), iI (((G n).2.2.2.1 : Int) - 1), Q n, bq (G n).1, K'.1, K'.2.1, K'.2.2.1, K'.2.2.2.1, K'.2.2.2.2, li') := by
        rw [← ev2]
        exact hd_F ne10 (hd_b (m_ref0 mth) (hd_T rfl (hd_b d1 (hd_b eo (hd_T rfl (hd_b (m_ref0 0) (hd_T rfl (hd_ck (iI_in (by omega) (by omega) (by omega)) rfl))))))))
      exact hd_b q1 (hd_ck (ix1 hi hL) (hd_b q2 (hd_b rfl (hd_T rfl (hd_T rfl (hd_ck (by decide) (hd_T ((lg_0 _ _).mpr (uL _ _ _)) (la_898 hi hL hk (Or.inr h0)))))))))
    · have ho : (!(decide (0 ≤ x) && decide (x ≤ ((lmp (G n)).length : Int) - 1))) = true := by
        simp only [Bool.not_eq_true', Bool.and_eq_false_iff, decide_eq_false_iff_not]; omega
      rw [ho] at eo
      have p1 : fn_B_nth 1 (iI ((G n).2.1 : Int)) (iI ((G n).2.2.1 : Int)) (iI (((G n).2.2.2.1 : Int) - 1)) (bq (G n).1) (kq (G n).2.2.2.2) rn rc (iI x) = some (2, 0, iI ((G n).2.1 : Int), iI ((G n).2.2.1 : Int), iI (((G n).2.2.2.1 : Int) - 1), bq (G n).1, kq (G n).2.2.2.2, iI ((lmp (G n)).length : Int), rc') := by
        refine hd_b b_rw1 (hd_T rfl (hd_b c1 ?_))
        by_cases h2 : x < 0
        · exact hd_T (by show iI _ < iI 0; rw [iI_lt (by omega) (by omega) (by omega) (by omega)]; omega) rfl
        · exact hd_F (by show ¬ iI _ < iI 0; rw [iI_lt (by omega) (by omega) (by omega) (by omega)]; omega) (hd_F (by rw [iI_lt (by omega) (by omega) (by omega) (by omega)]; omega) rfl)
      have q1 : fn_L_nth 1 (iI ((G n).2.1 : Int)) (iI ((G n).2.2.1 : Int)) (iI (((G n).2.2.2.1 : Int) - 1)) (bq (G n).1) (kq (G n).2.2.2.2) rn rc ou (iI x) = some (2, iI ((G n).2.1 : Int), iI ((G n).2.2.1 : Int), iI (((G n).2.2.2.1 : Int) - 1), bq (G n).1, kq (G n).2.2.2.2, iI ((lmp (G n)).length : Int), rc', ou) := hd_b p1 (hd_F ne20 (hd_F ne21 (hd_T rfl rfl)))
      have q2 : fn_M_nth mth 1 (iI ((G n).2.1 : Int)) (iI ((G n).2.2.1 : Int)) (iI (((G n).2.2.2.1 : Int) - 1)) (Q n) (bq (G n).1) kp kS kR kP kQ li (iI x) = some (0, 2, iI ((G n).2.1 : Int), iI ((G n).2.2.1 : Int), iI (((G n).2.2.2.1 : Int) - 1), Q n, bq (G n).1, K'.1, K'.2.1, K'.2.2.1, K'.2.2.2.1, K'.2.2.2.2, li') := hd_F ne10 (hd_b (m_ref0 mth) (hd_T rfl (hd_b d1 (hd_b eo (hd_F gzT (hd_b (m_ref2 0) (hd_F ne10 rfl)))))))
      exact hd_b q1 (hd_ck (ix1 hi hL) (hd_b q2 (hd_b rfl (hd_T rfl (hd_F ne20 (la_898 hi hL hk (Or.inr h0)))))))
