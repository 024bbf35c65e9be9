/-! the law: how the class's fields and the model's go together, and the calls that only ask -/
abbrev LK : Type := Int32 → Int32 → Int32 → Int32 → (Nat → Int32) → (Nat → Int32) → Int32 → (Nat → Int64) → (Nat → Int32) → (Nat → Int32) → (Nat → Int32) → (Nat → Int32) → Int32 → (Nat → Int32) → Int32 → (Nat → Int32) → Int32 → (Nat → Int32) → Int32 → (Nat → Int32) → Int32 → (Nat → Int32) → Int32 → Int32 → Int32 → Int32 → Int32 → Int32 → Int32 → (Nat → Int32) → (Nat → Int32) → (Nat → Int32) → (Nat → Int32) → (Nat → Int32) → (Nat → Int32) → (Nat → Int32) → (Nat → Int32) → (Nat → Int32) → (Nat → Int32) → (Nat → Int32) → (Nat → Int32) → (Nat → Int32) → (Nat → Int64) → Int32 → Option Int32
def gok (n : Nat) (G : Nat → Ps) (cs : Nat → Nat) (Q : Nat → Int32) : Prop := n ≤ 150 ∧ (∀ j, j ≤ n → pvp (G j)) ∧ (∀ j, j < n → cs j ∈ lmp (G j) ∧ G (j + 1) = nxp (G j) (cs j) ∧ Q (j + 1) = qnc (G j) (cs j) (Q j))
def RlS (pl : Int32) (sd : Int32) (rt : Int32) (ps : Int32) (sq : Nat → Int32) (kg : Nat → Int32) (md : Int32) (bo : Nat → Int64) (ma : Nat → Int32) (qt : Nat → Int32) (yc : Nat → Int32) (yb : Nat → Int32) (mpl : Int32) (msd : Int32) (mrt : Int32) (mps : Int32) (mqt : Int32) (mmd : Int32) (bd : Nat → Int32) (pa : Nat → Int32) (pS : Nat → Int32) (pR : Nat → Int32) (pG : Nat → Int32) (pP : Nat → Int32) (pQ : Nat → Int32) : Prop := (pl = 0 ∧ mpl = 0 ∧ mmd = 0 ∧ mrt = 0 ∧ mps = -1) ∧ ∃ (b : Bd) (k : Nat → Nat), sq = bq b ∧ bd = bq b ∧ kg = kq k
def RlP (pl : Int32) (sd : Int32) (rt : Int32) (ps : Int32) (sq : Nat → Int32) (kg : Nat → Int32) (md : Int32) (bo : Nat → Int64) (ma : Nat → Int32) (qt : Nat → Int32) (yc : Nat → Int32) (yb : Nat → Int32) (mpl : Int32) (msd : Int32) (mrt : Int32) (mps : Int32) (mqt : Int32) (mmd : Int32) (bd : Nat → Int32) (pa : Nat → Int32) (pS : Nat → Int32) (pR : Nat → Int32) (pG : Nat → Int32) (pP : Nat → Int32) (pQ : Nat → Int32) : Prop := (pl = 1 ∧ mpl = 1) ∧ ∃ (n : Nat) (G : Nat → Ps) (cs : Nat → Nat) (Q : Nat → Int32), gok n G cs Q
  ∧ (sd = iI ((G n).2.1 : Int) ∧ rt = iI ((G n).2.2.1 : Int) ∧ ps = iI (((G n).2.2.2.1 : Int) - 1) ∧ sq = bq (G n).1 ∧ kg = kq (G n).2.2.2.2 ∧ md = iI (n : Int))
  ∧ (msd = iI ((G n).2.1 : Int) ∧ mrt = iI ((G n).2.2.1 : Int) ∧ mps = iI (((G n).2.2.2.1 : Int) - 1) ∧ bd = bq (G n).1 ∧ mqt = Q n ∧ mmd = iI (n : Int))
  ∧ hma n G bo ma ∧ (∀ j, j ≤ n → qt j = Q j) ∧ (∀ j, j < n → yc j = iI (cs j : Int) ∧ yb j = iI (bfc (G j) (cs j) : Int))
  ∧ hmo n G Q pa pS pR pG pP pQ
def Rl (pl : Int32) (sd : Int32) (rt : Int32) (ps : Int32) (sq : Nat → Int32) (kg : Nat → Int32) (md : Int32) (bo : Nat → Int64) (ma : Nat → Int32) (qt : Nat → Int32) (yc : Nat → Int32) (yb : Nat → Int32) (mpl : Int32) (msd : Int32) (mrt : Int32) (mps : Int32) (mqt : Int32) (mmd : Int32) (bd : Nat → Int32) (pa : Nat → Int32) (pS : Nat → Int32) (pR : Nat → Int32) (pG : Nat → Int32) (pP : Nat → Int32) (pQ : Nat → Int32) : Prop := RlS pl sd rt ps sq kg md bo ma qt yc yb mpl msd mrt mps mqt mmd bd pa pS pR pG pP pQ ∨ RlP pl sd rt ps sq kg md bo ma qt yc yb mpl msd mrt mps mqt mmd bd pa pS pR pG pP pQ
def hkk (k23 : LK) (v : Int32) : Prop := ∀ (pl : Int32) (sd : Int32) (rt : Int32) (ps : Int32) (sq : Nat → Int32) (kg : Nat → Int32) (md : Int32) (bo : Nat → Int64) (ma : Nat → Int32) (qt : Nat → Int32) (yc : Nat → Int32) (yb : Nat → Int32) (rn : Int32) (rc : Nat → Int32) (rn0 : Int32) (rc0 : Nat → Int32) (rn1 : Int32) (rc1 : Nat → Int32) (rn2 : Int32) (rc2 : Nat → Int32) (rn3 : Int32) (rc3 : Nat → Int32) (mth : Int32) (mpl : Int32) (msd : Int32) (mrt : Int32) (mps : Int32) (mqt : Int32) (mmd : Int32) (bd : Nat → Int32) (pa : Nat → Int32) (pS : Nat → Int32) (pR : Nat → Int32) (pG : Nat → Int32) (pP : Nat → Int32) (pQ : Nat → Int32) (kp : Nat → Int32) (kS : Nat → Int32) (kR : Nat → Int32) (kP : Nat → Int32) (kQ : Nat → Int32) (li : Nat → Int32) (ou : Nat → Int64), Rl pl sd rt ps sq kg md bo ma qt yc yb mpl msd mrt mps mqt mmd bd pa pS pR pG pP pQ → k23 pl sd rt ps sq kg md bo ma qt yc yb rn rc rn0 rc0 rn1 rc1 rn2 rc2 rn3 rc3 mth mpl msd mrt mps mqt mmd bd pa pS pR pG pP pQ kp kS kR kP kQ li ou v = some 1
theorem i4s (i : Nat) : iI (i : Int) + 4 = iI ((i + 4 : Nat) : Int) := by
  show iI _ + iI 4 = _
  rw [iI_add]; congr 1
theorem la_898 {L : Nat} {xs : Nat → Int32} {k23 : LK} {i : Nat} (hi : i + 4 ≤ L) (hL : L ≤ 2048) (hk : hkk k23 (iI ((i + 4 : Nat) : Int))) {pl : Int32} {sd : Int32} {rt : Int32} {ps : Int32} {sq : Nat → Int32} {kg : Nat → Int32} {md : Int32} {bo : Nat → Int64} {ma : Nat → Int32} {qt : Nat → Int32} {yc : Nat → Int32} {yb : Nat → Int32} {rn : Int32} {rc : Nat → Int32} {rn0 : Int32} {rc0 : Nat → Int32} {rn1 : Int32} {rc1 : Nat → Int32} {rn2 : Int32} {rc2 : Nat → Int32} {rn3 : Int32} {rc3 : Nat → Int32} {mth : Int32} {mpl : Int32} {msd : Int32} {mrt : Int32} {mps : Int32} {mqt : Int32} {mmd : Int32} {bd : Nat → Int32} {pa : Nat → Int32} {pS : Nat → Int32} {pR : Nat → Int32} {pG : Nat → Int32} {pP : Nat → Int32} {pQ : Nat → Int32} {kp : Nat → Int32} {kS : Nat → Int32} {kR : Nat → Int32} {kP : Nat → Int32} {kQ : Nat → Int32} {li : Nat → Int32} {ou : Nat → Int64} (h : Rl pl sd rt ps sq kg md bo ma qt yc yb mpl msd mrt mps mqt mmd bd pa pS pR pG pP pQ) : bk_L_law_898 L xs k23 pl sd rt ps sq kg md bo ma qt yc yb rn rc rn0 rc0 rn1 rc1 rn2 rc2 rn3 rc3 mth mpl msd mrt mps mqt mmd bd pa pS pR pG pP pQ kp kS kR kP kQ li ou (iI (i : Int)) = some 1 := by
  rw [bk_L_law_898]
  show k23 _ _ _ _ _ _ _ _ _ _ _ _ _ _ _ _ _ _ _ _ _ _ _ _ _ _ _ _ _ _ _ _ _ _ _ _ _ _ _ _ _ _ _ (iI (i : Int) + 4) = _
  rw [i4s]
  apply hk
  exact h
theorem ixk {L : Nat} {i d : Nat} (hi : i + 4 ≤ L) (hL : L ≤ 2048) (hd : d < 4) : iI (i : Int) + iI (d : Int) = iI ((i + d : Nat) : Int) ∧ qq_in (iI ((i + d : Nat) : Int)) L = true ∧ (iI ((i + d : Nat) : Int)).toNatClampNeg = i + d := by
  refine ⟨?_, iI_in (by omega) (by omega) (by omega), iI_cn (by omega)⟩
  rw [iI_add]; congr 1
theorem ix1 {L : Nat} {i : Nat} (hi : i + 4 ≤ L) (hL : L ≤ 2048) : qq_in (iI (i : Int) + 1) L = true := by
  have := ixk hi hL (show 1 < 4 by omega)
  rw [show (1 : Int32) = iI ((1 : Nat) : Int) from rfl, this.1]; exact this.2.1
theorem ix2 {L : Nat} {i : Nat} (hi : i + 4 ≤ L) (hL : L ≤ 2048) : qq_in (iI (i : Int) + 2) L = true := by
  have := ixk hi hL (show 2 < 4 by omega)
  rw [show (2 : Int32) = iI ((2 : Nat) : Int) from rfl, this.1]; exact this.2.1
theorem ix3 {L : Nat} {i : Nat} (hi : i + 4 ≤ L) (hL : L ≤ 2048) : qq_in (iI (i : Int) + 3) L = true := by
  have := ixk hi hL (show 3 < 4 by omega)
  rw [show (3 : Int32) = iI ((3 : Nat) : Int) from rfl, this.1]; exact this.2.1
theorem uL (f : Nat → Int64) (k : Nat) (x : Int64) : vp_updL f k x k = x := if_pos rfl
theorem la_407 {L : Nat} {xs : Nat → Int32} {k23 : LK} {i : Nat} (hi : i + 4 ≤ L) (hL : L ≤ 2048) (hk : hkk k23 (iI ((i + 4 : Nat) : Int))) {pl : Int32} {sd : Int32} {rt : Int32} {ps : Int32} {sq : Nat → Int32} {kg : Nat → Int32} {md : Int32} {bo : Nat → Int64} {ma : Nat → Int32} {qt : Nat → Int32} {yc : Nat → Int32} {yb : Nat → Int32} {rn : Int32} {rc : Nat → Int32} {rn0 : Int32} {rc0 : Nat → Int32} {rn1 : Int32} {rc1 : Nat → Int32} {rn2 : Int32} {rc2 : Nat → Int32} {rn3 : Int32} {rc3 : Nat → Int32} {mth : Int32} {mpl : Int32} {msd : Int32} {mrt : Int32} {mps : Int32} {mqt : Int32} {mmd : Int32} {bd : Nat → Int32} {pa : Nat → Int32} {pS : Nat → Int32} {pR : Nat → Int32} {pG : Nat → Int32} {pP : Nat → Int32} {pQ : Nat → Int32} {kp : Nat → Int32} {kS : Nat → Int32} {kR : Nat → Int32} {kP : Nat → Int32} {kQ : Nat → Int32} {li : Nat → Int32} {ou : Nat → Int64} (h : Rl pl sd rt ps sq kg md bo ma qt yc yb mpl msd mrt mps mqt mmd bd pa pS pR pG pP pQ) : bk_L_law_407 L xs k23 pl sd rt ps sq kg md bo ma qt yc yb rn rc rn0 rc0 rn1 rc1 rn2 rc2 rn3 rc3 mth mpl msd mrt mps mqt mmd bd pa pS pR pG pP pQ kp kS kR kP kQ li ou (iI (i : Int)) = some 1 := by
  rw [bk_L_law_407]
  rcases h with h | h
  · have h0 := h
    obtain ⟨⟨rfl, rfl, rfl, rfl, rfl⟩, -⟩ := h
    exact hd_b (show fn_B_made 0 md = some 0 from hd_T rfl rfl) (hd_b rfl (hd_T rfl (la_898 hi hL hk (Or.inl h0))))
  · have h0 := h
    obtain ⟨⟨rfl, rfl⟩, n, G, cs, Q, hg, ⟨-, -, -, -, -, rfl⟩, ⟨-, -, -, -, -, rfl⟩, -⟩ := h
    exact hd_b (show fn_B_made 1 (iI (n : Int)) = some (iI (n : Int)) from hd_F (by decide) rfl) (hd_b rfl (hd_T rfl (la_898 hi hL hk (Or.inr h0))))
theorem b_square {z : Int} (hz : i32 z) : fn_B_isSquare (iI z) = some (ge_z (decide (0 ≤ z ∧ z ≤ 63))) := by
  rw [i32] at hz
  rw [fn_B_isSquare]
  by_cases h1 : z < 0
  · refine hd_T (by show iI _ < iI 0; rw [iI_lt (by omega) (by omega) (by omega) (by omega)]; omega) ?_
    rw [decide_eq_false (by omega)]
    show bk_B_isSquare_15 _ 0 = _
    exact hd_ck (by decide) rfl
  · refine hd_F (by show ¬ iI _ < iI 0; rw [iI_lt (by omega) (by omega) (by omega) (by omega)]; omega) ?_
    by_cases h2 : 64 ≤ z
    · refine hd_T (by show iI 64 ≤ iI _; rw [iI_le (by omega) (by omega) (by omega) (by omega)]; omega) ?_
      rw [decide_eq_false (by omega)]
      show bk_B_isSquare_15 _ 0 = _
      exact hd_ck (by decide) rfl
    · refine hd_F (by show ¬ iI 64 ≤ iI _; rw [iI_le (by omega) (by omega) (by omega) (by omega)]; omega) ?_
      rw [decide_eq_true (by omega)]
      exact hd_ck (by decide) rfl
theorem m_out63 {z : Int} (hz : i32 z) : fn_M_outside (iI z) 0 63 = some (ge_z (!decide (0 ≤ z ∧ z ≤ 63))) := by
  rw [i32] at hz
  have := @m_outside z 0 63 (by omega) (by omega) (by omega) (by omega) (by omega) (by omega)
  have e : (decide (0 ≤ z) && decide (z ≤ 63)) = decide (0 ≤ z ∧ z ≤ 63) := (Bool.decide_and _ _).symm
  rw [e] at this
  exact this
theorem rl_bd {pl : Int32} {sd : Int32} {rt : Int32} {ps : Int32} {sq : Nat → Int32} {kg : Nat → Int32} {md : Int32} {bo : Nat → Int64} {ma : Nat → Int32} {qt : Nat → Int32} {yc : Nat → Int32} {yb : Nat → Int32} {mpl : Int32} {msd : Int32} {mrt : Int32} {mps : Int32} {mqt : Int32} {mmd : Int32} {bd : Nat → Int32} {pa : Nat → Int32} {pS : Nat → Int32} {pR : Nat → Int32} {pG : Nat → Int32} {pP : Nat → Int32} {pQ : Nat → Int32} (h : Rl pl sd rt ps sq kg md bo ma qt yc yb mpl msd mrt mps mqt mmd bd pa pS pR pG pP pQ) : ∃ b : Bd, sq = bq b ∧ bd = bq b := by
  rcases h with ⟨-, b, k, h1, h2, -⟩ | ⟨-, n, G, cs, Q, -, ⟨-, -, -, h1, -⟩, ⟨-, -, -, h2, -⟩, -⟩
  · exact ⟨b, h1, h2⟩
  · exact ⟨(G n).1, h1, h2⟩
theorem la_420 {L : Nat} {xs : Nat → Int32} {k23 : LK} {i : Nat} (hi : i + 4 ≤ L) (hL : L ≤ 2048) (hk : hkk k23 (iI ((i + 4 : Nat) : Int))) {pl : Int32} {sd : Int32} {rt : Int32} {ps : Int32} {sq : Nat → Int32} {kg : Nat → Int32} {md : Int32} {bo : Nat → Int64} {ma : Nat → Int32} {qt : Nat → Int32} {yc : Nat → Int32} {yb : Nat → Int32} {rn : Int32} {rc : Nat → Int32} {rn0 : Int32} {rc0 : Nat → Int32} {rn1 : Int32} {rc1 : Nat → Int32} {rn2 : Int32} {rc2 : Nat → Int32} {rn3 : Int32} {rc3 : Nat → Int32} {mth : Int32} {mpl : Int32} {msd : Int32} {mrt : Int32} {mps : Int32} {mqt : Int32} {mmd : Int32} {bd : Nat → Int32} {pa : Nat → Int32} {pS : Nat → Int32} {pR : Nat → Int32} {pG : Nat → Int32} {pP : Nat → Int32} {pQ : Nat → Int32} {kp : Nat → Int32} {kS : Nat → Int32} {kR : Nat → Int32} {kP : Nat → Int32} {kQ : Nat → Int32} {li : Nat → Int32} {ou : Nat → Int64} (h : Rl pl sd rt ps sq kg md bo ma qt yc yb mpl msd mrt mps mqt mmd bd pa pS pR pG pP pQ) : bk_L_law_420 L xs k23 pl sd rt ps sq kg md bo ma qt yc yb rn rc rn0 rc0 rn1 rc1 rn2 rc2 rn3 rc3 mth mpl msd mrt mps mqt mmd bd pa pS pR pG pP pQ kp kS kR kP kQ li ou (iI (i : Int)) = some 1 := by
  rw [bk_L_law_420]
  obtain ⟨z, z1, z2, ez⟩ := i_of (xs (iI (i : Int) + 1).toNatClampNeg)
  obtain ⟨b, hb1, hb2⟩ := rl_bd h
  have hz : i32 z := ⟨z1, z2⟩
  have eB := b_square hz
  have eM := m_out63 hz
  rw [ez]
  have tail := la_898 hi hL hk (mth := 0) h (rn := rn) (rc := rc) (rn0 := rn0) (rc0 := rc0) (rn1 := rn1) (rc1 := rc1) (rn2 := rn2) (rc2 := rc2) (rn3 := rn3) (rc3 := rc3) (kp := kp) (kS := kS) (kR := kR) (kP := kP) (kQ := kQ) (li := li) (ou := ou) (L := L) (xs := xs)
  refine hd_ck (ix1 hi hL) ?_
  by_cases hin : 0 ≤ z ∧ z ≤ 63
  · rw [decide_eq_true hin] at eB eM
    have q1 : fn_B_at sq (iI z) = some (sq (iI z).toNatClampNeg) := hd_b eB (hd_F gzT (hd_ck (iI_in (by omega) (by omega) (by omega)) rfl))
    have q2 : fn_M_at mth bd (iI z) = some (bd (iI z).toNatClampNeg, 0) := hd_b eM (hd_T rfl (hd_ck (iI_in (by omega) (by omega) (by omega)) rfl))
    refine hd_b q1 (hd_ck (ix1 hi hL) (hd_b q2 (hd_T ?_ tail)))
    rw [hb1, hb2]
  · rw [decide_eq_false hin] at eB eM
    have q1 : fn_B_at sq (iI z) = some 0 := hd_b eB (hd_T rfl rfl)
    have q2 : fn_M_at mth bd (iI z) = some (0, 0) := hd_b eM (hd_F gzT rfl)
    exact hd_b q1 (hd_ck (ix1 hi hL) (hd_b q2 (hd_T rfl tail)))
theorem la_445 {L : Nat} {xs : Nat → Int32} {k23 : LK} {i : Nat} (hi : i + 4 ≤ L) (hL : L ≤ 2048) (hk : hkk k23 (iI ((i + 4 : Nat) : Int))) {pl : Int32} {sd : Int32} {rt : Int32} {ps : Int32} {sq : Nat → Int32} {kg : Nat → Int32} {md : Int32} {bo : Nat → Int64} {ma : Nat → Int32} {qt : Nat → Int32} {yc : Nat → Int32} {yb : Nat → Int32} {rn : Int32} {rc : Nat → Int32} {rn0 : Int32} {rc0 : Nat → Int32} {rn1 : Int32} {rc1 : Nat → Int32} {rn2 : Int32} {rc2 : Nat → Int32} {rn3 : Int32} {rc3 : Nat → Int32} {mth : Int32} {mpl : Int32} {msd : Int32} {mrt : Int32} {mps : Int32} {mqt : Int32} {mmd : Int32} {bd : Nat → Int32} {pa : Nat → Int32} {pS : Nat → Int32} {pR : Nat → Int32} {pG : Nat → Int32} {pP : Nat → Int32} {pQ : Nat → Int32} {kp : Nat → Int32} {kS : Nat → Int32} {kR : Nat → Int32} {kP : Nat → Int32} {kQ : Nat → Int32} {li : Nat → Int32} {ou : Nat → Int64} (h : Rl pl sd rt ps sq kg md bo ma qt yc yb mpl msd mrt mps mqt mmd bd pa pS pR pG pP pQ) : bk_L_law_445 L xs k23 pl sd rt ps sq kg md bo ma qt yc yb rn rc rn0 rc0 rn1 rc1 rn2 rc2 rn3 rc3 mth mpl msd mrt mps mqt mmd bd pa pS pR pG pP pQ kp kS kR kP kQ li ou (iI (i : Int)) = some 1 := by
  rw [bk_L_law_445]
  rcases h with h | h
  · have h0 := h
    obtain ⟨⟨rfl, rfl, rfl, rfl, rfl⟩, -⟩ := h
    exact hd_b (show fn_B_side 0 sd = some (-1) from hd_T rfl rfl) (hd_b (show fn_M_side mth 0 msd = some (-1, 0) from hd_T rfl rfl) (hd_T rfl (la_898 hi hL hk (Or.inl h0))))
  · have h0 := h
    obtain ⟨⟨rfl, rfl⟩, n, G, cs, Q, hg, ⟨rfl, -⟩, ⟨rfl, -⟩, -⟩ := h
    exact hd_b (show fn_B_side 1 (iI ((G n).2.1 : Int)) = some (iI ((G n).2.1 : Int)) from hd_F (by decide) rfl) (hd_b (show fn_M_side mth 1 (iI ((G n).2.1 : Int)) = some (iI ((G n).2.1 : Int), 0) from hd_F (by decide) rfl) (hd_T rfl (la_898 hi hL hk (Or.inr h0))))
theorem la_458 {L : Nat} {xs : Nat → Int32} {k23 : LK} {i : Nat} (hi : i + 4 ≤ L) (hL : L ≤ 2048) (hk : hkk k23 (iI ((i + 4 : Nat) : Int))) {pl : Int32} {sd : Int32} {rt : Int32} {ps : Int32} {sq : Nat → Int32} {kg : Nat → Int32} {md : Int32} {bo : Nat → Int64} {ma : Nat → Int32} {qt : Nat → Int32} {yc : Nat → Int32} {yb : Nat → Int32} {rn : Int32} {rc : Nat → Int32} {rn0 : Int32} {rc0 : Nat → Int32} {rn1 : Int32} {rc1 : Nat → Int32} {rn2 : Int32} {rc2 : Nat → Int32} {rn3 : Int32} {rc3 : Nat → Int32} {mth : Int32} {mpl : Int32} {msd : Int32} {mrt : Int32} {mps : Int32} {mqt : Int32} {mmd : Int32} {bd : Nat → Int32} {pa : Nat → Int32} {pS : Nat → Int32} {pR : Nat → Int32} {pG : Nat → Int32} {pP : Nat → Int32} {pQ : Nat → Int32} {kp : Nat → Int32} {kS : Nat → Int32} {kR : Nat → Int32} {kP : Nat → Int32} {kQ : Nat → Int32} {li : Nat → Int32} {ou : Nat → Int64} (h : Rl pl sd rt ps sq kg md bo ma qt yc yb mpl msd mrt mps mqt mmd bd pa pS pR pG pP pQ) : bk_L_law_458 L xs k23 pl sd rt ps sq kg md bo ma qt yc yb rn rc rn0 rc0 rn1 rc1 rn2 rc2 rn3 rc3 mth mpl msd mrt mps mqt mmd bd pa pS pR pG pP pQ kp kS kR kP kQ li ou (iI (i : Int)) = some 1 := by
  rw [bk_L_law_458]
  rcases h with h | h
  · have h0 := h
    obtain ⟨⟨rfl, rfl, rfl, rfl, rfl⟩, -⟩ := h
    exact hd_b (show fn_B_rights 0 rt = some 0 from hd_T rfl rfl) (hd_b rfl (hd_T rfl (la_898 hi hL hk (Or.inl h0))))
  · have h0 := h
    obtain ⟨⟨rfl, rfl⟩, n, G, cs, Q, hg, ⟨-, rfl, -⟩, ⟨-, rfl, -⟩, -⟩ := h
    exact hd_b (show fn_B_rights 1 (iI ((G n).2.2.1 : Int)) = some (iI ((G n).2.2.1 : Int)) from hd_F (by decide) rfl) (hd_b rfl (hd_T rfl (la_898 hi hL hk (Or.inr h0))))
theorem la_471 {L : Nat} {xs : Nat → Int32} {k23 : LK} {i : Nat} (hi : i + 4 ≤ L) (hL : L ≤ 2048) (hk : hkk k23 (iI ((i + 4 : Nat) : Int))) {pl : Int32} {sd : Int32} {rt : Int32} {ps : Int32} {sq : Nat → Int32} {kg : Nat → Int32} {md : Int32} {bo : Nat → Int64} {ma : Nat → Int32} {qt : Nat → Int32} {yc : Nat → Int32} {yb : Nat → Int32} {rn : Int32} {rc : Nat → Int32} {rn0 : Int32} {rc0 : Nat → Int32} {rn1 : Int32} {rc1 : Nat → Int32} {rn2 : Int32} {rc2 : Nat → Int32} {rn3 : Int32} {rc3 : Nat → Int32} {mth : Int32} {mpl : Int32} {msd : Int32} {mrt : Int32} {mps : Int32} {mqt : Int32} {mmd : Int32} {bd : Nat → Int32} {pa : Nat → Int32} {pS : Nat → Int32} {pR : Nat → Int32} {pG : Nat → Int32} {pP : Nat → Int32} {pQ : Nat → Int32} {kp : Nat → Int32} {kS : Nat → Int32} {kR : Nat → Int32} {kP : Nat → Int32} {kQ : Nat → Int32} {li : Nat → Int32} {ou : Nat → Int64} (h : Rl pl sd rt ps sq kg md bo ma qt yc yb mpl msd mrt mps mqt mmd bd pa pS pR pG pP pQ) : bk_L_law_471 L xs k23 pl sd rt ps sq kg md bo ma qt yc yb rn rc rn0 rc0 rn1 rc1 rn2 rc2 rn3 rc3 mth mpl msd mrt mps mqt mmd bd pa pS pR pG pP pQ kp kS kR kP kQ li ou (iI (i : Int)) = some 1 := by
  rw [bk_L_law_471]
  rcases h with h | h
  · have h0 := h
    obtain ⟨⟨rfl, rfl, rfl, rfl, rfl⟩, -⟩ := h
    exact hd_b (show fn_B_passed 0 ps = some (-1) from hd_T rfl rfl) (hd_b rfl (hd_T rfl (la_898 hi hL hk (Or.inl h0))))
  · have h0 := h
    obtain ⟨⟨rfl, rfl⟩, n, G, cs, Q, hg, ⟨-, -, rfl, -⟩, ⟨-, -, rfl, -⟩, -⟩ := h
    exact hd_b (show fn_B_passed 1 (iI (((G n).2.2.2.1 : Int) - 1)) = some (iI (((G n).2.2.2.1 : Int) - 1)) from hd_F (by decide) rfl) (hd_b rfl (hd_T rfl (la_898 hi hL hk (Or.inr h0))))
theorem b_rw0 : fn_B_refuseWhileSet 0 = some 1 := hd_T rfl rfl
theorem b_rw1 : fn_B_refuseWhileSet 1 = some 0 := hd_F (by decide) rfl
theorem b_ri0 : fn_B_refuseInPlay 0 = some 0 := hd_T rfl rfl
theorem b_ri1 : fn_B_refuseInPlay 1 = some 1 := hd_F (by decide) rfl
theorem ne10 : ¬ (1 : Int32) = 0 := by decide
theorem ne20 : ¬ (2 : Int32) = 0 := by decide
theorem ne21 : ¬ (2 : Int32) = 1 := by decide
theorem la_679 {L : Nat} {xs : Nat → Int32} {k23 : LK} {i : Nat} (hi : i + 4 ≤ L) (hL : L ≤ 2048) (hk : hkk k23 (iI ((i + 4 : Nat) : Int))) {pl : Int32} {sd : Int32} {rt : Int32} {ps : Int32} {sq : Nat → Int32} {kg : Nat → Int32} {md : Int32} {bo : Nat → Int64} {ma : Nat → Int32} {qt : Nat → Int32} {yc : Nat → Int32} {yb : Nat → Int32} {rn : Int32} {rc : Nat → Int32} {rn0 : Int32} {rc0 : Nat → Int32} {rn1 : Int32} {rc1 : Nat → Int32} {rn2 : Int32} {rc2 : Nat → Int32} {rn3 : Int32} {rc3 : Nat → Int32} {mth : Int32} {mpl : Int32} {msd : Int32} {mrt : Int32} {mps : Int32} {mqt : Int32} {mmd : Int32} {bd : Nat → Int32} {pa : Nat → Int32} {pS : Nat → Int32} {pR : Nat → Int32} {pG : Nat → Int32} {pP : Nat → Int32} {pQ : Nat → Int32} {kp : Nat → Int32} {kS : Nat → Int32} {kR : Nat → Int32} {kP : Nat → Int32} {kQ : Nat → Int32} {li : Nat → Int32} {ou : Nat → Int64} (h : Rl pl sd rt ps sq kg md bo ma qt yc yb mpl msd mrt mps mqt mmd bd pa pS pR pG pP pQ) : bk_L_law_679 L xs k23 pl sd rt ps sq kg md bo ma qt yc yb rn rc rn0 rc0 rn1 rc1 rn2 rc2 rn3 rc3 mth mpl msd mrt mps mqt mmd bd pa pS pR pG pP pQ kp kS kR kP kQ li ou (iI (i : Int)) = some 1 := by
  rw [bk_L_law_679]
  rcases h with h | h
  · have h0 := h
    obtain ⟨⟨rfl, rfl, rfl, rfl, rfl⟩, -⟩ := h
    have q1 : fn_L_quiet 0 md qt ou = some (1, ou) := hd_b (show fn_B_quiet 0 md qt = some (1, 0) from hd_b b_rw0 (hd_F ne10 rfl)) (hd_F ne10 (hd_T rfl rfl))
    have q2 : fn_M_quiet mth 0 mqt = some (0, 1) := hd_T rfl (hd_b (m_ref1 mth) (hd_F ne10 rfl))
    exact hd_b q1 (hd_b q2 (hd_b rfl (hd_T rfl (hd_F ne10 (la_898 hi hL hk (Or.inl h0))))))
  · have h0 := h
    obtain ⟨⟨rfl, rfl⟩, n, G, cs, Q, hg, ⟨-, -, -, -, -, rfl⟩, ⟨-, -, -, -, rfl, -⟩, -, hq, -⟩ := h
    have hn := hg.1
    have q1 : fn_L_quiet 1 (iI (n : Int)) qt ou = some (0, vp_updL ou (0 : Int32).toNatClampNeg (Q n).toInt64) := by
      refine hd_b (show fn_B_quiet 1 (iI (n : Int)) qt = some (0, Q n) from hd_b b_rw1 (hd_T rfl (hd_b ?_ rfl))) (hd_T rfl (hd_ck (by decide) rfl))
      rw [fn_H_quietNow, iI_cn (by omega), hq n (Nat.le_refl _)]
      exact hd_ck (iI_in (by omega) (by omega) (by omega)) rfl
    have q2 : fn_M_quiet mth 1 (Q n) = some (Q n, 0) := hd_F ne10 (hd_b (m_ref0 mth) (hd_T rfl rfl))
    exact hd_b q1 (hd_b q2 (hd_b rfl (hd_T rfl (hd_T rfl (hd_ck (by decide) (hd_T ((lg_0 _ _).mpr (uL _ _ _)) (la_898 hi hL hk (Or.inr h0))))))))
theorem la_723 {L : Nat} {xs : Nat → Int32} {k23 : LK} {i : Nat} (hi : i + 4 ≤ L) (hL : L ≤ 2048) (hk : hkk k23 (iI ((i + 4 : Nat) : Int))) {pl : Int32} {sd : Int32} {rt : Int32} {ps : Int32} {sq : Nat → Int32} {kg : Nat → Int32} {md : Int32} {bo : Nat → Int64} {ma : Nat → Int32} {qt : Nat → Int32} {yc : Nat → Int32} {yb : Nat → Int32} {rn : Int32} {rc : Nat → Int32} {rn0 : Int32} {rc0 : Nat → Int32} {rn1 : Int32} {rc1 : Nat → Int32} {rn2 : Int32} {rc2 : Nat → Int32} {rn3 : Int32} {rc3 : Nat → Int32} {mth : Int32} {mpl : Int32} {msd : Int32} {mrt : Int32} {mps : Int32} {mqt : Int32} {mmd : Int32} {bd : Nat → Int32} {pa : Nat → Int32} {pS : Nat → Int32} {pR : Nat → Int32} {pG : Nat → Int32} {pP : Nat → Int32} {pQ : Nat → Int32} {kp : Nat → Int32} {kS : Nat → Int32} {kR : Nat → Int32} {kP : Nat → Int32} {kQ : Nat → Int32} {li : Nat → Int32} {ou : Nat → Int64} (h : Rl pl sd rt ps sq kg md bo ma qt yc yb mpl msd mrt mps mqt mmd bd pa pS pR pG pP pQ) : bk_L_law_723 L xs k23 pl sd rt ps sq kg md bo ma qt yc yb rn rc rn0 rc0 rn1 rc1 rn2 rc2 rn3 rc3 mth mpl msd mrt mps mqt mmd bd pa pS pR pG pP pQ kp kS kR kP kQ li ou (iI (i : Int)) = some 1 := by
  rw [bk_L_law_723]
  rcases h with h | h
  · have h0 := h
    obtain ⟨⟨rfl, rfl, rfl, rfl, rfl⟩, -⟩ := h
    have q1 : fn_L_seen 0 md bo ma ou = some (1, ou) := hd_b (show fn_B_seen 0 md bo ma = some (1, 0) from hd_b b_rw0 (hd_F ne10 rfl)) (hd_F ne10 (hd_T rfl rfl))
    have q2 : fn_M_seen mth 0 0 pa pS pR pG = some (0, 1) := hd_T rfl (hd_b (m_ref1 mth) (hd_F ne10 rfl))
    exact hd_b q1 (hd_b q2 (hd_b rfl (hd_T rfl (hd_F ne10 (la_898 hi hL hk (Or.inl h0))))))
  · have h0 := h
    obtain ⟨⟨rfl, rfl⟩, n, G, cs, Q, hg, ⟨-, -, -, -, -, rfl⟩, ⟨-, -, -, -, -, rfl⟩, hm, -, -, ho⟩ := h
    have c1 := h_count hm hg.1 hg.2.1
    have c2 := m_seen_lo ho hg.1 hg.2.1 1 0
    have q1 : fn_L_seen 1 (iI (n : Int)) bo ma ou = some (0, vp_updL ou (0 : Int32).toNatClampNeg (iI (scn G n 0 (n + 1) : Int)).toInt64) := hd_b (show fn_B_seen 1 (iI (n : Int)) bo ma = some (0, _) from hd_b b_rw1 (hd_T rfl (hd_b c1 rfl))) (hd_T rfl (hd_ck (by decide) rfl))
    have q2 : fn_M_seen mth 1 (iI (n : Int)) pa pS pR pG = some (iI (scn G n 0 (n + 1) : Int), 0) := hd_F ne10 (hd_b (m_ref0 mth) (hd_T rfl c2))
    exact hd_b q1 (hd_b q2 (hd_b rfl (hd_T rfl (hd_T rfl (hd_ck (by decide) (hd_T ((lg_0 _ _).mpr (uL _ _ _)) (la_898 hi hL hk (Or.inr h0))))))))
theorem la_584 {L : Nat} {xs : Nat → Int32} {k23 : LK} {i : Nat} (hi : i + 4 ≤ L) (hL : L ≤ 2048) (hk : hkk k23 (iI ((i + 4 : Nat) : Int))) {pl : Int32} {sd : Int32} {rt : Int32} {ps : Int32} {sq : Nat → Int32} {kg : Nat → Int32} {md : Int32} {bo : Nat → Int64} {ma : Nat → Int32} {qt : Nat → Int32} {yc : Nat → Int32} {yb : Nat → Int32} {rn : Int32} {rc : Nat → Int32} {rn0 : Int32} {rc0 : Nat → Int32} {rn1 : Int32} {rc1 : Nat → Int32} {rn2 : Int32} {rc2 : Nat → Int32} {rn3 : Int32} {rc3 : Nat → Int32} {mth : Int32} {mpl : Int32} {msd : Int32} {mrt : Int32} {mps : Int32} {mqt : Int32} {mmd : Int32} {bd : Nat → Int32} {pa : Nat → Int32} {pS : Nat → Int32} {pR : Nat → Int32} {pG : Nat → Int32} {pP : Nat → Int32} {pQ : Nat → Int32} {kp : Nat → Int32} {kS : Nat → Int32} {kR : Nat → Int32} {kP : Nat → Int32} {kQ : Nat → Int32} {li : Nat → Int32} {ou : Nat → Int64} (h : Rl pl sd rt ps sq kg md bo ma qt yc yb mpl msd mrt mps mqt mmd bd pa pS pR pG pP pQ) : bk_L_law_584 L xs k23 pl sd rt ps sq kg md bo ma qt yc yb rn rc rn0 rc0 rn1 rc1 rn2 rc2 rn3 rc3 mth mpl msd mrt mps mqt mmd bd pa pS pR pG pP pQ kp kS kR kP kQ li ou (iI (i : Int)) = some 1 := by
  rw [bk_L_law_584]
  rcases h with h | h
  · have h0 := h
    obtain ⟨⟨rfl, rfl, rfl, rfl, rfl⟩, -⟩ := h
    have q1 : fn_L_check 0 sd sq kg ou = some (1, ou) := hd_b (show fn_B_check 0 sd sq kg = some (1, 0) from hd_b b_rw0 (hd_F ne10 rfl)) (hd_F ne10 (hd_T rfl rfl))
    have q2 : fn_M_check mth 0 msd bd = some (0, 1) := hd_T rfl (hd_b (m_ref1 mth) (hd_F ne10 (show bk_M_check_35 0 msd bd 1 0 = _ from hd_ck (by decide) rfl)))
    exact hd_b q1 (hd_b q2 (hd_b rfl (hd_T rfl (hd_F ne10 (la_898 hi hL hk (Or.inl h0))))))
  · have h0 := h
    obtain ⟨⟨rfl, rfl⟩, n, G, cs, Q, hg, ⟨rfl, rfl, rfl, rfl, rfl, rfl⟩, ⟨rfl, rfl, rfl, rfl, rfl, rfl⟩, -⟩ := h
    have hp := hg.2.1 n (Nat.le_refl _)
    have c1 := c_now hp
    have c2 := m_chk hp
    have tail : ∀ ou' mth', bk_L_law_898 L xs k23 _ _ _ _ _ _ _ _ _ _ _ _ rn rc rn0 rc0 rn1 rc1 rn2 rc2 rn3 rc3 mth' _ _ _ _ _ _ _ _ _ _ _ _ _ kp kS kR kP kQ li ou' (iI (i : Int)) = some 1 := fun ou' mth' => la_898 hi hL hk (Or.inr h0)
    cases hx : chp (G n) with
    | false =>
      rw [hx] at c1 c2
      have q1 : fn_L_check 1 (iI ((G n).2.1 : Int)) (bq (G n).1) (kq (G n).2.2.2.2) ou = some (0, vp_updL ou (0 : Int32).toNatClampNeg 0) := hd_b (show fn_B_check 1 _ _ _ = some (0, 0) from hd_b b_rw1 (hd_T rfl (hd_b c1 (hd_ck (by decide) rfl)))) (hd_T rfl (hd_T rfl (hd_ck (by decide) rfl)))
      have q2 : fn_M_check mth 1 (iI ((G n).2.1 : Int)) (bq (G n).1) = some (0, 0) := hd_F ne10 (hd_b (m_ref0 mth) (hd_T rfl (hd_b c2 (hd_T rfl (show bk_M_check_35 1 _ _ 0 0 = _ from hd_ck (by decide) rfl)))))
      refine hd_b q1 (hd_b q2 (hd_b rfl (hd_T rfl (hd_T rfl (hd_ck (by decide) (hd_T rfl ?_))))))
      rw [bk_L_law_626]
      exact hd_T ((lg_0 _ _).mpr (uL _ _ _)) (tail _ _)
    | true =>
      rw [hx] at c1 c2
      have q1 : fn_L_check 1 (iI ((G n).2.1 : Int)) (bq (G n).1) (kq (G n).2.2.2.2) ou = some (0, vp_updL ou (0 : Int32).toNatClampNeg 1) := hd_b (show fn_B_check 1 _ _ _ = some (0, 1) from hd_b b_rw1 (hd_T rfl (hd_b c1 (hd_ck (by decide) rfl)))) (hd_T rfl (hd_F ne10 (hd_ck (by decide) rfl)))
      have q2 : fn_M_check mth 1 (iI ((G n).2.1 : Int)) (bq (G n).1) = some (1, 0) := hd_F ne10 (hd_b (m_ref0 mth) (hd_T rfl (hd_b c2 (hd_F gzT (show bk_M_check_35 1 _ _ 0 1 = _ from hd_ck (by decide) rfl)))))
      refine hd_b q1 (hd_b q2 (hd_b rfl (hd_T rfl (hd_T rfl (hd_ck (by decide) (hd_F ne10 ?_))))))
      rw [bk_L_law_626]
      exact hd_T ((lg_0 _ _).mpr (uL _ _ _)) (tail _ _)
theorem b_side {z : Int} (hz : i32 z) : fn_B_isSide (iI z) = some (ge_z (decide (0 ≤ z ∧ z ≤ 1))) := by
  rw [i32] at hz
  by_cases h : 0 ≤ z ∧ z ≤ 1
  · rw [decide_eq_true h]
    rcases (show z = 0 ∨ z = 1 by omega) with rfl | rfl
    · decide
    · decide
  · rw [decide_eq_false h, fn_B_isSide]
    refine hd_F (by show ¬ iI _ = iI 0; rw [iI_eq (by omega) (by omega) (by omega) (by omega)]; omega) ?_
    refine hd_F (by show ¬ iI _ = iI 1; rw [iI_eq (by omega) (by omega) (by omega) (by omega)]; omega) ?_
    exact hd_ck (by decide) rfl
theorem m_out1 {z : Int} (hz : i32 z) : fn_M_outside (iI z) 0 1 = some (ge_z (!decide (0 ≤ z ∧ z ≤ 1))) := by
  rw [i32] at hz
  have := @m_outside z 0 1 (by omega) (by omega) (by omega) (by omega) (by omega) (by omega)
  have e : (decide (0 ≤ z) && decide (z ≤ 1)) = decide (0 ≤ z ∧ z ≤ 1) := (Bool.decide_and _ _).symm
  rw [e] at this
  exact this
theorem la_767 {L : Nat} {xs : Nat → Int32} {k23 : LK} {i : Nat} (hi : i + 4 ≤ L) (hL : L ≤ 2048) (hk : hkk k23 (iI ((i + 4 : Nat) : Int))) {pl : Int32} {sd : Int32} {rt : Int32} {ps : Int32} {sq : Nat → Int32} {kg : Nat → Int32} {md : Int32} {bo : Nat → Int64} {ma : Nat → Int32} {qt : Nat → Int32} {yc : Nat → Int32} {yb : Nat → Int32} {rn : Int32} {rc : Nat → Int32} {rn0 : Int32} {rc0 : Nat → Int32} {rn1 : Int32} {rc1 : Nat → Int32} {rn2 : Int32} {rc2 : Nat → Int32} {rn3 : Int32} {rc3 : Nat → Int32} {mth : Int32} {mpl : Int32} {msd : Int32} {mrt : Int32} {mps : Int32} {mqt : Int32} {mmd : Int32} {bd : Nat → Int32} {pa : Nat → Int32} {pS : Nat → Int32} {pR : Nat → Int32} {pG : Nat → Int32} {pP : Nat → Int32} {pQ : Nat → Int32} {kp : Nat → Int32} {kS : Nat → Int32} {kR : Nat → Int32} {kP : Nat → Int32} {kQ : Nat → Int32} {li : Nat → Int32} {ou : Nat → Int64} (h : Rl pl sd rt ps sq kg md bo ma qt yc yb mpl msd mrt mps mqt mmd bd pa pS pR pG pP pQ) : bk_L_law_767 L xs k23 pl sd rt ps sq kg md bo ma qt yc yb rn rc rn0 rc0 rn1 rc1 rn2 rc2 rn3 rc3 mth mpl msd mrt mps mqt mmd bd pa pS pR pG pP pQ kp kS kR kP kQ li ou (iI (i : Int)) = some 1 := by
  rw [bk_L_law_767]
  obtain ⟨x, x1, x2, ex⟩ := i_of (xs (iI (i : Int) + 1).toNatClampNeg)
  obtain ⟨y, y1, y2, ey⟩ := i_of (xs (iI (i : Int) + 2).toNatClampNeg)
  have hx : i32 x := ⟨x1, x2⟩
  have hy : i32 y := ⟨y1, y2⟩
  rw [ex, ey]
  obtain ⟨b, hb1, hb2⟩ := rl_bd h
  have tail : ∀ ou' mth', bk_L_law_898 L xs k23 pl sd rt ps sq kg md bo ma qt yc yb rn rc rn0 rc0 rn1 rc1 rn2 rc2 rn3 rc3 mth' mpl msd mrt mps mqt mmd bd pa pS pR pG pP pQ kp kS kR kP kQ li ou' (iI (i : Int)) = some 1 := fun ou' mth' => la_898 hi hL hk h
  refine hd_ck (ix1 hi hL) (hd_ck (ix2 hi hL) ?_)
  have e1 := b_side hx
  have e2 := b_square hy
  have o1 := m_out1 hx
  have o2 := m_out63 hy
  have bad1 : fn_B_hits sq (iI x) (iI y) = some (2, 0) → fn_M_hits mth bd (iI x) (iI y) = some (0, 1) → ((fn_L_hits sq ou (iI x) (iI y)).bind fun (r6003, ou_6004) => qq_ck (qq_in (iI (i : Int) + 1) L) <| qq_ck (qq_in (iI (i : Int) + 2) L) <| (fn_M_hits mth bd (iI x) (iI y)).bind fun (r6007, mth_6008) => (fn_M_thrown mth_6008).bind fun r6009 => if r6009 = r6003 then (if r6003 = 0 then (qq_ck (qq_in 0 1) <| if r6007 = 0 then (bk_L_law_833 L xs k23 pl sd rt ps sq kg md bo ma qt yc yb rn rc rn0 rc0 rn1 rc1 rn2 rc2 rn3 rc3 mth_6008 mpl msd mrt mps mqt mmd bd pa pS pR pG pP pQ kp kS kR kP kQ li ou_6004 (iI (i : Int)) (ou_6004 (0 : Int32).toNatClampNeg) (0 : Int64)) else (bk_L_law_833 L xs k23 pl sd rt ps sq kg md bo ma qt yc yb rn rc rn0 rc0 rn1 rc1 rn2 rc2 rn3 rc3 mth_6008 mpl msd mrt mps mqt mmd bd pa pS pR pG pP pQ kp kS kR kP kQ li ou_6004 (iI (i : Int)) (ou_6004 (0 : Int32).toNatClampNeg) (1 : Int64))) else (bk_L_law_839 L xs k23 pl sd rt ps sq kg md bo ma qt yc yb rn rc rn0 rc0 rn1 rc1 rn2 rc2 rn3 rc3 mth_6008 mpl msd mrt mps mqt mmd bd pa pS pR pG pP pQ kp kS kR kP kQ li ou_6004 (iI (i : Int)))) else (some (0 : Int32))) = some 1 := by
    intro q1 q2
    have q1' : fn_L_hits sq ou (iI x) (iI y) = some (1, ou) := hd_b q1 (hd_F ne20 (hd_T rfl rfl))
    exact hd_b q1' (hd_ck (ix1 hi hL) (hd_ck (ix2 hi hL) (hd_b q2 (hd_b rfl (hd_T rfl (hd_F ne10 (tail _ _)))))))
  have m54 : ∀ t : Int32, bk_M_hits_35 bd (iI x) (iI y) t 1 = some (0, 1) := fun t => hd_b (m_ref1 t) (hd_F ne10 (show bk_M_hits_55 _ _ _ 1 0 = _ from hd_ck (by decide) rfl))
  by_cases hin1 : 0 ≤ x ∧ x ≤ 1
  · rw [decide_eq_true hin1] at e1 o1
    by_cases hin2 : 0 ≤ y ∧ y ≤ 63
    · rw [decide_eq_true hin2] at e2 o2
      have ehx : iI x = iI ((x.toNat : Nat) : Int) := by congr 1; omega
      have ehy : iI y = iI ((y.toNat : Nat) : Int) := by congr 1; omega
      have hh : fn_P_isHitBy sq (iI x) (iI y) = some (ge_z (mh b x.toNat y.toNat)) := by
        rw [hb1, ehx, ehy]; exact p_isHitBy (by omega) (by omega)
      have hm : fn_M_isHit bd (iI x) (iI y) = some (ge_z (mh b x.toNat y.toNat)) := by
        rw [hb2, ehx, ehy]; exact m_isHit (by omega) (by omega)
      cases hv : mh b x.toNat y.toNat with
      | false =>
        rw [hv] at hh hm
        have q1 : fn_L_hits sq ou (iI x) (iI y) = some (0, vp_updL ou (0 : Int32).toNatClampNeg 0) := hd_b (show fn_B_hits sq (iI x) (iI y) = some (0, 0) from hd_b e1 (hd_F gzT (hd_b e2 (hd_F gzT (hd_b hh (hd_ck (by decide) rfl)))))) (hd_T rfl (hd_T rfl (hd_ck (by decide) rfl)))
        have q2 : fn_M_hits mth bd (iI x) (iI y) = some (0, 0) := hd_b o1 (hd_T rfl (hd_b o2 (hd_T rfl (hd_F ne10 (hd_b (m_ref0 mth) (hd_T rfl (hd_b hm (hd_T rfl (show bk_M_hits_55 _ _ _ 0 0 = _ from hd_ck (by decide) rfl)))))))))
        refine hd_b q1 (hd_ck (ix1 hi hL) (hd_ck (ix2 hi hL) (hd_b q2 (hd_b rfl (hd_T rfl (hd_T rfl (hd_ck (by decide) (hd_T rfl ?_))))))))
        rw [bk_L_law_833]
        exact hd_T ((lg_0 _ _).mpr (uL _ _ _)) (tail _ _)
      | true =>
        rw [hv] at hh hm
        have q1 : fn_L_hits sq ou (iI x) (iI y) = some (0, vp_updL ou (0 : Int32).toNatClampNeg 1) := hd_b (show fn_B_hits sq (iI x) (iI y) = some (0, 1) from hd_b e1 (hd_F gzT (hd_b e2 (hd_F gzT (hd_b hh (hd_ck (by decide) rfl)))))) (hd_T rfl (hd_F ne10 (hd_ck (by decide) rfl)))
        have q2 : fn_M_hits mth bd (iI x) (iI y) = some (1, 0) := hd_b o1 (hd_T rfl (hd_b o2 (hd_T rfl (hd_F ne10 (hd_b (m_ref0 mth) (hd_T rfl (hd_b hm (hd_F gzT (show bk_M_hits_55 _ _ _ 0 1 = _ from hd_ck (by decide) rfl)))))))))
        refine hd_b q1 (hd_ck (ix1 hi hL) (hd_ck (ix2 hi hL) (hd_b q2 (hd_b rfl (hd_T rfl (hd_T rfl (hd_ck (by decide) (hd_F ne10 ?_))))))))
        rw [bk_L_law_833]
        exact hd_T ((lg_0 _ _).mpr (uL _ _ _)) (tail _ _)
    · rw [decide_eq_false hin2] at e2 o2
      exact bad1 (hd_b e1 (hd_F gzT (hd_b e2 (hd_T rfl rfl)))) (hd_b o1 (hd_T rfl (hd_b o2 (hd_F gzT (show bk_M_hits_24 _ _ _ _ 0 = _ from hd_T rfl (m54 _))))))
  · rw [decide_eq_false hin1] at e1 o1
    exact bad1 (hd_b e1 (hd_T rfl rfl)) (hd_b o1 (hd_F gzT (show bk_M_hits_24 _ _ _ _ 0 = _ from hd_T rfl (m54 _))))
