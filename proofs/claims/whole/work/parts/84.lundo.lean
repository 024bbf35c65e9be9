/-! the law: undo and move -/
theorem m_undo_lo {n : Nat} (hn : n ≤ 150) {P : Ps} {q : Int32} {pa pS pR pP pQ : Nat → Int32} (h1 : ∀ s, s < 64 → pa (64 * n + s) = bq P.1 s) (h2 : pS n = iI (P.2.1 : Int)) (h3 : pR n = iI (P.2.2.1 : Int)) (h4 : pP n = iI ((P.2.2.2.1 : Int) - 1)) (h5 : pQ n = q) (mpl mth msd mrt mps mqt : Int32) : ∀ (m j f : Nat) (bd : Nat → Int32), j + m = 64 → m + 1 ≤ f → (∀ i, i < j ∨ 64 ≤ i → bd i = bq P.1 i) →
    lo_M_undo_40 mpl pa pS pR pP pQ f mth msd mrt mps mqt (iI (n : Int)) bd (iI (j : Int)) = some (iI (n : Int), mth, iI (P.2.1 : Int), iI (P.2.2.1 : Int), iI ((P.2.2.2.1 : Int) - 1), q, iI (n : Int), bq P.1) := by
  intro m
  induction m with
  | zero =>
    intro j f bd hj hf hb
    obtain ⟨f, rfl⟩ : ∃ n', f = n' + 1 := ⟨f - 1, by omega⟩
    rw [lo_M_undo_40_s]
    have hi : qq_in (iI (n : Int)) 151 = true := iI_in (by omega) (by omega) (by omega)
    refine hd_T (by show iI 64 ≤ iI _; rw [iI_le (by omega) (by omega) (by omega) (by omega)]; omega) ?_
    have e : bd = bq P.1 := funext fun i => hb i (by omega)
    rw [iI_cn (show n < _ by omega), h2, h3, h4, h5, e]
    exact hd_ck hi (hd_ck hi (hd_ck hi (hd_ck hi rfl)))
  | succ m ih =>
    intro j f bd hj hf hb
    obtain ⟨f, rfl⟩ : ∃ n', f = n' + 1 := ⟨f - 1, by omega⟩
    rw [lo_M_undo_40_s]
    refine hd_F (by show ¬ iI 64 ≤ iI _; rw [iI_le (by omega) (by omega) (by omega) (by omega)]; omega) ?_
    rw [i64, iI_cn (show j < _ by omega), iI_cn (show 64 * n + j < _ by omega)]
    refine hd_ck (iI_in (by omega) (by omega) (by omega)) ?_
    refine hd_ck (iI_in (by omega) (by omega) (by omega)) ?_
    show lo_M_undo_40 _ _ _ _ _ _ f _ _ _ _ _ _ _ (iI (j : Int) + 1) = _
    rw [iI_s1]
    apply ih (j + 1) f _ (by omega) (by omega)
    intro i hi
    by_cases e : i = j
    · subst e
      rw [upd_at]; exact h1 i (by omega)
    · rw [upd_ne _ _ e]; exact hb i (by omega)
theorem lm_cd {P : Ps} {c : Nat} (h : c ∈ lmp P) : c ∈ cdp P := by
  rw [lmp_f, List.mem_filter] at h
  exact h.1
theorem la_363 {L : Nat} {xs : Nat → Int32} {k23 : LK} {i : Nat} (hi : i + 4 ≤ L) (hL : L ≤ 2048) (hk : hkk k23 (iI ((i + 4 : Nat) : Int))) {pl : Int32} {sd : Int32} {rt : Int32} {ps : Int32} {sq : Nat → Int32} {kg : Nat → Int32} {md : Int32} {bo : Nat → Int64} {ma : Nat → Int32} {qt : Nat → Int32} {yc : Nat → Int32} {yb : Nat → Int32} {rn : Int32} {rc : Nat → Int32} {rn0 : Int32} {rc0 : Nat → Int32} {rn1 : Int32} {rc1 : Nat → Int32} {rn2 : Int32} {rc2 : Nat → Int32} {rn3 : Int32} {rc3 : Nat → Int32} {mth : Int32} {mpl : Int32} {msd : Int32} {mrt : Int32} {mps : Int32} {mqt : Int32} {mmd : Int32} {bd : Nat → Int32} {pa : Nat → Int32} {pS : Nat → Int32} {pR : Nat → Int32} {pG : Nat → Int32} {pP : Nat → Int32} {pQ : Nat → Int32} {kp : Nat → Int32} {kS : Nat → Int32} {kR : Nat → Int32} {kP : Nat → Int32} {kQ : Nat → Int32} {li : Nat → Int32} {ou : Nat → Int64} (h : Rl pl sd rt ps sq kg md bo ma qt yc yb mpl msd mrt mps mqt mmd bd pa pS pR pG pP pQ) : bk_L_law_363 L xs k23 pl sd rt ps sq kg md bo ma qt yc yb rn rc rn0 rc0 rn1 rc1 rn2 rc2 rn3 rc3 mth mpl msd mrt mps mqt mmd bd pa pS pR pG pP pQ kp kS kR kP kQ li ou (iI (i : Int)) = some 1 := by
  rw [bk_L_law_363]
  rcases h with h | h
  · have h0 := h
    obtain ⟨⟨rfl, rfl, rfl, rfl, rfl⟩, -⟩ := h
    have q1 : fn_L_undo 0 sd rt ps sq kg md yc yb ou = some (1, sd, rt, ps, sq, kg, md, ou) := hd_b (show fn_B_undo 0 sd rt ps sq kg md yc yb = some (1, 0, sd, rt, ps, sq, kg, md) from hd_b b_rw0 (hd_F ne10 rfl)) (hd_F ne10 (hd_T rfl rfl))
    have q2 : fn_M_undo mth 0 msd 0 (-1) mqt 0 bd pa pS pR pP pQ = some (0, 1, msd, 0, -1, mqt, 0, bd) := hd_T rfl (show bk_M_undo_20 _ _ _ _ _ _ _ _ _ _ _ _ _ 1 = _ from hd_b (m_ref1 mth) (hd_F ne10 rfl))
    exact hd_b q1 (hd_b q2 (hd_b rfl (hd_T rfl (hd_F ne10 (la_898 hi hL hk (Or.inl h0))))))
  · have h0 := h
    obtain ⟨⟨rfl, rfl⟩, n, G, cs, Q, hg, ⟨rfl, rfl, rfl, rfl, rfl, rfl⟩, ⟨rfl, rfl, rfl, rfl, rfl, rfl⟩, hm, hq, hy, ho⟩ := h
    have hn := hg.1
    rcases Nat.eq_zero_or_pos n with hz | hz
    · subst hz
      have q1 : fn_L_undo 1 (iI ((G 0).2.1 : Int)) (iI ((G 0).2.2.1 : Int)) (iI (((G 0).2.2.2.1 : Int) - 1)) (bq (G 0).1) (kq (G 0).2.2.2.2) (iI ((0 : Nat) : Int)) yc yb ou = some (1, iI ((G 0).2.1 : Int), iI ((G 0).2.2.1 : Int), iI (((G 0).2.2.2.1 : Int) - 1), bq (G 0).1, kq (G 0).2.2.2.2, iI ((0 : Nat) : Int), ou) := hd_b (show fn_B_undo 1 _ _ _ _ _ (iI ((0 : Nat) : Int)) yc yb = some (1, 0, iI ((G 0).2.1 : Int), iI ((G 0).2.2.1 : Int), iI (((G 0).2.2.2.1 : Int) - 1), bq (G 0).1, kq (G 0).2.2.2.2, iI ((0 : Nat) : Int)) from hd_b b_rw1 (hd_T rfl (hd_T rfl rfl))) (hd_F ne10 (hd_T rfl rfl))
      have q2 : fn_M_undo mth 1 (iI ((G 0).2.1 : Int)) (iI ((G 0).2.2.1 : Int)) (iI (((G 0).2.2.2.1 : Int) - 1)) (Q 0) (iI ((0 : Nat) : Int)) (bq (G 0).1) pa pS pR pP pQ = some (0, 1, iI ((G 0).2.1 : Int), iI ((G 0).2.2.1 : Int), iI (((G 0).2.2.2.1 : Int) - 1), Q 0, iI ((0 : Nat) : Int), bq (G 0).1) := hd_F ne10 (hd_T rfl (show bk_M_undo_20 _ _ _ _ _ _ _ _ _ _ _ _ _ 1 = _ from hd_b (m_ref1 mth) (hd_F ne10 rfl)))
      exact hd_b q1 (hd_b q2 (hd_b rfl (hd_T rfl (hd_F ne10 (la_898 hi hL hk (Or.inr h0))))))
    · obtain ⟨m, rfl⟩ : ∃ m, n = m + 1 := ⟨n - 1, by omega⟩
      have hpv := hg.2.1 m (by omega)
      obtain ⟨hc, hG, hQ⟩ := hg.2.2 m (by omega)
      obtain ⟨hyc, hyb⟩ := hy m (by omega)
      have bk := c_back hpv (lm_cd hc)
      have em : iI ((m + 1 : Nat) : Int) - 1 = iI (m : Int) := by
        show iI _ - iI 1 = _
        rw [iI_sub]; congr 1; omega
      have hne : ¬ iI ((m + 1 : Nat) : Int) = 0 := by show ¬ iI _ = iI 0; rw [iI_eq (by omega) (by omega) (by omega) (by omega)]; omega
      rw [hG]
      have p1 : fn_B_undo 1 (iI ((nxp (G m) (cs m)).2.1 : Int)) (iI ((nxp (G m) (cs m)).2.2.1 : Int)) (iI (((nxp (G m) (cs m)).2.2.2.1 : Int) - 1)) (bq (nxp (G m) (cs m)).1) (kq (nxp (G m) (cs m)).2.2.2.2) (iI ((m + 1 : Nat) : Int)) yc yb = some (0, iI (m : Int), iI ((G m).2.1 : Int), iI ((G m).2.2.1 : Int), iI (((G m).2.2.2.1 : Int) - 1), bq (G m).1, kq (G m).2.2.2.2, iI (m : Int)) := by
        refine hd_b b_rw1 (hd_T rfl (hd_F hne (hd_b (v := (iI (m : Int), iI ((G m).2.1 : Int), iI ((G m).2.2.1 : Int), iI (((G m).2.2.2.1 : Int) - 1), bq (G m).1, kq (G m).2.2.2.2)) ?_ rfl)))
        rw [fn_H_takeMoveBack, em]
        simp only [qq_let]
        rw [iI_cn (by omega), hyc, hyb]
        have hi : qq_in (iI (m : Int)) 150 = true := iI_in (by omega) (by omega) (by omega)
        exact hd_ck hi (hd_ck hi (hd_b bk rfl))
      have q1 : fn_L_undo 1 (iI ((nxp (G m) (cs m)).2.1 : Int)) (iI ((nxp (G m) (cs m)).2.2.1 : Int)) (iI (((nxp (G m) (cs m)).2.2.2.1 : Int) - 1)) (bq (nxp (G m) (cs m)).1) (kq (nxp (G m) (cs m)).2.2.2.2) (iI ((m + 1 : Nat) : Int)) yc yb ou = some (0, iI ((G m).2.1 : Int), iI ((G m).2.2.1 : Int), iI (((G m).2.2.2.1 : Int) - 1), bq (G m).1, kq (G m).2.2.2.2, iI (m : Int), vp_updL ou (0 : Int32).toNatClampNeg (iI (m : Int)).toInt64) := hd_b p1 (hd_T rfl (hd_ck (by decide) rfl))
      obtain ⟨o1, o2, o3, o4, o5, o6⟩ := ho m (by omega)
      have ul := m_undo_lo (n := m) (by omega) o1 o2 o3 o5 o6 1 0 (iI ((nxp (G m) (cs m)).2.1 : Int)) (iI ((nxp (G m) (cs m)).2.2.1 : Int)) (iI (((nxp (G m) (cs m)).2.2.2.1 : Int) - 1)) (Q (m + 1)) 64 0 qq_FU (bq (nxp (G m) (cs m)).1) (by omega) (by rw [fu1]; omega) (fun i hi => nxp_out (by omega))
      rw [show iI ((0 : Nat) : Int) = 0 from rfl] at ul
      have q2 : fn_M_undo mth 1 (iI ((nxp (G m) (cs m)).2.1 : Int)) (iI ((nxp (G m) (cs m)).2.2.1 : Int)) (iI (((nxp (G m) (cs m)).2.2.2.1 : Int) - 1)) (Q (m + 1)) (iI ((m + 1 : Nat) : Int)) (bq (nxp (G m) (cs m)).1) pa pS pR pP pQ = some (iI (m : Int), 0, iI ((G m).2.1 : Int), iI ((G m).2.2.1 : Int), iI (((G m).2.2.2.1 : Int) - 1), Q m, iI (m : Int), bq (G m).1) := by
        refine hd_F ne10 (hd_F hne ?_)
        rw [bk_M_undo_20]
        refine hd_b (m_ref0 mth) (hd_T rfl ?_)
        rw [em]
        exact ul
      have rel : Rl 1 (iI ((G m).2.1 : Int)) (iI ((G m).2.2.1 : Int)) (iI (((G m).2.2.2.1 : Int) - 1)) (bq (G m).1) (kq (G m).2.2.2.2) (iI (m : Int)) bo ma qt yc yb 1 (iI ((G m).2.1 : Int)) (iI ((G m).2.2.1 : Int)) (iI (((G m).2.2.2.1 : Int) - 1)) (Q m) (iI (m : Int)) (bq (G m).1) pa pS pR pG pP pQ :=
        Or.inr ⟨⟨rfl, rfl⟩, m, G, cs, Q, ⟨by omega, fun j hj => hg.2.1 j (by omega), fun j hj => hg.2.2 j (by omega)⟩, ⟨rfl, rfl, rfl, rfl, rfl, rfl⟩, ⟨rfl, rfl, rfl, rfl, rfl, rfl⟩, fun j hj => hm j (by omega), fun j hj => hq j (by omega), fun j hj => hy j (by omega), fun j hj => ho j (by omega)⟩
      exact hd_b q1 (hd_b q2 (hd_b rfl (hd_T rfl (hd_T rfl (hd_ck (by decide) (hd_T ((lg_0 _ _).mpr (uL _ _ _)) (la_898 hi hL hk rel)))))))
theorem c_make {P : Ps} (h : pvp P) {c : Nat} (hc : c ∈ lmp P) {n : Nat} (hn : n < 150) (qt yc yb : Nat → Int32) : fn_H_makeMove (iI (n : Int)) qt yc yb (iI (P.2.1 : Int)) (iI (P.2.2.1 : Int)) (iI ((P.2.2.2.1 : Int) - 1)) (bq P.1) (kq P.2.2.2.2) (iI (c : Int)) = some (iI ((n + 1 : Nat) : Int), upd qt (n + 1) (qnc P c (qt n)), upd yc n (iI (c : Int)), upd yb n (iI (bfc P c : Int)), iI ((nxp P c).2.1 : Int), iI ((nxp P c).2.2.1 : Int), iI (((nxp P c).2.2.2.1 : Int) - 1), bq (nxp P c).1, kq (nxp P c).2.2.2.2) := by
  have pl := c_play h (lm_cd hc)
  have hsd := h.1.1
  obtain ⟨a, t, p, ha, ht, hp, hg, hs, ec⟩ := (lms_mem h).mp hc
  obtain ⟨e1, e2, e3⟩ := cod_1 ha ht (p := p)
  have ea : iI (c : Int) &&& 63 = iI (a : Int) := by rw [ec]; exact cod_a ha ht (pml_le hp)
  have hof := (gs_own hg).1
  have hka := kd_of (P.1 a) P.2.1 hsd hof
  have h6 := kd_le (P.1 a)
  have eb : bfc P c = bef (P.1 t) P.2.2.1 P.2.2.2.1 := by rw [bfc, ec, e2]
  have ex : iI (bfc P c : Int) &&& 15 = iI ((P.1 t).val : Int) := by rw [eb]; exact bef_x _ h.1.2.1 h.1.2.2
  have eq : qnc P c (qt n) = qn P.1 a t (qt n) := by rw [qnc, ec, e1, e2]
  have e16 : (1 : Int32) + 6 * iI (P.2.1 : Int) = iI ((1 + 6 * P.2.1 : Nat) : Int) := by
    show iI 1 + iI 6 * iI _ = _
    rw [iI_mul, iI_add]; congr 1
  have i150 : qq_in (iI (n : Int)) 150 = true := iI_in (by omega) (by omega) (by omega)
  have i151 : qq_in (iI (n : Int)) 151 = true := iI_in (by omega) (by omega) (by omega)
  have i151s : qq_in (iI ((n + 1 : Nat) : Int)) 151 = true := iI_in (by omega) (by omega) (by omega)
  -- the end
  have k104 : ∀ (yc' yb' : Nat → Int32) (v : Int32), bk_H_makeMove_104 (iI (c : Int)) (iI (n : Int)) qt yc' yb' (iI ((nxp P c).2.1 : Int)) (iI ((nxp P c).2.2.1 : Int)) (iI (((nxp P c).2.2.2.1 : Int) - 1)) (bq (nxp P c).1) (kq (nxp P c).2.2.2.2) (iI (n : Int) + 1) v = some (iI ((n + 1 : Nat) : Int), upd qt (n + 1) v, yc', yb', iI ((nxp P c).2.1 : Int), iI ((nxp P c).2.2.1 : Int), iI (((nxp P c).2.2.2.1 : Int) - 1), bq (nxp P c).1, kq (nxp P c).2.2.2.2) := by
    intro yc' yb' v
    rw [bk_H_makeMove_104, iI_s1, iI_cn (show n + 1 < _ by omega)]
    exact hd_ck i151s rfl
  have k47 : ∀ pw tk : Bool, (pw = true ↔ kd (P.1 a) = 1) → (tk = true ↔ (P.1 t).val ≠ 0) → bk_H_makeMove_47 (iI (c : Int)) (iI (n : Int)) qt yc yb (iI ((nxp P c).2.1 : Int)) (iI ((nxp P c).2.2.1 : Int)) (iI (((nxp P c).2.2.2.1 : Int) - 1)) (bq (nxp P c).1) (kq (nxp P c).2.2.2.2) (ge_z pw) (iI (bfc P c : Int)) (ge_z tk) = some (iI ((n + 1 : Nat) : Int), upd qt (n + 1) (qn P.1 a t (qt n)), upd yc n (iI (c : Int)), upd yb n (iI (bfc P c : Int)), iI ((nxp P c).2.1 : Int), iI ((nxp P c).2.2.1 : Int), iI (((nxp P c).2.2.2.1 : Int) - 1), bq (nxp P c).1, kq (nxp P c).2.2.2.2) := by
    intro pw tk h1 h2
    rw [bk_H_makeMove_47, iI_cn (show n < _ by omega)]
    simp only [qq_let]
    refine hd_ck i150 (hd_ck i150 ?_)
    rw [qn]
    cases pw with
    | true =>
      rw [if_pos (Or.inl (h1.mp rfl))]
      exact hd_F gzT (k104 _ _ 0)
    | false =>
      refine hd_T rfl ?_
      cases tk with
      | true =>
        rw [if_pos (Or.inr (h2.mp rfl))]
        exact hd_F gzT (k104 _ _ 0)
      | false =>
        have hno : ¬ (kd (P.1 a) = 1 ∨ (P.1 t).val ≠ 0) := by
          rintro (z | z)
          · exact absurd (h1.mpr z) (by decide)
          · exact absurd (h2.mpr z) (by decide)
        rw [if_neg hno]
        exact hd_T rfl (hd_ck i151 (k104 _ _ _))
  have k26 : ∀ pw : Bool, (pw = true ↔ kd (P.1 a) = 1) → bk_H_makeMove_26 (iI (c : Int)) (iI (n : Int)) qt yc yb (iI (P.2.1 : Int)) (iI (P.2.2.1 : Int)) (iI ((P.2.2.2.1 : Int) - 1)) (bq P.1) (kq P.2.2.2.2) (ge_z pw) = some (iI ((n + 1 : Nat) : Int), upd qt (n + 1) (qn P.1 a t (qt n)), upd yc n (iI (c : Int)), upd yb n (iI (bfc P c : Int)), iI ((nxp P c).2.1 : Int), iI ((nxp P c).2.2.1 : Int), iI (((nxp P c).2.2.2.1 : Int) - 1), bq (nxp P c).1, kq (nxp P c).2.2.2.2) := by
    intro pw h1
    rw [bk_H_makeMove_26]
    refine hd_b pl ?_
    by_cases h2 : (P.1 t).val = 0
    · refine hd_T (by rw [ex, h2]; rfl) (k47 pw false h1 ⟨fun z => absurd z (by decide), fun z => absurd h2 z⟩)
    · refine hd_F (by rw [ex]; show ¬ iI _ = iI 0; rw [iI_eq (by omega) (by omega) (by omega) (by omega)]; omega) (k47 pw true h1 ⟨fun _ => h2, fun _ => rfl⟩)
  rw [fn_H_makeMove, ea, iI_cn (show a < _ by omega), e16, eq]
  refine hd_ck (iI_in (by omega) (by omega) (by omega)) ?_
  by_cases hk : kd (P.1 a) = 1
  · exact hd_T (by show iI _ = iI _; congr 1; omega) (k26 true ⟨fun _ => hk, fun _ => rfl⟩)
  · exact hd_F (by show ¬ iI _ = iI _; rw [iI_eq (by omega) (by omega) (by omega) (by omega)]; omega) (k26 false ⟨fun z => absurd z (by decide), fun z => absurd z hk⟩)
theorem lm_small {P : Ps} (h : pvp P) : ∀ x ∈ lmp P, x < 2 ^ 31 := by
  intro x hx
  obtain ⟨a, t, p, ha, ht, hp, hg, hs, rfl⟩ := (lms_mem h).mp hx
  have := pml_le hp
  rw [cod]; omega
