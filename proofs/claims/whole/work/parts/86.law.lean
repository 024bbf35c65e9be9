/-! the beginning, and the law whole -/
def hrow : Nat → Fin 13 := fun f => ([4, 2, 3, 5, 6, 3, 2, 4] : List (Fin 13)).getD f 0
def hbk (k : Nat) : Bd := fun j => if j < 64 ∧ j % 8 < k then (if j / 8 = 0 then hrow (j % 8) else if j / 8 = 1 then 1 else if j / 8 = 6 then 7 else if j / 8 = 7 then hrow (j % 8) + 6 else 0) else 0
theorem hrow_6 : ∀ f : Nat, f < 8 → iI ((hrow f).val : Int) + 6 = iI ((hrow f + 6).val : Int) := by decide
theorem hrow_t : ∀ f : Nat, f < 8 → tb_HOME_ROW f = iI ((hrow f).val : Int) := by decide
theorem hbk_s {f : Nat} (hf : f < 8) : upd (upd (upd (upd (bq (hbk f)) f (iI ((hrow f).val : Int))) (8 + f) 1) (48 + f) 7) (56 + f) (iI ((hrow f).val : Int) + 6) = bq (hbk (f + 1)) := by
  rw [hrow_6 f hf]
  funext j
  show (if j = 56 + f then iI ((hrow f + 6).val : Int) else if j = 48 + f then 7 else if j = 8 + f then 1 else if j = f then iI ((hrow f).val : Int) else iI ((hbk f j).val : Int)) = iI ((hbk (f + 1) j).val : Int)
  by_cases h1 : j = 56 + f
  · rw [if_pos h1, hbk, if_pos (by omega), if_neg (by omega), if_neg (by omega), if_neg (by omega), if_pos (by omega), show j % 8 = f by omega]
  · rw [if_neg h1]
    by_cases h2 : j = 48 + f
    · rw [if_pos h2, hbk, if_pos (by omega), if_neg (by omega), if_neg (by omega), if_pos (by omega)]
      rfl
    · rw [if_neg h2]
      by_cases h3 : j = 8 + f
      · rw [if_pos h3, hbk, if_pos (by omega), if_neg (by omega), if_pos (by omega)]
        rfl
      · rw [if_neg h3]
        by_cases h4 : j = f
        · rw [if_pos h4, hbk, if_pos (by omega), if_pos (by omega), show j % 8 = f by omega]
        · rw [if_neg h4]
          congr 2
          rw [hbk, hbk]
          by_cases h5 : j < 64 ∧ j % 8 < f
          · rw [if_pos h5, if_pos (show j < 64 ∧ j % 8 < f + 1 by omega)]
          · rw [if_neg h5]
            by_cases h6 : j < 64 ∧ j % 8 < f + 1
            · rw [if_pos h6, if_neg (by omega), if_neg (by omega), if_neg (by omega), if_neg (by omega)]
            · rw [if_neg h6]
theorem i_pl (k f : Nat) : iI ((k : Nat) : Int) + iI (f : Int) = iI ((k + f : Nat) : Int) := by rw [iI_add]; congr 1
theorem home_lo : ∀ (m f n : Nat), f + m = 8 → m + 1 ≤ n → lo_P_putHomePieces_2 n (bq (hbk f)) (iI (f : Int)) = some (bq (hbk 8)) := by
  intro m
  induction m with
  | zero =>
    intro f n hf hn
    obtain ⟨n, rfl⟩ : ∃ n', n = n' + 1 := ⟨n - 1, by omega⟩
    have : f = 8 := by omega
    subst this
    rw [lo_P_putHomePieces_2_s]
    exact hd_T (by decide) rfl
  | succ m ih =>
    intro f n hf hn
    obtain ⟨n, rfl⟩ : ∃ n', n = n' + 1 := ⟨n - 1, by omega⟩
    have e8 : (8 : Int32) + iI (f : Int) = iI ((8 + f : Nat) : Int) := i_pl 8 f
    have e48 : (48 : Int32) + iI (f : Int) = iI ((48 + f : Nat) : Int) := i_pl 48 f
    have e56 : (56 : Int32) + iI (f : Int) = iI ((56 + f : Nat) : Int) := i_pl 56 f
    rw [lo_P_putHomePieces_2_s]
    simp only [qq_let]
    rw [e8, e48, e56, iI_cn (show f < _ by omega), iI_cn (show 8 + f < _ by omega), iI_cn (show 48 + f < _ by omega), iI_cn (show 56 + f < _ by omega), hrow_t f (by omega), hbk_s (by omega), iI_s1]
    refine hd_F (by show ¬ iI 8 ≤ iI _; rw [iI_le (by omega) (by omega) (by omega) (by omega)]; omega) ?_
    have i8 : qq_in (iI (f : Int)) 8 = true := iI_in (by omega) (by omega) (by omega)
    have i64 : qq_in (iI (f : Int)) 64 = true := iI_in (by omega) (by omega) (by omega)
    exact hd_ck i8 (hd_ck i64 (hd_ck (iI_in (by omega) (by omega) (by omega)) (hd_ck (iI_in (by omega) (by omega) (by omega)) (hd_ck i8 (hd_ck (iI_in (by omega) (by omega) (by omega)) (ih (f + 1) n (by omega) (by omega)))))))
theorem hbk_0 : (fun _ => 0 : Nat → Int32) = bq (hbk 0) := by
  funext j
  show _ = iI ((hbk 0 j).val : Int)
  rw [hbk, if_neg (by omega)]
  rfl
def P00 : Ps := (hbk 8, 0, 15, 0, kst (hbk 8) (fun _ => 0))
theorem gd_home : gd (hbk 8) 0 15 0 = true := by decide +kernel
theorem crw_home : crw (hbk 8) = true := by decide +kernel
theorem pv_home : pvp P00 := pv_begin (by omega) (by omega) (by omega) gd_home rfl rfl
theorem b_init : ∃ bo', fn_B_init = some (1, iI (P00.2.1 : Int), iI (P00.2.2.1 : Int), iI ((P00.2.2.2.1 : Int) - 1), bq P00.1, kq P00.2.2.2.2, iI 0, bo', upd (fun _ => 0) 0 (iI (mkp P00 : Int)), upd (fun _ => 0) 0 0) ∧ (∀ i, i < 4 → bo' i = lN (wv P00.1 16 (16 * i) 0)) := by
  have h1 := home_lo 8 0 qq_FU (by omega) (by rw [fu1]; omega)
  obtain ⟨bo', s1, s2⟩ := b_start pv_home crw_home 0 0 0 0 0 (fun _ => 0) (fun _ => 0) (fun _ => 0)
  refine ⟨bo', ?_, s2⟩
  have s1' : fn_B_startPlay 0 0 0 0 (bq (hbk 8)) (fun _ => 0) 0 (fun _ => 0) (fun _ => 0) (fun _ => 0) 0 15 (-1) = _ := s1
  rw [fn_B_init, hbk_0]
  refine hd_b (show fn_P_putHomePieces (bq (hbk 0)) = some (bq (hbk 8)) from h1) ?_
  rw [← hbk_0]
  exact hd_b s1' rfl
theorem m_i179 {f : Nat} (hf : f < 8) (k119 : Int32 → Int32 → Int32 → Int32 → Int32 → Int32 → (Nat → Int32) → (Nat → Int32) → (Nat → Int32) → (Nat → Int32) → (Nat → Int32) → (Nat → Int32) → (Nat → Int32) → (Nat → Int32) → (Nat → Int32) → (Nat → Int32) → (Nat → Int32) → (Nat → Int32) → Int32 → Option ty_M_init) (mpl msd mrt mps mqt mmd : Int32) (pa pS pR pG pP pQ kp kS kR kP kQ : Nat → Int32) {s0 : Int32} (hs : s0 = iI ((hrow f).val : Int)) : bk_M_init_179 k119 mpl msd mrt mps mqt mmd (bq (hbk f)) pa pS pR pG pP pQ kp kS kR kP kQ (iI (f : Int)) s0 = k119 mpl msd mrt mps mqt mmd (bq (hbk (f + 1))) pa pS pR pG pP pQ kp kS kR kP kQ (iI ((f + 1 : Nat) : Int)) := by
  subst hs
  have e8 : (8 : Int32) + iI (f : Int) = iI ((8 + f : Nat) : Int) := i_pl 8 f
  have e48 : (48 : Int32) + iI (f : Int) = iI ((48 + f : Nat) : Int) := i_pl 48 f
  have e56 : (56 : Int32) + iI (f : Int) = iI ((56 + f : Nat) : Int) := i_pl 56 f
  rw [bk_M_init_179]
  simp only [qq_let]
  rw [e8, e48, e56, iI_cn (show f < _ by omega), iI_cn (show 8 + f < _ by omega), iI_cn (show 48 + f < _ by omega), iI_cn (show 56 + f < _ by omega), hbk_s hf, iI_s1]
  exact hd_ck (iI_in (by omega) (by omega) (by omega)) (hd_ck (iI_in (by omega) (by omega) (by omega)) (hd_ck (iI_in (by omega) (by omega) (by omega)) (hd_ck (iI_in (by omega) (by omega) (by omega)) rfl)))
theorem m_i_step {f : Nat} (hf : f < 8) (n : Nat) (mpl msd mrt mps mqt mmd : Int32) (pa pS pR pG pP pQ kp kS kR kP kQ : Nat → Int32) : lo_M_init_119 (n + 1) mpl msd mrt mps mqt mmd (bq (hbk f)) pa pS pR pG pP pQ kp kS kR kP kQ (iI (f : Int)) = lo_M_init_119 n mpl msd mrt mps mqt mmd (bq (hbk (f + 1))) pa pS pR pG pP pQ kp kS kR kP kQ (iI ((f + 1 : Nat) : Int)) := by
  rw [lo_M_init_119_s, if_neg (show ¬ (8 : Int32) ≤ iI (f : Int) by show ¬ iI 8 ≤ iI _; rw [iI_le (by omega) (by omega) (by omega) (by omega)]; omega)]
  rcases (show f = 0 ∨ f = 1 ∨ f = 2 ∨ f = 3 ∨ f = 4 ∨ f = 5 ∨ f = 6 ∨ f = 7 by omega) with rfl | rfl | rfl | rfl | rfl | rfl | rfl | rfl
  · rw [if_pos (by decide), bk_M_init_135]
    exact m_i179 (by omega) _ _ _ _ _ _ _ _ _ _ _ _ _ _ _ _ _ _ (by decide)
  · rw [if_neg (by decide), if_neg (by decide), if_pos (by decide), bk_M_init_150]
    exact m_i179 (by omega) _ _ _ _ _ _ _ _ _ _ _ _ _ _ _ _ _ _ (by decide)
  · rw [if_neg (by decide), if_neg (by decide), if_neg (by decide), if_neg (by decide), if_pos (by decide), bk_M_init_164]
    exact m_i179 (by omega) _ _ _ _ _ _ _ _ _ _ _ _ _ _ _ _ _ _ (by decide)
  · rw [if_neg (by decide), if_neg (by decide), if_neg (by decide), if_neg (by decide), if_neg (by decide), if_neg (by decide), if_pos (by decide)]
    exact m_i179 (by omega) _ _ _ _ _ _ _ _ _ _ _ _ _ _ _ _ _ _ (by decide)
  · rw [if_neg (by decide), if_neg (by decide), if_neg (by decide), if_neg (by decide), if_neg (by decide), if_neg (by decide), if_neg (by decide)]
    exact m_i179 (by omega) _ _ _ _ _ _ _ _ _ _ _ _ _ _ _ _ _ _ (by decide)
  · rw [if_neg (by decide), if_neg (by decide), if_neg (by decide), if_neg (by decide), if_neg (by decide), if_pos (by decide), bk_M_init_164]
    exact m_i179 (by omega) _ _ _ _ _ _ _ _ _ _ _ _ _ _ _ _ _ _ (by decide)
  · rw [if_neg (by decide), if_neg (by decide), if_neg (by decide), if_pos (by decide), bk_M_init_150]
    exact m_i179 (by omega) _ _ _ _ _ _ _ _ _ _ _ _ _ _ _ _ _ _ (by decide)
  · rw [if_neg (by decide), if_pos (by decide), bk_M_init_135]
    exact m_i179 (by omega) _ _ _ _ _ _ _ _ _ _ _ _ _ _ _ _ _ _ (by decide)
theorem m_init : ∃ (K' : KT) (pa' : Nat → Int32), fn_M_init = some (1, iI (P00.2.1 : Int), iI (P00.2.2.1 : Int), iI ((P00.2.2.2.1 : Int) - 1), 0, 0, bq P00.1, pa', upd (fun _ => 0) 0 (iI (P00.2.1 : Int)), upd (fun _ => 0) 0 (iI (P00.2.2.1 : Int)), upd (fun _ => 0) 0 (iI (pn2 P00 : Int)), upd (fun _ => 0) 0 (iI ((P00.2.2.2.1 : Int) - 1)), upd (fun _ => 0) 0 0, K'.1, K'.2.1, K'.2.2.1, K'.2.2.2.1, K'.2.2.2.2) ∧ (∀ i, i < 64 → pa' i = bq P00.1 i) := by
  obtain ⟨K', pa', n1, n2, n3⟩ := m_note pv_home (show 0 ≤ 150 by omega) 0 ((fun _ => 0), (fun _ => 0), (fun _ => 0), (fun _ => 0), (fun _ => 0)) (fun _ => 0) (fun _ => 0) (fun _ => 0) (fun _ => 0) (fun _ => 0) (fun _ => 0)
  refine ⟨K', pa', ?_, fun i hi => by have := n2 i hi; rw [Nat.mul_zero, Nat.zero_add] at this; exact this⟩
  have n1' : fn_M_note 0 15 (-1) 0 0 (bq (hbk 8)) (fun _ => 0) (fun _ => 0) (fun _ => 0) (fun _ => 0) (fun _ => 0) (fun _ => 0) (fun _ => 0) (fun _ => 0) (fun _ => 0) (fun _ => 0) (fun _ => 0) = _ := n1
  have run : ∀ (m f n : Nat), f + m = 8 → m + 1 ≤ n → lo_M_init_119 n 0 0 0 (-1) 0 0 (bq (hbk f)) (fun _ => 0) (fun _ => 0) (fun _ => 0) (fun _ => 0) (fun _ => 0) (fun _ => 0) (fun _ => 0) (fun _ => 0) (fun _ => 0) (fun _ => 0) (fun _ => 0) (iI (f : Int)) = some (1, iI (P00.2.1 : Int), iI (P00.2.2.1 : Int), iI ((P00.2.2.2.1 : Int) - 1), 0, 0, bq P00.1, pa', upd (fun _ => 0) 0 (iI (P00.2.1 : Int)), upd (fun _ => 0) 0 (iI (P00.2.2.1 : Int)), upd (fun _ => 0) 0 (iI (pn2 P00 : Int)), upd (fun _ => 0) 0 (iI ((P00.2.2.2.1 : Int) - 1)), upd (fun _ => 0) 0 0, K'.1, K'.2.1, K'.2.2.1, K'.2.2.2.1, K'.2.2.2.2) := by
    intro m
    induction m with
    | zero =>
      intro f n hf hn
      obtain ⟨n, rfl⟩ : ∃ n', n = n' + 1 := ⟨n - 1, by omega⟩
      have : f = 8 := by omega
      subst this
      rw [lo_M_init_119_s]
      exact hd_T (by decide) (hd_b n1' rfl)
    | succ m ih =>
      intro f n hf hn
      obtain ⟨n, rfl⟩ : ∃ n', n = n' + 1 := ⟨n - 1, by omega⟩
      rw [m_i_step (by omega)]
      exact ih (f + 1) n (by omega) (by omega)
  have e := run 8 0 qq_FU (by omega) (by rw [fu1]; omega)
  rw [← hbk_0, show iI ((0 : Nat) : Int) = 0 from rfl] at e
  rw [fn_M_init]
  exact e
theorem law_lo {L : Nat} (hL : L ≤ 2048) (xs : Nat → Int32) : ∀ (m i n : Nat), L ≤ i + 4 * m → i + 4 * m ≤ 4096 → m + 1 ≤ n → hkk (lo_L_law_23 L xs n) (iI (i : Int)) := by
  have eL : (Int32.ofNat L) - 4 = iI ((L : Int) - 4) := by
    show nI L - iI 4 = _
    rw [iI_n, iI_sub]
  intro m
  induction m with
  | zero =>
    intro i n hi hm hn
    obtain ⟨n, rfl⟩ : ∃ n', n = n' + 1 := ⟨n - 1, by omega⟩
    intro pl sd rt ps sq kg md bo ma qt yc yb rn rc rn0 rc0 rn1 rc1 rn2 rc2 rn3 rc3 mth mpl msd mrt mps mqt mmd bd pa pS pR pG pP pQ kp kS kR kP kQ li ou h
    rw [lo_L_law_23_s, eL]
    exact hd_T (by rw [iI_lt (by omega) (by omega) (by omega) (by omega)]; omega) rfl
  | succ m ih =>
    intro i n hi hm hn
    obtain ⟨n, rfl⟩ : ∃ n', n = n' + 1 := ⟨n - 1, by omega⟩
    intro pl sd rt ps sq kg md bo ma qt yc yb rn rc rn0 rc0 rn1 rc1 rn2 rc2 rn3 rc3 mth mpl msd mrt mps mqt mmd bd pa pS pR pG pP pQ kp kS kR kP kQ li ou h
    rw [lo_L_law_23_s, eL]
    rcases Nat.lt_or_ge L (i + 4) with hi5 | hi4
    · exact hd_T (by rw [iI_lt (by omega) (by omega) (by omega) (by omega)]; omega) rfl
    refine hd_F (by rw [iI_lt (by omega) (by omega) (by omega) (by omega)]; omega) (hd_ck (iI_in (by omega) (by omega) (by omega)) ?_)
    rw [iI_cn (show i < _ by omega)]
    have hk := ih (i + 4) n (by omega) (by omega) (by omega)
    by_cases c0 : xs i &&& 31 = 0
    · exact hd_T c0 (la_124 hi4 hL hk h)
    refine hd_F c0 ?_
    by_cases c1 : xs i &&& 31 = 1
    · exact hd_T c1 (la_135 hi4 hL hk h)
    refine hd_F c1 ?_
    by_cases c2 : xs i &&& 31 = 2
    · exact hd_T c2 (la_203 hi4 hL hk h)
    refine hd_F c2 ?_
    by_cases c3 : xs i &&& 31 = 3
    · exact hd_T c3 (la_283 hi4 hL hk h)
    refine hd_F c3 ?_
    by_cases c4 : xs i &&& 31 = 4
    · exact hd_T c4 (la_363 hi4 hL hk h)
    refine hd_F c4 ?_
    by_cases c5 : xs i &&& 31 = 5
    · exact hd_T c5 (la_407 hi4 hL hk h)
    refine hd_F c5 ?_
    by_cases c6 : xs i &&& 31 = 6
    · exact hd_T c6 (la_420 hi4 hL hk h)
    refine hd_F c6 ?_
    by_cases c7 : xs i &&& 31 = 7
    · exact hd_T c7 (la_445 hi4 hL hk h)
    refine hd_F c7 ?_
    by_cases c8 : xs i &&& 31 = 8
    · exact hd_T c8 (la_458 hi4 hL hk h)
    refine hd_F c8 ?_
    by_cases c9 : xs i &&& 31 = 9
    · exact hd_T c9 (la_471 hi4 hL hk h)
    refine hd_F c9 ?_
    by_cases c10 : xs i &&& 31 = 10
    · exact hd_T c10 (la_484 hi4 hL hk h)
    refine hd_F c10 ?_
    by_cases c11 : xs i &&& 31 = 11
    · exact hd_T c11 (la_528 hi4 hL hk h)
    refine hd_F c11 ?_
    by_cases c12 : xs i &&& 31 = 12
    · exact hd_T c12 (la_584 hi4 hL hk h)
    refine hd_F c12 ?_
    by_cases c13 : xs i &&& 31 = 13
    · exact hd_T c13 (la_635 hi4 hL hk h)
    refine hd_F c13 ?_
    by_cases c14 : xs i &&& 31 = 14
    · exact hd_T c14 (la_679 hi4 hL hk h)
    refine hd_F c14 ?_
    by_cases c15 : xs i &&& 31 = 15
    · exact hd_T c15 (la_723 hi4 hL hk h)
    refine hd_F c15 ?_
    by_cases c16 : xs i &&& 31 = 16
    · exact hd_T c16 (la_767 hi4 hL hk h)
    refine hd_F c16 ?_
    by_cases c17 : xs i &&& 31 = 17
    · exact hd_T c17 (la_842 hi4 hL hk h)
    refine hd_F c17 ?_
    exact la_898 hi4 hL hk h
theorem pu_law : ∀ (L : Nat) (xs : Nat → Int32), L ≤ 2048 → fn_L_law L xs = some 1 := by
  intro L xs hL
  obtain ⟨bo', b1, b2⟩ := b_init
  obtain ⟨K', pa', m1', m2'⟩ := m_init
  have hk := law_lo hL xs 512 0 qq_FU (by omega) (by omega) (by rw [fu1]; omega)
  rw [show iI ((0 : Nat) : Int) = 0 from rfl] at hk
  rw [fn_L_law]
  refine hd_b b1 (hd_b m1' (hk _ _ _ _ _ _ _ _ _ _ _ _ _ _ _ _ _ _ _ _ _ _ _ _ _ _ _ _ _ _ _ _ _ _ _ _ _ _ _ _ _ _ _ ?_))
  refine Or.inr ⟨⟨rfl, rfl⟩, 0, fun _ => P00, fun _ => 0, fun _ => 0, ⟨by omega, fun _ _ => pv_home, fun j hj => by omega⟩, ⟨rfl, rfl, rfl, rfl, rfl, rfl⟩, ⟨rfl, rfl, rfl, rfl, rfl, rfl⟩, ?_, ?_, fun j hj => by omega, ?_⟩
  · intro j hj
    have : j = 0 := by omega
    subst this
    exact ⟨upd_at _ _ _, fun w hw => by rw [Nat.mul_zero, Nat.zero_add]; exact b2 w hw⟩
  · intro j hj
    have : j = 0 := by omega
    subst this
    exact upd_at _ _ _
  · intro j hj
    have : j = 0 := by omega
    subst this
    exact ⟨fun s hs => by rw [Nat.mul_zero, Nat.zero_add]; exact m2' s hs, upd_at _ _ _, upd_at _ _ _, upd_at _ _ _, upd_at _ _ _, upd_at _ _ _⟩
