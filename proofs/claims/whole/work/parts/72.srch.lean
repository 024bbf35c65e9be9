/-! the class's mate search -/
def bfc (P : Ps) (c : Nat) : Nat := bef (P.1 (c / 64 % 64)) P.2.2.1 P.2.2.2.1
def cdp (P : Ps) : List Nat := cands P.1 P.2.1 P.2.2.1 P.2.2.2.1
def sfp (P : Ps) (c : Nat) : Bool := sfc P.1 P.2.1 P.2.2.2.2 c
theorem sfp_e (P : Ps) (c : Nat) : mh (nxp P c).1 (1 - P.2.1) ((nxp P c).2.2.2.2 P.2.1) = !sfp P c := by
  rw [sfp, sfc, sf, Bool.not_not]; rfl
theorem lmp_f (P : Ps) : lmp P = (cdp P).filter (sfp P) := rfl
theorem c_play {P : Ps} (h : pvp P) {c : Nat} (hc : c ∈ cdp P) : fn_P_play (iI (P.2.1 : Int)) (iI (P.2.2.1 : Int)) (iI ((P.2.2.2.1 : Int) - 1)) (bq P.1) (kq P.2.2.2.2) (iI (c : Int)) = some (iI (bfc P c : Int), iI ((nxp P c).2.1 : Int), iI ((nxp P c).2.2.1 : Int), iI (((nxp P c).2.2.2.1 : Int) - 1), bq (nxp P c).1, kq (nxp P c).2.2.2.2) := by
  obtain ⟨a, t, p, ha, ht, hp, hg, rfl⟩ := (cands_mem h).mp hc
  obtain ⟨e1, e2, e3⟩ := cod_1 ha ht (p := p)
  rw [p_play h.1.1 h.1.2.1 h.1.2.2 ha ht (pml_le hp) (gs_own hg).1, nxp, bfc, e1, e2, e3]
theorem c_back {P : Ps} (h : pvp P) {c : Nat} (hc : c ∈ cdp P) : fn_P_takeBack (iI ((nxp P c).2.1 : Int)) (iI ((nxp P c).2.2.1 : Int)) (iI (((nxp P c).2.2.2.1 : Int) - 1)) (bq (nxp P c).1) (kq (nxp P c).2.2.2.2) (iI (c : Int)) (iI (bfc P c : Int)) = some (iI (P.2.1 : Int), iI (P.2.2.1 : Int), iI ((P.2.2.2.1 : Int) - 1), bq P.1, kq P.2.2.2.2) := by
  obtain ⟨a, t, p, ha, ht, hp, hg, rfl⟩ := (cands_mem h).mp hc
  obtain ⟨e1, e2, e3⟩ := cod_1 ha ht (p := p)
  rw [nxp, bfc, e1, e2, e3]
  exact p_takeBack h ha ht (pml_le hp) hg _ _
theorem nxk_lt {P : Ps} (h : pvp P) {c : Nat} (hc : c ∈ cdp P) {who : Nat} (hw : who < 2) : (nxp P c).2.2.2.2 who < 64 := by
  obtain ⟨a, t, p, ha, ht, hp, hg, rfl⟩ := (cands_mem h).mp hc
  obtain ⟨e1, e2, e3⟩ := cod_1 ha ht (p := p)
  rw [nxp, e1, e2, e3]
  exact kU_lt h ha ht hg hw
/-- after a candidate: is the side that moved in check -/
theorem c_own {P : Ps} (h : pvp P) {c : Nat} (hc : c ∈ cdp P) : fn_P_isInCheck (bq (nxp P c).1) (kq (nxp P c).2.2.2.2) (iI (P.2.1 : Int)) = some (ge_z (!sfp P c)) := by
  rw [p_inCheck h.1.1 (nxk_lt h hc h.1.1), sfp_e]
theorem c_oth {P : Ps} (h : pvp P) {c : Nat} (hc : c ∈ cdp P) : fn_P_isInCheck (bq (nxp P c).1) (kq (nxp P c).2.2.2.2) (1 - iI (P.2.1 : Int)) = some (ge_z (chp (nxp P c))) := by
  have hsd := h.1.1
  rw [i1m hsd, p_inCheck (by omega) (nxk_lt h hc (by omega))]
  rfl
theorem c_now {P : Ps} (h : pvp P) : fn_P_isInCheck (bq P.1) (kq P.2.2.2.2) (iI (P.2.1 : Int)) = some (ge_z (chp P)) := p_inCheck h.1.1 (pv_ok h h.1.1).1
theorem cdp_len {P : Ps} (h : pvp P) : (cdp P).length ≤ 415 := cands_len h
theorem sfp_lm {P : Ps} {c : Nat} (hc : c ∈ cdp P) (hs : sfp P c = true) : c ∈ lmp P := by rw [lmp_f, List.mem_filter]; exact ⟨hc, hs⟩
theorem c_list {P : Ps} (h : pvp P) (rn : Int32) (rc : Nat → Int32) : ∃ rc', fn_P_listCandidates (iI (P.2.1 : Int)) (iI (P.2.2.1 : Int)) (iI ((P.2.2.2.1 : Int) - 1)) (bq P.1) (kq P.2.2.2.2) rn rc = some (iI ((cdp P).length : Int), rc') ∧ rowOf rc' (cdp P) := p_listCand (pv_lok h) (cdp_len h) rn rc
/-- the end of a row -/
def rtl (rc : Nat → Int32) (j : Nat) (m : List Nat) : Prop := ∀ i (hi : i < m.length), rc (j + i) = iI ((m[i] : Nat) : Int)
theorem rtl_0 {rc : Nat → Int32} {l : List Nat} (h : rowOf rc l) : rtl rc 0 l := fun i hi => by rw [Nat.zero_add]; exact h i hi
theorem rtl_h {rc : Nat → Int32} {j c : Nat} {m : List Nat} (h : rtl rc j (c :: m)) : rc j = iI (c : Int) := h 0 (by simp)
theorem rtl_t {rc : Nat → Int32} {j c : Nat} {m : List Nat} (h : rtl rc j (c :: m)) : rtl rc (j + 1) m := fun i hi => by
  have := h (i + 1) (by simp; omega)
  rw [show j + 1 + i = j + (i + 1) by omega, this]; rfl
theorem len_c (j c : Nat) (m : List Nat) : (j + (c :: m).length : Nat) = (j + 1) + m.length := by rw [List.length_cons]; omega
theorem lost3_lo {P : Ps} (h : pvp P) : ∀ (m : List Nat) (j n : Nat) (rc : Nat → Int32), (∀ c ∈ m, c ∈ cdp P) → j + m.length ≤ 415 → m.length + 1 ≤ n → rtl rc j m →
    lo_S_isLost_3_37 (iI 0) n (iI ((j + m.length : Nat) : Int)) rc (iI (P.2.1 : Int)) (iI (P.2.2.1 : Int)) (iI ((P.2.2.2.1 : Int) - 1)) (bq P.1) (kq P.2.2.2.2) (iI (P.2.1 : Int)) 0 (iI (j : Int)) = some (ge_z (!m.any (sfp P) && chp P), iI ((j + m.length : Nat) : Int), rc, iI (P.2.1 : Int), iI (P.2.2.1 : Int), iI ((P.2.2.2.1 : Int) - 1), bq P.1, kq P.2.2.2.2) := by
  intro m
  induction m with
  | nil =>
    intro j n rc hc hj hn hl
    obtain ⟨n, rfl⟩ : ∃ n', n = n' + 1 := ⟨n - 1, by simp at hn; omega⟩
    have ck := c_now h
    rw [lo_S_isLost_3_37_s, List.any_nil, Bool.not_false, Bool.true_and]
    refine hd_T ?_ (hd_T rfl ?_)
    · rw [List.length_nil, Nat.add_zero]; exact Int32.le_refl _
    · refine hd_b ck ?_
      cases chp P with
      | false => exact hd_T rfl (hd_ck (by decide) rfl)
      | true => exact hd_F gzT (show bk_S_isLost_3_164 _ _ _ _ _ _ _ _ 1 = _ from hd_ck (by decide) rfl)
  | cons c m ih =>
    intro j n rc hc hj hn hl
    obtain ⟨n, rfl⟩ : ∃ n', n = n' + 1 := ⟨n - 1, by simp at hn; omega⟩
    rw [List.length_cons] at hj hn
    have hcm := hc c List.mem_cons_self
    have hF : ¬ iI ((j + 1 + m.length : Nat) : Int) ≤ iI (j : Int) := by rw [iI_le (by omega) (by omega) (by omega) (by omega)]; omega
    have hin : qq_in (iI (j : Int)) 415 = true := iI_in (by omega) (by omega) (by omega)
    have pl := c_play h hcm
    have bk := c_back h hcm
    have ow := c_own h hcm
    have ih' := ih (j + 1) n rc (fun x hx => hc x (List.mem_cons_of_mem _ hx)) (by omega) (by omega) (rtl_t hl)
    rw [len_c, lo_S_isLost_3_37_s, iI_cn (show j < _ by omega), rtl_h hl, List.any_cons]
    cases hs : sfp P c with
    | false =>
      rw [hs] at ow
      rw [Bool.false_or]
      refine hd_F hF (hd_ck hin (hd_b pl (hd_b ow (hd_F gzT ?_))))
      rw [bk_S_isLost_3_75]
      refine hd_T rfl ?_
      rw [bk_S_isLost_3_98, bk_S_isLost_3_99, iI_cn (show j < _ by omega), rtl_h hl]
      refine hd_ck hin (hd_b bk (hd_T rfl (hd_T rfl (hd_T rfl ?_))))
      rw [← ih']
      show lo_S_isLost_3_37 _ n _ _ _ _ _ _ _ _ _ (iI (j : Int) + 1) = _
      rw [iI_s1]
    | true =>
      rw [hs] at ow
      rw [Bool.true_or]
      refine hd_F hF (hd_ck hin (hd_b pl (hd_b ow (hd_T rfl ?_))))
      rw [bk_S_isLost_3_75]
      refine hd_F (by decide) (hd_b rfl (hd_T rfl ?_))
      rw [bk_S_isLost_3_99, iI_cn (show j < _ by omega), rtl_h hl]
      exact hd_ck hin (hd_b bk (hd_F (by decide) rfl))
theorem not_any (P : Ps) : (!(cdp P).any (sfp P) && chp P) = mtd P := by
  rw [mtd, lmp_f, Bool.and_comm]
  congr 1
  cases hx : (cdp P).any (sfp P) with
  | true =>
    obtain ⟨c, hc, hs⟩ := List.any_eq_true.mp hx
    have : c ∈ (cdp P).filter (sfp P) := List.mem_filter.mpr ⟨hc, hs⟩
    cases hy : (cdp P).filter (sfp P) with
    | nil => rw [hy] at this; exact absurd this (by simp)
    | cons a l => rfl
  | false =>
    have : (cdp P).filter (sfp P) = [] := by
      rw [List.filter_eq_nil_iff]
      intro c hc hs
      have := List.any_eq_false.mp hx c hc
      exact this hs
    rw [this]; rfl
theorem s_lost3 {P : Ps} (h : pvp P) (rn : Int32) (rc : Nat → Int32) : ∃ (rn' : Int32) (rc' : Nat → Int32), fn_S_isLost_3 rn rc (iI (P.2.1 : Int)) (iI (P.2.2.1 : Int)) (iI ((P.2.2.2.1 : Int) - 1)) (bq P.1) (kq P.2.2.2.2) (iI 0) = some (ge_z (mtd P), rn', rc', iI (P.2.1 : Int), iI (P.2.2.1 : Int), iI ((P.2.2.2.1 : Int) - 1), bq P.1, kq P.2.2.2.2) := by
  obtain ⟨rc', q1, q2⟩ := c_list h rn rc
  have hl := cdp_len h
  have e := lost3_lo h (cdp P) 0 qq_FU rc' (fun c hc => hc) (by omega) (by rw [fu1]; omega) (rtl_0 q2)
  rw [Nat.zero_add, show iI ((0 : Nat) : Int) = 0 from rfl, not_any] at e
  refine ⟨iI ((cdp P).length : Int), rc', ?_⟩
  rw [fn_S_isLost_3]
  exact hd_b q1 e
/-- forcing mate by one move, at depth 2 -/
theorem force2_lo {P : Ps} (h : pvp P) : ∀ (m : List Nat) (j n : Nat) (rc : Nat → Int32) (rn3 : Int32) (rc3 : Nat → Int32), (∀ c ∈ m, c ∈ cdp P) → j + m.length ≤ 415 → m.length + 1 ≤ n → rtl rc j m →
    ∃ (rn3' : Int32) (rc3' : Nat → Int32), lo_S_forcesMate_2_38 (iI 1) n (iI ((j + m.length : Nat) : Int)) rc rn3 rc3 (iI (P.2.1 : Int)) (iI (P.2.2.1 : Int)) (iI ((P.2.2.2.1 : Int) - 1)) (bq P.1) (kq P.2.2.2.2) (iI (P.2.1 : Int)) (iI (j : Int)) = some (ge_z (m.any fun c => sfp P c && mtd (nxp P c)), iI ((j + m.length : Nat) : Int), rc, rn3', rc3', iI (P.2.1 : Int), iI (P.2.2.1 : Int), iI ((P.2.2.2.1 : Int) - 1), bq P.1, kq P.2.2.2.2) := by
  intro m
  induction m with
  | nil =>
    intro j n rc rn3 rc3 hc hj hn hl
    obtain ⟨n, rfl⟩ : ∃ n', n = n' + 1 := ⟨n - 1, by simp at hn; omega⟩
    refine ⟨rn3, rc3, ?_⟩
    rw [lo_S_forcesMate_2_38_s]
    refine hd_T ?_ rfl
    rw [List.length_nil, Nat.add_zero]; exact Int32.le_refl _
  | cons c m ih =>
    intro j n rc rn3 rc3 hc hj hn hl
    obtain ⟨n, rfl⟩ : ∃ n', n = n' + 1 := ⟨n - 1, by simp at hn; omega⟩
    rw [List.length_cons] at hj hn
    have hcm := hc c List.mem_cons_self
    have hF : ¬ iI ((j + 1 + m.length : Nat) : Int) ≤ iI (j : Int) := by rw [iI_le (by omega) (by omega) (by omega) (by omega)]; omega
    have hin : qq_in (iI (j : Int)) 415 = true := iI_in (by omega) (by omega) (by omega)
    have pl := c_play h hcm
    have bk := c_back h hcm
    have ow := c_own h hcm
    have ot := c_oth h hcm
    have ih' := fun a b => ih (j + 1) n rc a b (fun x hx => hc x (List.mem_cons_of_mem _ hx)) (by omega) (by omega) (rtl_t hl)
    have step : ∀ (rn9 : Int32) (rc9 : Nat → Int32), ∃ (rn3' : Int32) (rc3' : Nat → Int32), bk_S_forcesMate_2_105 (iI 1) (lo_S_forcesMate_2_38 (iI 1) n) (iI ((j + 1 + m.length : Nat) : Int)) rc rn9 rc9 (iI ((nxp P c).2.1 : Int)) (iI ((nxp P c).2.2.1 : Int)) (iI (((nxp P c).2.2.2.1 : Int) - 1)) (bq (nxp P c).1) (kq (nxp P c).2.2.2.2) (iI (P.2.1 : Int)) (iI (j : Int)) (iI (bfc P c : Int)) = some (ge_z (m.any fun c => sfp P c && mtd (nxp P c)), iI ((j + 1 + m.length : Nat) : Int), rc, rn3', rc3', iI (P.2.1 : Int), iI (P.2.2.1 : Int), iI ((P.2.2.2.1 : Int) - 1), bq P.1, kq P.2.2.2.2) := by
      intro rn9 rc9
      obtain ⟨x, y, e⟩ := ih' rn9 rc9
      refine ⟨x, y, ?_⟩
      rw [bk_S_forcesMate_2_105, bk_S_forcesMate_2_106, iI_cn (show j < _ by omega), rtl_h hl]
      refine hd_ck hin (hd_b bk (hd_T rfl ?_))
      rw [← e]
      show lo_S_forcesMate_2_38 _ n _ _ _ _ _ _ _ _ _ _ (iI (j : Int) + 1) = _
      rw [iI_s1]
    rw [len_c, lo_S_forcesMate_2_38_s, iI_cn (show j < _ by omega), rtl_h hl, List.any_cons]
    have h1 : ¬ (1 : Int32) < iI 1 := by decide
    cases hx : chp (nxp P c) with
    | false =>
      rw [hx] at ot
      obtain ⟨x, y, e⟩ := step rn3 rc3
      refine ⟨x, y, ?_⟩
      have em : mtd (nxp P c) = false := by rw [mtd, hx]; rfl
      rw [em, Bool.and_false, Bool.false_or]
      exact hd_F hF (hd_ck hin (hd_b pl (hd_F h1 (hd_b ot (hd_T rfl e)))))
    | true =>
      rw [hx] at ot
      cases hs : sfp P c with
      | false =>
        rw [hs] at ow
        obtain ⟨x, y, e⟩ := step rn3 rc3
        refine ⟨x, y, ?_⟩
        rw [Bool.false_and, Bool.false_or]
        refine hd_F hF (hd_ck hin (hd_b pl (hd_F h1 (hd_b ot (hd_F gzT ?_)))))
        rw [bk_S_forcesMate_2_78]
        exact hd_b ow (hd_F gzT e)
      | true =>
        rw [hs] at ow
        have hpn := nxp_pv h (sfp_lm hcm hs)
        obtain ⟨rn9, rc9, l9⟩ := s_lost3 hpn rn3 rc3
        have l9' : fn_S_isLost_3 rn3 rc3 (iI ((nxp P c).2.1 : Int)) (iI ((nxp P c).2.2.1 : Int)) (iI (((nxp P c).2.2.2.1 : Int) - 1)) (bq (nxp P c).1) (kq (nxp P c).2.2.2.2) (iI 1 - 1) = _ := l9
        rw [Bool.true_and]
        cases hm : mtd (nxp P c) with
        | false =>
          rw [hm] at l9'
          obtain ⟨x, y, e⟩ := step rn9 rc9
          refine ⟨x, y, ?_⟩
          rw [Bool.false_or]
          refine hd_F hF (hd_ck hin (hd_b pl (hd_F h1 (hd_b ot (hd_F gzT ?_)))))
          rw [bk_S_forcesMate_2_78]
          exact hd_b ow (hd_T rfl (hd_b l9' (hd_T rfl e)))
        | true =>
          rw [hm] at l9'
          refine ⟨rn9, rc9, ?_⟩
          rw [Bool.true_or]
          refine hd_F hF (hd_ck hin (hd_b pl (hd_F h1 (hd_b ot (hd_F gzT ?_)))))
          rw [bk_S_forcesMate_2_78]
          refine hd_b ow (hd_T rfl (hd_b l9' (hd_F gzT ?_)))
          rw [bk_S_forcesMate_2_106, iI_cn (show j < _ by omega), rtl_h hl]
          exact hd_ck hin (hd_b bk (hd_F (by decide) rfl))
theorem any_f {α : Type} (l : List α) (p q : α → Bool) : (l.any fun c => p c && q c) = (l.filter p).any q := by
  induction l with
  | nil => rfl
  | cons a l ih =>
    rw [List.any_cons, List.filter_cons]
    cases hp : p a with
    | false => rw [Bool.false_and, Bool.false_or, ih]; rfl
    | true => rw [if_pos rfl, List.any_cons, Bool.true_and, ih]
theorem s_force2 {P : Ps} (h : pvp P) (n : Nat) (hn : n < 2) (rn2 : Int32) (rc2 : Nat → Int32) (rn3 : Int32) (rc3 : Nat → Int32) : ∃ (rn2' : Int32) (rc2' : Nat → Int32) (rn3' : Int32) (rc3' : Nat → Int32), fn_S_forcesMate_2 rn2 rc2 rn3 rc3 (iI (P.2.1 : Int)) (iI (P.2.2.1 : Int)) (iI ((P.2.2.2.1 : Int) - 1)) (bq P.1) (kq P.2.2.2.2) (iI (n : Int)) = some (ge_z (decide (n = 1) && m1 P), rn2', rc2', rn3', rc3', iI (P.2.1 : Int), iI (P.2.2.1 : Int), iI ((P.2.2.2.1 : Int) - 1), bq P.1, kq P.2.2.2.2) := by
  rw [fn_S_forcesMate_2]
  rcases (show n = 0 ∨ n = 1 by omega) with rfl | rfl
  · exact ⟨_, _, _, _, hd_T (by decide) rfl⟩
  · obtain ⟨rc', q1, q2⟩ := c_list h rn2 rc2
    have hl := cdp_len h
    obtain ⟨x, y, e⟩ := force2_lo h (cdp P) 0 qq_FU rc' rn3 rc3 (fun c hc => hc) (by omega) (by rw [fu1]; omega) (rtl_0 q2)
    rw [Nat.zero_add, show iI ((0 : Nat) : Int) = 0 from rfl, any_f] at e
    exact ⟨_, _, _, _, hd_F (by decide) (hd_b q1 e)⟩
def fmn (n : Nat) (P : Ps) : Bool := decide (n = 1) && m1 P
theorem lost1_lo {P : Ps} (h : pvp P) (N : Nat) (hN : N < 2) : ∀ (m : List Nat) (j n : Nat) (rc : Nat → Int32) (acc : Bool) (rn2 : Int32) (rc2 : Nat → Int32) (rn3 : Int32) (rc3 : Nat → Int32), (∀ c ∈ m, c ∈ cdp P) → j + m.length ≤ 415 → m.length + 1 ≤ n → rtl rc j m →
    ∃ (rn2' : Int32) (rc2' : Nat → Int32) (rn3' : Int32) (rc3' : Nat → Int32), lo_S_isLost_1_37 (iI (N : Int)) n (iI ((j + m.length : Nat) : Int)) rc rn2 rc2 rn3 rc3 (iI (P.2.1 : Int)) (iI (P.2.2.1 : Int)) (iI ((P.2.2.2.1 : Int) - 1)) (bq P.1) (kq P.2.2.2.2) (iI (P.2.1 : Int)) (ge_z acc) (iI (j : Int)) = some (ge_z ((m.filter (sfp P)).all (fun c => fmn N (nxp P c)) && (acc || (!(m.filter (sfp P)).isEmpty || chp P))), iI ((j + m.length : Nat) : Int), rc, rn2', rc2', rn3', rc3', iI (P.2.1 : Int), iI (P.2.2.1 : Int), iI ((P.2.2.2.1 : Int) - 1), bq P.1, kq P.2.2.2.2) := by
  intro m
  induction m with
  | nil =>
    intro j n rc acc rn2 rc2 rn3 rc3 hc hj hn hl
    obtain ⟨n, rfl⟩ : ∃ n', n = n' + 1 := ⟨n - 1, by simp at hn; omega⟩
    refine ⟨rn2, rc2, rn3, rc3, ?_⟩
    have ck := c_now h
    have e : ((([] : List Nat).filter (sfp P)).all (fun c => fmn N (nxp P c)) && (acc || (!(([] : List Nat).filter (sfp P)).isEmpty || chp P))) = (acc || chp P) := rfl
    rw [lo_S_isLost_1_37_s, e]
    refine hd_T ?_ ?_
    · rw [List.length_nil, Nat.add_zero]; exact Int32.le_refl _
    · cases acc with
      | true => exact hd_F gzT (show bk_S_isLost_1_164 _ _ _ _ _ _ _ _ _ _ _ _ 1 = _ from hd_ck (by decide) rfl)
      | false =>
        rw [Bool.false_or]
        refine hd_T rfl (hd_b ck ?_)
        cases chp P with
        | false => exact hd_T rfl (hd_ck (by decide) rfl)
        | true => exact hd_F gzT (show bk_S_isLost_1_164 _ _ _ _ _ _ _ _ _ _ _ _ 1 = _ from hd_ck (by decide) rfl)
  | cons c m ih =>
    intro j n rc acc rn2 rc2 rn3 rc3 hc hj hn hl
    obtain ⟨n, rfl⟩ : ∃ n', n = n' + 1 := ⟨n - 1, by simp at hn; omega⟩
    rw [List.length_cons] at hj hn
    have hcm := hc c List.mem_cons_self
    have hF : ¬ iI ((j + 1 + m.length : Nat) : Int) ≤ iI (j : Int) := by rw [iI_le (by omega) (by omega) (by omega) (by omega)]; omega
    have hin : qq_in (iI (j : Int)) 415 = true := iI_in (by omega) (by omega) (by omega)
    have pl := c_play h hcm
    have bk := c_back h hcm
    have ow := c_own h hcm
    have ih' := fun acc a b c d => ih (j + 1) n rc acc a b c d (fun x hx => hc x (List.mem_cons_of_mem _ hx)) (by omega) (by omega) (rtl_t hl)
    rw [len_c, lo_S_isLost_1_37_s, iI_cn (show j < _ by omega), rtl_h hl, List.filter_cons]
    cases hs : sfp P c with
    | false =>
      rw [hs] at ow
      rw [if_neg (c := false = true) (by decide)]
      obtain ⟨x, y, z, w, e⟩ := ih' acc rn2 rc2 rn3 rc3
      refine ⟨x, y, z, w, ?_⟩
      refine hd_F hF (hd_ck hin (hd_b pl (hd_b ow (hd_F gzT ?_))))
      rw [bk_S_isLost_1_75]
      refine hd_T rfl ?_
      rw [bk_S_isLost_1_98, bk_S_isLost_1_99, iI_cn (show j < _ by omega), rtl_h hl]
      refine hd_ck hin (hd_b bk (hd_T rfl ?_))
      rw [← e]
      cases acc with
      | false =>
        refine hd_T rfl (hd_T rfl ?_)
        show lo_S_isLost_1_37 _ n _ _ _ _ _ _ _ _ _ _ _ _ _ (iI (j : Int) + 1) = _
        rw [iI_s1]; rfl
      | true =>
        refine hd_F gzT ?_
        show lo_S_isLost_1_37 _ n _ _ _ _ _ _ _ _ _ _ _ _ _ (iI (j : Int) + 1) = _
        rw [iI_s1]; rfl
    | true =>
      rw [hs] at ow
      rw [if_pos (c := true = true) rfl, List.all_cons]
      have hpn := nxp_pv h (sfp_lm hcm hs)
      obtain ⟨a, b, c', d, f2⟩ := s_force2 hpn N hN rn2 rc2 rn3 rc3
      have f2' : _ = some (ge_z (fmn N (nxp P c)), _) := f2
      cases hm : fmn N (nxp P c) with
      | false =>
        rw [hm] at f2'
        refine ⟨a, b, c', d, ?_⟩
        refine hd_F hF (hd_ck hin (hd_b pl (hd_b ow (hd_T rfl ?_))))
        rw [bk_S_isLost_1_75]
        refine hd_F (by decide) (hd_b f2' (hd_T rfl ?_))
        rw [bk_S_isLost_1_99, iI_cn (show j < _ by omega), rtl_h hl]
        exact hd_ck hin (hd_b bk (hd_F (by decide) rfl))
      | true =>
        rw [hm] at f2'
        obtain ⟨x, y, z, w, e⟩ := ih' true a b c' d
        refine ⟨x, y, z, w, ?_⟩
        refine hd_F hF (hd_ck hin (hd_b pl (hd_b ow (hd_T rfl ?_))))
        rw [bk_S_isLost_1_75]
        refine hd_F (by decide) (hd_b f2' (hd_F gzT ?_))
        rw [bk_S_isLost_1_98, bk_S_isLost_1_99, iI_cn (show j < _ by omega), rtl_h hl]
        refine hd_ck hin (hd_b bk (hd_T rfl ?_))
        have el : (!(c :: m.filter (sfp P)).isEmpty) = true := rfl
        rw [el, Bool.true_and, Bool.true_or, Bool.or_true]
        rw [Bool.true_or] at e
        rw [← e]
        cases acc with
        | false =>
          refine hd_T rfl (hd_F (by decide) ?_)
          show lo_S_isLost_1_37 _ n _ _ _ _ _ _ _ _ _ _ _ _ _ (iI (j : Int) + 1) = _
          rw [iI_s1]; rfl
        | true =>
          refine hd_F gzT ?_
          show lo_S_isLost_1_37 _ n _ _ _ _ _ _ _ _ _ _ _ _ _ (iI (j : Int) + 1) = _
          rw [iI_s1]; rfl
def lo1 (N : Nat) (P : Ps) : Bool := (lmp P).all (fun c => fmn N (nxp P c)) && (!(lmp P).isEmpty || chp P)
theorem s_lost1 {P : Ps} (h : pvp P) (N : Nat) (hN : N < 2) (rn1 : Int32) (rc1 : Nat → Int32) (rn2 : Int32) (rc2 : Nat → Int32) (rn3 : Int32) (rc3 : Nat → Int32) : ∃ (rn1' : Int32) (rc1' : Nat → Int32) (rn2' : Int32) (rc2' : Nat → Int32) (rn3' : Int32) (rc3' : Nat → Int32), fn_S_isLost_1 rn1 rc1 rn2 rc2 rn3 rc3 (iI (P.2.1 : Int)) (iI (P.2.2.1 : Int)) (iI ((P.2.2.2.1 : Int) - 1)) (bq P.1) (kq P.2.2.2.2) (iI (N : Int)) = some (ge_z (lo1 N P), rn1', rc1', rn2', rc2', rn3', rc3', iI (P.2.1 : Int), iI (P.2.2.1 : Int), iI ((P.2.2.2.1 : Int) - 1), bq P.1, kq P.2.2.2.2) := by
  obtain ⟨rc', q1, q2⟩ := c_list h rn1 rc1
  have hl := cdp_len h
  obtain ⟨x, y, z, w, e⟩ := lost1_lo h N hN (cdp P) 0 qq_FU rc' false rn2 rc2 rn3 rc3 (fun c hc => hc) (by omega) (by rw [fu1]; omega) (rtl_0 q2)
  rw [Nat.zero_add, show iI ((0 : Nat) : Int) = 0 from rfl, show ge_z false = 0 from rfl, Bool.false_or] at e
  refine ⟨iI ((cdp P).length : Int), rc', x, y, z, w, ?_⟩
  rw [fn_S_isLost_1]
  exact hd_b q1 e
/-- forcing mate at depth 0 -/
theorem force0_lo {P : Ps} (h : pvp P) (N : Nat) (hN : N < 2) : ∀ (m : List Nat) (j n : Nat) (rc : Nat → Int32) (rn1 : Int32) (rc1 : Nat → Int32) (rn2 : Int32) (rc2 : Nat → Int32) (rn3 : Int32) (rc3 : Nat → Int32), (∀ c ∈ m, c ∈ cdp P) → j + m.length ≤ 415 → m.length + 1 ≤ n → rtl rc j m →
    ∃ (rn1' : Int32) (rc1' : Nat → Int32) (rn2' : Int32) (rc2' : Nat → Int32) (rn3' : Int32) (rc3' : Nat → Int32), lo_S_forcesMate_0_38 (iI ((N + 1 : Nat) : Int)) n (iI ((j + m.length : Nat) : Int)) rc rn1 rc1 rn2 rc2 rn3 rc3 (iI (P.2.1 : Int)) (iI (P.2.2.1 : Int)) (iI ((P.2.2.2.1 : Int) - 1)) (bq P.1) (kq P.2.2.2.2) (iI (P.2.1 : Int)) (iI (j : Int)) = some (ge_z (m.any fun c => sfp P c && ((decide (N = 1) || chp (nxp P c)) && lo1 N (nxp P c))), iI ((j + m.length : Nat) : Int), rc, rn1', rc1', rn2', rc2', rn3', rc3', iI (P.2.1 : Int), iI (P.2.2.1 : Int), iI ((P.2.2.2.1 : Int) - 1), bq P.1, kq P.2.2.2.2) := by
  intro m
  induction m with
  | nil =>
    intro j n rc rn1 rc1 rn2 rc2 rn3 rc3 hc hj hn hl
    obtain ⟨n, rfl⟩ : ∃ n', n = n' + 1 := ⟨n - 1, by simp at hn; omega⟩
    refine ⟨rn1, rc1, rn2, rc2, rn3, rc3, ?_⟩
    rw [lo_S_forcesMate_0_38_s]
    refine hd_T ?_ rfl
    rw [List.length_nil, Nat.add_zero]; exact Int32.le_refl _
  | cons c m ih =>
    intro j n rc rn1 rc1 rn2 rc2 rn3 rc3 hc hj hn hl
    obtain ⟨n, rfl⟩ : ∃ n', n = n' + 1 := ⟨n - 1, by simp at hn; omega⟩
    rw [List.length_cons] at hj hn
    have hcm := hc c List.mem_cons_self
    have hF : ¬ iI ((j + 1 + m.length : Nat) : Int) ≤ iI (j : Int) := by rw [iI_le (by omega) (by omega) (by omega) (by omega)]; omega
    have hin : qq_in (iI (j : Int)) 415 = true := iI_in (by omega) (by omega) (by omega)
    have pl := c_play h hcm
    have bk := c_back h hcm
    have ow := c_own h hcm
    have ot := c_oth h hcm
    have ih' := fun a b c d e f => ih (j + 1) n rc a b c d e f (fun x hx => hc x (List.mem_cons_of_mem _ hx)) (by omega) (by omega) (rtl_t hl)
    have step : ∀ (a9 : Int32) (b9 : Nat → Int32) (c9 : Int32) (d9 : Nat → Int32) (rn9 : Int32) (rc9 : Nat → Int32), ∃ (rn1' : Int32) (rc1' : Nat → Int32) (rn2' : Int32) (rc2' : Nat → Int32) (rn3' : Int32) (rc3' : Nat → Int32), bk_S_forcesMate_0_105 (iI ((N + 1 : Nat) : Int)) (lo_S_forcesMate_0_38 (iI ((N + 1 : Nat) : Int)) n) (iI ((j + 1 + m.length : Nat) : Int)) rc a9 b9 c9 d9 rn9 rc9 (iI ((nxp P c).2.1 : Int)) (iI ((nxp P c).2.2.1 : Int)) (iI (((nxp P c).2.2.2.1 : Int) - 1)) (bq (nxp P c).1) (kq (nxp P c).2.2.2.2) (iI (P.2.1 : Int)) (iI (j : Int)) (iI (bfc P c : Int)) = some (ge_z (m.any fun c => sfp P c && ((decide (N = 1) || chp (nxp P c)) && lo1 N (nxp P c))), iI ((j + 1 + m.length : Nat) : Int), rc, rn1', rc1', rn2', rc2', rn3', rc3', iI (P.2.1 : Int), iI (P.2.2.1 : Int), iI ((P.2.2.2.1 : Int) - 1), bq P.1, kq P.2.2.2.2) := by
      intro a9 b9 c9 d9 rn9 rc9
      obtain ⟨x1, x2, x3, x4, x5, x6, e⟩ := ih' a9 b9 c9 d9 rn9 rc9
      refine ⟨x1, x2, x3, x4, x5, x6, ?_⟩
      rw [bk_S_forcesMate_0_105, bk_S_forcesMate_0_106, iI_cn (show j < _ by omega), rtl_h hl]
      refine hd_ck hin (hd_b bk (hd_T rfl ?_))
      rw [← e]
      show lo_S_forcesMate_0_38 _ n _ _ _ _ _ _ _ _ _ _ _ _ _ _ (iI (j : Int) + 1) = _
      rw [iI_s1]
    have e78 : ∃ (rn1' : Int32) (rc1' : Nat → Int32) (rn2' : Int32) (rc2' : Nat → Int32) (rn3' : Int32) (rc3' : Nat → Int32), bk_S_forcesMate_0_78 (iI ((N + 1 : Nat) : Int)) (lo_S_forcesMate_0_38 (iI ((N + 1 : Nat) : Int)) n) (iI ((j + 1 + m.length : Nat) : Int)) rc rn1 rc1 rn2 rc2 rn3 rc3 (iI ((nxp P c).2.1 : Int)) (iI ((nxp P c).2.2.1 : Int)) (iI (((nxp P c).2.2.2.1 : Int) - 1)) (bq (nxp P c).1) (kq (nxp P c).2.2.2.2) (iI (P.2.1 : Int)) (iI (j : Int)) (iI (bfc P c : Int)) = some (ge_z ((sfp P c && lo1 N (nxp P c)) || m.any fun c => sfp P c && ((decide (N = 1) || chp (nxp P c)) && lo1 N (nxp P c))), iI ((j + 1 + m.length : Nat) : Int), rc, rn1', rc1', rn2', rc2', rn3', rc3', iI (P.2.1 : Int), iI (P.2.2.1 : Int), iI ((P.2.2.2.1 : Int) - 1), bq P.1, kq P.2.2.2.2) := by
      rw [bk_S_forcesMate_0_78]
      cases hs : sfp P c with
      | false =>
        rw [hs] at ow
        obtain ⟨x1, x2, x3, x4, x5, x6, e⟩ := step rn1 rc1 rn2 rc2 rn3 rc3
        refine ⟨x1, x2, x3, x4, x5, x6, ?_⟩
        rw [Bool.false_and, Bool.false_or]
        exact hd_b ow (hd_F gzT e)
      | true =>
        rw [hs] at ow
        have hpn := nxp_pv h (sfp_lm hcm hs)
        obtain ⟨y1, y2, y3, y4, y5, y6, l9⟩ := s_lost1 hpn N hN rn1 rc1 rn2 rc2 rn3 rc3
        have eN : iI ((N + 1 : Nat) : Int) - 1 = iI (N : Int) := by
          show iI _ - iI 1 = _
          rw [iI_sub]; congr 1; omega
        rw [Bool.true_and, eN]
        cases hm : lo1 N (nxp P c) with
        | false =>
          rw [hm] at l9
          obtain ⟨x1, x2, x3, x4, x5, x6, e⟩ := step y1 y2 y3 y4 y5 y6
          refine ⟨x1, x2, x3, x4, x5, x6, ?_⟩
          rw [Bool.false_or]
          exact hd_b ow (hd_T rfl (hd_b l9 (hd_T rfl e)))
        | true =>
          rw [hm] at l9
          refine ⟨y1, y2, y3, y4, y5, y6, ?_⟩
          rw [Bool.true_or]
          refine hd_b ow (hd_T rfl (hd_b l9 (hd_F gzT ?_)))
          rw [bk_S_forcesMate_0_106, iI_cn (show j < _ by omega), rtl_h hl]
          exact hd_ck hin (hd_b bk (hd_F (by decide) rfl))
    rw [len_c, lo_S_forcesMate_0_38_s, iI_cn (show j < _ by omega), rtl_h hl, List.any_cons]
    obtain ⟨x1, x2, x3, x4, x5, x6, e⟩ := e78
    rcases (show N = 0 ∨ N = 1 by omega) with hN0 | hN1
    · have h1 : ¬ (1 : Int32) < iI ((N + 1 : Nat) : Int) := by rw [hN0]; decide
      have d0 : decide (N = 1) = false := by rw [hN0]; rfl
      cases hx : chp (nxp P c) with
      | false =>
        rw [hx] at ot
        obtain ⟨z1, z2, z3, z4, z5, z6, ez⟩ := step rn1 rc1 rn2 rc2 rn3 rc3
        refine ⟨z1, z2, z3, z4, z5, z6, ?_⟩
        rw [show (sfp P c && ((decide (N = 1) || false) && lo1 N (nxp P c))) = false by rw [d0]; simp, Bool.false_or]
        exact hd_F hF (hd_ck hin (hd_b pl (hd_F h1 (hd_b ot (hd_T rfl ez)))))
      | true =>
        rw [hx] at ot
        refine ⟨x1, x2, x3, x4, x5, x6, ?_⟩
        rw [show (sfp P c && ((decide (N = 1) || true) && lo1 N (nxp P c))) = (sfp P c && lo1 N (nxp P c)) by simp]
        exact hd_F hF (hd_ck hin (hd_b pl (hd_F h1 (hd_b ot (hd_F gzT e)))))
    · have h1 : (1 : Int32) < iI ((N + 1 : Nat) : Int) := by rw [hN1]; decide
      refine ⟨x1, x2, x3, x4, x5, x6, ?_⟩
      rw [show (sfp P c && ((decide (N = 1) || chp (nxp P c)) && lo1 N (nxp P c))) = (sfp P c && lo1 N (nxp P c)) by rw [hN1]; simp]
      exact hd_F hF (hd_ck hin (hd_b pl (hd_T h1 e)))
theorem any_cg {α : Type} {l : List α} {p q : α → Bool} (h : ∀ x ∈ l, p x = q x) : l.any p = l.any q := by
  induction l with
  | nil => rfl
  | cons a l ih => rw [List.any_cons, List.any_cons, h a List.mem_cons_self, ih (fun x hx => h x (List.mem_cons_of_mem _ hx))]
theorem lo1_0 (P : Ps) : (chp P && lo1 0 P) = mtd P := by
  rw [lo1, mtd]
  cases hx : lmp P with
  | nil => cases chp P <;> rfl
  | cons c l => cases chp P <;> rfl
theorem lo1_1 (P : Ps) : lo1 1 P = (mtd P || alm P) := by
  rw [lo1, mtd, alm]
  cases hx : lmp P with
  | nil => cases chp P <;> rfl
  | cons c l =>
    show ((c :: l).all (fun c => fmn 1 (nxp P c)) && (true || chp P)) = ((chp P && false) || (true && (c :: l).all fun c => m1 (nxp P c)))
    rw [Bool.true_or, Bool.and_true, Bool.and_false, Bool.false_or, Bool.true_and]
    rfl
def fmz (n : Nat) (P : Ps) : Bool := if n = 1 then m1 P else (m1 P || m2 P)
theorem s_force0 {P : Ps} (h : pvp P) (N : Nat) (h1 : 1 ≤ N) (h2 : N ≤ 2) (rn0 : Int32) (rc0 : Nat → Int32) (rn1 : Int32) (rc1 : Nat → Int32) (rn2 : Int32) (rc2 : Nat → Int32) (rn3 : Int32) (rc3 : Nat → Int32) : ∃ (rn0' : Int32) (rc0' : Nat → Int32) (rn1' : Int32) (rc1' : Nat → Int32) (rn2' : Int32) (rc2' : Nat → Int32) (rn3' : Int32) (rc3' : Nat → Int32), fn_S_forcesMate_0 rn0 rc0 rn1 rc1 rn2 rc2 rn3 rc3 (iI (P.2.1 : Int)) (iI (P.2.2.1 : Int)) (iI ((P.2.2.2.1 : Int) - 1)) (bq P.1) (kq P.2.2.2.2) (iI (N : Int)) = some (ge_z (fmz N P), rn0', rc0', rn1', rc1', rn2', rc2', rn3', rc3', iI (P.2.1 : Int), iI (P.2.2.1 : Int), iI ((P.2.2.2.1 : Int) - 1), bq P.1, kq P.2.2.2.2) := by
  obtain ⟨rc', q1, q2⟩ := c_list h rn0 rc0
  have hl := cdp_len h
  obtain ⟨M, rfl⟩ : ∃ M, N = M + 1 := ⟨N - 1, by omega⟩
  obtain ⟨x1, x2, x3, x4, x5, x6, e⟩ := force0_lo h M (by omega) (cdp P) 0 qq_FU rc' rn1 rc1 rn2 rc2 rn3 rc3 (fun c hc => hc) (by omega) (by rw [fu1]; omega) (rtl_0 q2)
  rw [Nat.zero_add, show iI ((0 : Nat) : Int) = 0 from rfl, any_f] at e
  have ef : (((cdp P).filter (sfp P)).any fun c => (decide (M = 1) || chp (nxp P c)) && lo1 M (nxp P c)) = fmz (M + 1) P := by
    rw [← lmp_f]
    rcases (show M = 0 ∨ M = 1 by omega) with rfl | rfl
    · rw [fmz, if_pos rfl, m1]
      apply any_cg
      intro c _
      rw [show decide (0 = 1) = false from rfl, Bool.false_or, lo1_0]
    · rw [fmz, if_neg (by decide), m1, m2]
      induction lmp P with
      | nil => rfl
      | cons c l ih =>
        rw [List.any_cons, List.any_cons, List.any_cons, ih, lo1_1]
        cases mtd (nxp P c) <;> cases alm (nxp P c) <;> simp
  rw [ef] at e
  refine ⟨iI ((cdp P).length : Int), rc', x1, x2, x3, x4, x5, x6, ?_⟩
  rw [fn_S_forcesMate_0]
  refine hd_F ?_ (hd_b q1 e)
  show ¬ iI _ ≤ iI 0
  rw [iI_le (by omega) (by omega) (by omega) (by omega)]; omega
