/-! collect: the model's list of moves is the class's -/
def pms (b : Bd) (sd r pp : Nat) (k : Nat → Nat) (a t : Nat) : List Nat := ((pml b a t).filter fun p => gs b sd r pp (k sd) a t p && sf b sd k a t p).map fun p => cod a t p
def pma (b : Bd) (sd r pp : Nat) (k : Nat → Nat) (a : Nat) : List Nat := if isOf (b a) sd = true then (List.range' 0 64).flatMap (pms b sd r pp k a) else []
theorem lms_eq {b : Bd} {sd r pp : Nat} {k : Nat → Nat} (h : pv b sd r pp k) : lms b sd r pp k = (List.range' 0 64).flatMap (pma b sd r pp k) := by
  rw [lms, cands_eq h, List.filter_flatMap]
  apply fm_congr
  intro a ha
  rw [List.mem_range'_1] at ha
  rw [mca, pma]
  split
  · rw [List.filter_flatMap]
    apply fm_congr
    intro t ht
    rw [List.mem_range'_1] at ht
    rw [mct, pms, List.filter_map, List.filter_filter]
    congr 1
    apply List.filter_congr
    intro p _
    show (sfc b sd k (cod a t p) && gs b sd r pp (k sd) a t p) = _
    rw [sfc_e (by omega) (by omega), Bool.and_comm]
  · rfl
def lrow (lv : Nat) (li : Nat → Int32) (l : List Nat) : Prop := ∀ j (h : j < l.length), li (440 * lv + j) = iI ((l[j] : Nat) : Int)
def lbl (lv : Nat) (li li' : Nat → Int32) : Prop := ∀ i, i < 440 * lv → li' i = li i
theorem lrow_add {lv : Nat} {li : Nat → Int32} {l : List Nat} (h : lrow lv li l) (c : Nat) : lrow lv (upd li (440 * lv + l.length) (iI (c : Int))) (l ++ [c]) := by
  intro j hj
  rw [List.length_append, List.length_singleton] at hj
  by_cases e : j = l.length
  · subst e
    rw [upd_at, List.getElem_append_right (Nat.le_refl _)]
    simp
  · rw [upd_ne _ _ (by omega), List.getElem_append_left (by omega)]
    exact h j (by omega)
theorem i440 (l j : Nat) : (440 : Int32) * iI (l : Int) + iI (j : Int) = iI ((440 * l + j : Nat) : Int) := by
  show iI 440 * iI _ + iI _ = _
  rw [iI_mul, iI_add]; congr 1
theorem icod (a t p : Nat) : iI (a : Int) + 64 * iI (t : Int) + 4096 * iI (p : Int) = iI (cod a t p : Int) := by
  show iI _ + iI 64 * iI _ + iI 4096 * iI _ = _
  rw [iI_mul, iI_mul, iI_add, iI_add]; congr 1
theorem col_82 {b : Bd} {sd r pp : Nat} {k : Nat → Nat} (h : pv b sd r pp k) {lv a t : Nat} (hlv : lv < 3) (ha : a < 64) (ht : t < 64) (q : Int32)
    (k4 : Int32 → Int32 → Int32 → Int32 → (Nat → Int32) → (Nat → Int32) → (Nat → Int32) → (Nat → Int32) → (Nat → Int32) → (Nat → Int32) → (Nat → Int32) → Int32 → Int32 → Option ty_M_collect)
    (k13 : Int32 → Int32 → Int32 → Int32 → (Nat → Int32) → (Nat → Int32) → (Nat → Int32) → (Nat → Int32) → (Nat → Int32) → (Nat → Int32) → (Nat → Int32) → Int32 → Int32 → Int32 → Option ty_M_collect)
    (pr : Bool) : ∀ (m p n : Nat) (K : KT) (li : Nat → Int32) (l : List Nat), p + m = (if pr then 5 else 0) + 1 → m + 1 ≤ n → lrow lv li l → l.length + (((List.range' p m).filter fun p => gs b sd r pp (k sd) a t p && sf b sd k a t p).map fun p => cod a t p).length ≤ 415 →
    ∃ (K' : KT) (li' : Nat → Int32), lo_M_collect_82 (iI (lv : Int)) k4 k13 n (iI (sd : Int)) (iI (r : Int)) (iI ((pp : Int) - 1)) q (bq b) K.1 K.2.1 K.2.2.1 K.2.2.2.1 K.2.2.2.2 li (iI (l.length : Int)) (iI (a : Int)) (iI (t : Int)) (ge_z pr) (iI (p : Int)) = k13 (iI (sd : Int)) (iI (r : Int)) (iI ((pp : Int) - 1)) q (bq b) K'.1 K'.2.1 K'.2.2.1 K'.2.2.2.1 K'.2.2.2.2 li' (iI ((l ++ ((List.range' p m).filter fun p => gs b sd r pp (k sd) a t p && sf b sd k a t p).map fun p => cod a t p).length : Int)) (iI (a : Int)) (iI ((t + 1 : Nat) : Int)) ∧ kag 3 K K' ∧ lrow lv li' (l ++ ((List.range' p m).filter fun p => gs b sd r pp (k sd) a t p && sf b sd k a t p).map fun p => cod a t p) ∧ lbl lv li li' := by
  intro m
  have hif : ∀ (n : Nat) (K : KT) (li : Nat → Int32) (x2 : Int32) (p : Nat), lo_M_collect_82 (iI (lv : Int)) k4 k13 (n + 1) (iI (sd : Int)) (iI (r : Int)) (iI ((pp : Int) - 1)) q (bq b) K.1 K.2.1 K.2.2.1 K.2.2.2.1 K.2.2.2.2 li x2 (iI (a : Int)) (iI (t : Int)) (ge_z pr) (iI (p : Int)) = bk_M_collect_94 (iI (lv : Int)) k4 k13 (lo_M_collect_82 (iI (lv : Int)) k4 k13 n) (iI (sd : Int)) (iI (r : Int)) (iI ((pp : Int) - 1)) q (bq b) K.1 K.2.1 K.2.2.1 K.2.2.2.1 K.2.2.2.2 li x2 (iI (a : Int)) (iI (t : Int)) (ge_z pr) (iI (p : Int)) (iI (p : Int)) (iI (((if pr then 5 else 0 : Nat)) : Int)) := by
    intro n K li x2 p
    rw [lo_M_collect_82_s]
    cases pr with
    | false => exact hd_T rfl rfl
    | true => exact hd_F gzT rfl
  induction m with
  | zero =>
    intro p n K li l hp hn hr hl
    obtain ⟨n, rfl⟩ : ∃ n', n = n' + 1 := ⟨n - 1, by omega⟩
    have hpl : (if pr then 5 else 0 : Nat) ≤ 5 := by split <;> omega
    refine ⟨K, li, ?_, kag_r _ _, by simpa using hr, fun _ _ => rfl⟩
    rw [hif, bk_M_collect_94]
    refine hd_T (by rw [iI_lt (by omega) (by omega) (by omega) (by omega)]; omega) ?_
    show k13 _ _ _ _ _ _ _ _ _ _ _ _ _ (iI (t : Int) + 1) = _
    rw [iI_s1]
    simp
  | succ m ih =>
    intro p n K li l hp hn hr hl
    obtain ⟨n, rfl⟩ : ∃ n', n = n' + 1 := ⟨n - 1, by omega⟩
    have hpl : (if pr then 5 else 0 : Nat) ≤ 5 := by split <;> omega
    obtain ⟨K1, q1, q2⟩ := m_isMove h ha ht (show p < 6 by omega) q K
    rw [List.range'_succ, List.filter_cons] at hl ⊢
    cases hg : gs b sd r pp (k sd) a t p && sf b sd k a t p with
    | false =>
      rw [hg] at q1
      rw [hg, if_neg (by decide)] at hl
      rw [if_neg (by decide)]
      obtain ⟨K2, li2, r1, r2, r3, r4⟩ := ih (p + 1) n K1 li l (by omega) (by omega) hr hl
      refine ⟨K2, li2, ?_, kag_t q2 r2, r3, r4⟩
      rw [hif, bk_M_collect_94]
      refine hd_F (by rw [iI_lt (by omega) (by omega) (by omega) (by omega)]; omega) ?_
      refine hd_b q1 (hd_T rfl ?_)
      rw [← r1]
      show lo_M_collect_82 _ _ _ n _ _ _ _ _ _ _ _ _ _ _ _ _ _ _ (iI (p : Int) + 1) = _
      rw [iI_s1]
    | true =>
      rw [hg] at q1
      rw [hg, if_pos rfl, List.map_cons, List.length_cons] at hl
      rw [if_pos rfl, List.map_cons, show ∀ (x : Nat) (y : List Nat), l ++ x :: y = (l ++ [x]) ++ y from fun x y => by simp]
      have hll : (l ++ [cod a t p]).length = l.length + 1 := by simp
      obtain ⟨K2, li2, r1, r2, r3, r4⟩ := ih (p + 1) n K1 (upd li (440 * lv + l.length) (iI (cod a t p : Int))) (l ++ [cod a t p]) (by omega) (by omega) (lrow_add hr _) (by omega)
      refine ⟨K2, li2, ?_, kag_t q2 r2, r3, fun i hi => (r4 i hi).trans (upd_ne _ _ (by omega))⟩
      rw [hif, bk_M_collect_94]
      refine hd_F (by rw [iI_lt (by omega) (by omega) (by omega) (by omega)]; omega) ?_
      refine hd_b q1 (hd_F gzT ?_)
      rw [i440, iI_cn (show 440 * lv + l.length < _ by omega), icod]
      refine hd_ck (iI_in (by omega) (by omega) (by omega)) ?_
      rw [← r1]
      show lo_M_collect_82 _ _ _ n _ _ _ _ _ _ _ _ _ _ _ (iI (l.length : Int) + 1) _ _ _ (iI (p : Int) + 1) = _
      rw [iI_s1, iI_s1, hll]
theorem pml_pr (b : Bd) (a t : Nat) : pml b a t = List.range' (if decide (kd (b a) = 1 ∧ (t < 8 ∨ 55 < t)) = true then 2 else 0) (if decide (kd (b a) = 1 ∧ (t < 8 ∨ 55 < t)) = true then 4 else 1) := by
  rw [pml]
  by_cases h : kd (b a) = 1 ∧ (t < 8 ∨ 55 < t)
  · rw [if_pos h, if_pos (decide_eq_true h), if_pos (decide_eq_true h)]; rfl
  · rw [if_neg h, if_neg (by simpa using h), if_neg (by simpa using h)]; rfl
theorem col_63 (a1 : Int32) (k4 : Int32 → Int32 → Int32 → Int32 → (Nat → Int32) → (Nat → Int32) → (Nat → Int32) → (Nat → Int32) → (Nat → Int32) → (Nat → Int32) → (Nat → Int32) → Int32 → Int32 → Option ty_M_collect) (k13 : Int32 → Int32 → Int32 → Int32 → (Nat → Int32) → (Nat → Int32) → (Nat → Int32) → (Nat → Int32) → (Nat → Int32) → (Nat → Int32) → (Nat → Int32) → Int32 → Int32 → Int32 → Option ty_M_collect) (msd : Int32) (mrt : Int32) (mps : Int32) (mqt : Int32) (bd : Nat → Int32) (kp : Nat → Int32) (kS : Nat → Int32) (kR : Nat → Int32) (kP : Nat → Int32) (kQ : Nat → Int32) (li : Nat → Int32) (x2 : Int32) (x3 : Int32) (x4 : Int32) : bk_M_collect_63 a1 k4 k13 msd mrt mps mqt bd kp kS kR kP kQ li x2 x3 x4 = lo_M_collect_82 a1 k4 k13 qq_FU msd mrt mps mqt bd kp kS kR kP kQ li x2 x3 x4 (ge_z true) (iI ((2 : Nat) : Int)) := by
  rw [bk_M_collect_63, bk_M_collect_68, if_neg (by decide), bk_M_collect_80, show ge_z true = 1 from rfl, show iI ((2 : Nat) : Int) = 2 from rfl]
theorem col_67 (a1 : Int32) (k4 : Int32 → Int32 → Int32 → Int32 → (Nat → Int32) → (Nat → Int32) → (Nat → Int32) → (Nat → Int32) → (Nat → Int32) → (Nat → Int32) → (Nat → Int32) → Int32 → Int32 → Option ty_M_collect) (k13 : Int32 → Int32 → Int32 → Int32 → (Nat → Int32) → (Nat → Int32) → (Nat → Int32) → (Nat → Int32) → (Nat → Int32) → (Nat → Int32) → (Nat → Int32) → Int32 → Int32 → Int32 → Option ty_M_collect) (msd : Int32) (mrt : Int32) (mps : Int32) (mqt : Int32) (bd : Nat → Int32) (kp : Nat → Int32) (kS : Nat → Int32) (kR : Nat → Int32) (kP : Nat → Int32) (kQ : Nat → Int32) (li : Nat → Int32) (x2 : Int32) (x3 : Int32) (x4 : Int32) : bk_M_collect_67 a1 k4 k13 msd mrt mps mqt bd kp kS kR kP kQ li x2 x3 x4 = lo_M_collect_82 a1 k4 k13 qq_FU msd mrt mps mqt bd kp kS kR kP kQ li x2 x3 x4 (ge_z false) (iI ((0 : Nat) : Int)) := by
  rw [bk_M_collect_67, bk_M_collect_68, if_pos rfl, bk_M_collect_80, show ge_z false = 0 from rfl, show iI ((0 : Nat) : Int) = 0 from rfl]
theorem col_13 {b : Bd} {sd r pp : Nat} {k : Nat → Nat} (h : pv b sd r pp k) {lv a : Nat} (hlv : lv < 3) (ha : a < 64) (hof : isOf (b a) sd = true) (q : Int32)
    (k4 : Int32 → Int32 → Int32 → Int32 → (Nat → Int32) → (Nat → Int32) → (Nat → Int32) → (Nat → Int32) → (Nat → Int32) → (Nat → Int32) → (Nat → Int32) → Int32 → Int32 → Option ty_M_collect) :
    ∀ (m t n : Nat) (K : KT) (li : Nat → Int32) (l : List Nat), t + m = 64 → m + 1 ≤ n → lrow lv li l → l.length + ((List.range' t m).flatMap (pms b sd r pp k a)).length ≤ 415 →
    ∃ (K' : KT) (li' : Nat → Int32), lo_M_collect_13 (iI (lv : Int)) k4 n (iI (sd : Int)) (iI (r : Int)) (iI ((pp : Int) - 1)) q (bq b) K.1 K.2.1 K.2.2.1 K.2.2.2.1 K.2.2.2.2 li (iI (l.length : Int)) (iI (a : Int)) (iI (t : Int)) = k4 (iI (sd : Int)) (iI (r : Int)) (iI ((pp : Int) - 1)) q (bq b) K'.1 K'.2.1 K'.2.2.1 K'.2.2.2.1 K'.2.2.2.2 li' (iI ((l ++ (List.range' t m).flatMap (pms b sd r pp k a)).length : Int)) (iI ((a + 1 : Nat) : Int)) ∧ kag 3 K K' ∧ lrow lv li' (l ++ (List.range' t m).flatMap (pms b sd r pp k a)) ∧ lbl lv li li' := by
  intro m
  induction m with
  | zero =>
    intro t n K li l hp hn hr hl
    obtain ⟨n, rfl⟩ : ∃ n', n = n' + 1 := ⟨n - 1, by omega⟩
    refine ⟨K, li, ?_, kag_r _ _, by simpa using hr, fun _ _ => rfl⟩
    rw [lo_M_collect_13_s]
    refine hd_T (by show iI 64 ≤ iI _; rw [iI_le (by omega) (by omega) (by omega) (by omega)]; omega) ?_
    show k4 _ _ _ _ _ _ _ _ _ _ _ _ (iI (a : Int) + 1) = _
    rw [iI_s1]
    simp
  | succ m ih =>
    intro t n K li l hp hn hr hl
    obtain ⟨n, rfl⟩ : ∃ n', n = n' + 1 := ⟨n - 1, by omega⟩
    have ht : t < 64 := by omega
    rw [List.range'_succ, List.flatMap_cons] at hl ⊢
    rw [List.length_append] at hl
    have e := m_isOf (b a) sd h.1.1
    have e2 := m_kindOf (b a)
    have hin : qq_in (iI (a : Int)) 64 = true := iI_in (by omega) (by omega) (by omega)
    obtain ⟨K1, li1, r1, r2, r3, r4⟩ := col_82 h hlv ha ht q k4 (lo_M_collect_13 (iI (lv : Int)) k4 n) (decide (kd (b a) = 1 ∧ (t < 8 ∨ 55 < t))) (if decide (kd (b a) = 1 ∧ (t < 8 ∨ 55 < t)) = true then 4 else 1) (if decide (kd (b a) = 1 ∧ (t < 8 ∨ 55 < t)) = true then 2 else 0) qq_FU K li l (by split <;> rfl) (by rw [fu1]; split <;> omega) hr (by rw [← pml_pr]; exact Nat.le_trans (by rw [pms]; omega) hl)
    rw [← pml_pr] at r1 r3
    obtain ⟨K2, li2, s1, s2, s3, s4⟩ := ih (t + 1) n K1 li1 (l ++ pms b sd r pp k a t) (by omega) (by omega) r3 (by rw [List.length_append]; omega)
    refine ⟨K2, li2, ?_, kag_t r2 s2, by rw [← List.append_assoc]; exact s3, fun i hi => (s4 i hi).trans (r4 i hi)⟩
    rw [← List.append_assoc, ← s1]
    refine Eq.trans ?_ r1
    rw [lo_M_collect_13_s, iI_cn (show a < _ by omega)]
    show (if (64 : Int32) ≤ iI (t : Int) then _ else _) = _
    have eb : bq b a = iI ((b a).val : Int) := rfl
    rw [eb, e, e2, hof]
    refine hd_F (by show ¬ iI 64 ≤ iI _; rw [iI_le (by omega) (by omega) (by omega) (by omega)]; omega) ?_
    refine hd_ck hin (hd_b rfl (hd_F gzT (hd_ck hin (hd_b rfl ?_))))
    have h6 := kd_le (b a)
    by_cases hk : kd (b a) = 1
    · refine hd_T (by rw [hk]; rfl) ?_
      by_cases h8 : t < 8
      · refine hd_T (by show iI _ < iI 8; rw [iI_lt (by omega) (by omega) (by omega) (by omega)]; omega) ?_
        rw [decide_eq_true ⟨hk, Or.inl h8⟩, col_63, if_pos (c := true = true) rfl]
      · refine hd_F (by show ¬ iI _ < iI 8; rw [iI_lt (by omega) (by omega) (by omega) (by omega)]; omega) ?_
        by_cases h55 : t ≤ 55
        · refine hd_T (by show iI _ ≤ iI 55; rw [iI_le (by omega) (by omega) (by omega) (by omega)]; omega) ?_
          rw [decide_eq_false (by omega), col_67, if_neg (c := false = true) (by decide)]
        · refine hd_F (by show ¬ iI _ ≤ iI 55; rw [iI_le (by omega) (by omega) (by omega) (by omega)]; omega) ?_
          rw [decide_eq_true ⟨hk, Or.inr (by omega)⟩, col_63, if_pos (c := true = true) rfl]
    · refine hd_F (by show ¬ iI _ = iI 1; rw [iI_eq (by omega) (by omega) (by omega) (by omega)]; omega) ?_
      rw [decide_eq_false (fun z => hk z.1), col_67, if_neg (c := false = true) (by decide)]
theorem col_4 {b : Bd} {sd r pp : Nat} {k : Nat → Nat} (h : pv b sd r pp k) {lv : Nat} (hlv : lv < 3) (q : Int32) :
    ∀ (m a n : Nat) (K : KT) (li : Nat → Int32) (l : List Nat), a + m = 64 → m + 1 ≤ n → lrow lv li l → l.length + ((List.range' a m).flatMap (pma b sd r pp k)).length ≤ 415 →
    ∃ (K' : KT) (li' : Nat → Int32), lo_M_collect_4 (iI (lv : Int)) n (iI (sd : Int)) (iI (r : Int)) (iI ((pp : Int) - 1)) q (bq b) K.1 K.2.1 K.2.2.1 K.2.2.2.1 K.2.2.2.2 li (iI (l.length : Int)) (iI (a : Int)) = some (iI ((l ++ (List.range' a m).flatMap (pma b sd r pp k)).length : Int), iI (sd : Int), iI (r : Int), iI ((pp : Int) - 1), q, bq b, K'.1, K'.2.1, K'.2.2.1, K'.2.2.2.1, K'.2.2.2.2, li') ∧ kag 3 K K' ∧ lrow lv li' (l ++ (List.range' a m).flatMap (pma b sd r pp k)) ∧ lbl lv li li' := by
  intro m
  induction m with
  | zero =>
    intro a n K li l hp hn hr hl
    obtain ⟨n, rfl⟩ : ∃ n', n = n' + 1 := ⟨n - 1, by omega⟩
    refine ⟨K, li, ?_, kag_r _ _, by simpa using hr, fun _ _ => rfl⟩
    rw [lo_M_collect_4_s]
    refine hd_T (by show iI 64 ≤ iI _; rw [iI_le (by omega) (by omega) (by omega) (by omega)]; omega) ?_
    simp
  | succ m ih =>
    intro a n K li l hp hn hr hl
    obtain ⟨n, rfl⟩ : ∃ n', n = n' + 1 := ⟨n - 1, by omega⟩
    have ha : a < 64 := by omega
    rw [List.range'_succ, List.flatMap_cons] at hl ⊢
    rw [List.length_append] at hl
    have hF : ¬ (64 : Int32) ≤ iI (a : Int) := by show ¬ iI 64 ≤ iI _; rw [iI_le (by omega) (by omega) (by omega) (by omega)]; omega
    cases hof : isOf (b a) sd with
    | false =>
      have ep : pma b sd r pp k a = [] := by rw [pma, hof]; rfl
      rw [ep] at hl
      rw [ep, List.nil_append]
      obtain ⟨K2, li2, s1, s2, s3, s4⟩ := ih (a + 1) n K li l (by omega) (by omega) hr (by rw [List.length_nil] at hl; omega)
      refine ⟨K2, li2, ?_, s2, s3, s4⟩
      rw [← s1, lo_M_collect_4_s]
      refine hd_F hF ?_
      rw [show qq_FU = 999 + 1 from rfl, lo_M_collect_13_s, iI_cn (show a < _ by omega)]
      have eb : bq b a = iI ((b a).val : Int) := rfl
      have e := m_isOf (b a) sd h.1.1
      rw [eb, e, hof]
      refine hd_F (by decide) (hd_ck (iI_in (by omega) (by omega) (by omega)) (hd_b rfl (hd_T rfl ?_)))
      show lo_M_collect_4 _ n _ _ _ _ _ _ _ _ _ _ _ _ (iI (a : Int) + 1) = _
      rw [iI_s1]
    | true =>
      have ep : pma b sd r pp k a = (List.range' 0 64).flatMap (pms b sd r pp k a) := by rw [pma, hof]; rfl
      rw [ep] at hl ⊢
      obtain ⟨K1, li1, r1, r2, r3, r4⟩ := col_13 h hlv ha hof q (lo_M_collect_4 (iI (lv : Int)) n) 64 0 qq_FU K li l (by omega) (by rw [fu1]; omega) hr (by omega)
      obtain ⟨K2, li2, s1, s2, s3, s4⟩ := ih (a + 1) n K1 li1 (l ++ (List.range' 0 64).flatMap (pms b sd r pp k a)) (by omega) (by omega) r3 (by rw [List.length_append]; omega)
      refine ⟨K2, li2, ?_, kag_t r2 s2, by rw [← List.append_assoc]; exact s3, fun i hi => (s4 i hi).trans (r4 i hi)⟩
      rw [← List.append_assoc, ← s1]
      refine Eq.trans ?_ r1
      rw [lo_M_collect_4_s, if_neg hF, show iI ((0 : Nat) : Int) = 0 from rfl]
theorem m_collect {b : Bd} {sd r pp : Nat} {k : Nat → Nat} (h : pv b sd r pp k) {lv : Nat} (hlv : lv < 3) (q : Int32) (K : KT) (li : Nat → Int32) :
    ∃ (K' : KT) (li' : Nat → Int32), fn_M_collect (iI (sd : Int)) (iI (r : Int)) (iI ((pp : Int) - 1)) q (bq b) K.1 K.2.1 K.2.2.1 K.2.2.2.1 K.2.2.2.2 li (iI (lv : Int)) = some (iI ((lms b sd r pp k).length : Int), iI (sd : Int), iI (r : Int), iI ((pp : Int) - 1), q, bq b, K'.1, K'.2.1, K'.2.2.1, K'.2.2.2.1, K'.2.2.2.2, li') ∧ kag 3 K K' ∧ lrow lv li' (lms b sd r pp k) ∧ lbl lv li li' := by
  have hl := lms_len h
  rw [lms_eq h] at hl ⊢
  have e := col_4 h hlv q 64 0 qq_FU K li [] (by omega) (by rw [fu1]; omega) (fun j hj => by simp at hj) (by simpa using hl)
  rw [show iI ((([] : List Nat).length : Nat) : Int) = 0 from rfl, show iI ((0 : Nat) : Int) = 0 from rfl, List.nil_append] at e
  rw [fn_M_collect]
  exact e
