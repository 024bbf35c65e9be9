/-! what a game can begin from: pieces -/
theorem i_of (x : Int32) : ∃ z : Int, -2147483648 ≤ z ∧ z < 2147483648 ∧ x = iI z := ⟨x.toInt, Int32.le_toInt x, Int32.toInt_lt x, by rw [iI, Int32.ofInt_toInt]⟩
def cnk (b : Bd) (who : Nat) : Nat := ((List.range' 0 64).filter fun a => (b a).val == 6 + 6 * who).length
def nop (b : Bd) (who s : Nat) : Bool := !((b s).val == 1 + 6 * who && (decide (s / 8 = 0) || decide (s / 8 = 7)))
def fairp (b : Bd) (who : Nat) : Bool := (List.range' 0 64).all (nop b who) && (decide (cnk b who = 1) && decide (cnt b who ≤ 16))
theorem fil_c {α : Type} (l : List α) (p : α → Bool) (a : α) : ((a :: l).filter p).length = (if p a = true then 1 else 0) + (l.filter p).length := by
  rw [List.filter_cons]; split
  · rw [List.length_cons]; omega
  · omega
theorem fair_lo {b : Bd} {who : Nat} (hw : who < 2) : ∀ (m s n x y : Nat), s + m = 64 → m + 1 ≤ n → x ≤ s → y ≤ s →
    lo_G_hasFairPieces_7 (bq b) (iI (who : Int)) n (iI (x : Int)) (iI (y : Int)) (iI (s : Int)) = some (ge_z ((List.range' s m).all (nop b who) && (decide (y + ((List.range' s m).filter fun a => (b a).val == 6 + 6 * who).length = 1) && decide (x + ((List.range' s m).filter fun a => isOf (b a) who).length ≤ 16)))) := by
  intro m
  induction m with
  | zero =>
    intro s n x y hs hn hx hy
    obtain ⟨n, rfl⟩ : ∃ n', n = n' + 1 := ⟨n - 1, by omega⟩
    rw [lo_G_hasFairPieces_7_s]
    refine hd_T (by show iI 64 ≤ iI _; rw [iI_le (by omega) (by omega) (by omega) (by omega)]; omega) ?_
    show _ = some (ge_z (true && (decide (y + 0 = 1) && decide (x + 0 ≤ 16))))
    rw [Bool.true_and]
    by_cases e1 : y = 1
    · refine hd_T (by rw [e1]; rfl) ?_
      by_cases e2 : x ≤ 16
      · refine hd_F (by show ¬ iI 16 < iI _; rw [iI_lt (by omega) (by omega) (by omega) (by omega)]; omega) ?_
        rw [decide_eq_true (by omega), decide_eq_true (by omega)]
        exact hd_ck (by decide) rfl
      · refine hd_T (by show iI 16 < iI _; rw [iI_lt (by omega) (by omega) (by omega) (by omega)]; omega) ?_
        rw [decide_eq_false (show ¬ x + 0 ≤ 16 by omega), Bool.and_false]
        show bk_G_hasFairPieces_99 _ _ 0 = _
        exact hd_ck (by decide) rfl
    · refine hd_F (by show ¬ iI _ = iI 1; rw [iI_eq (by omega) (by omega) (by omega) (by omega)]; omega) ?_
      rw [decide_eq_false (show ¬ y + 0 = 1 by omega), Bool.false_and]
      show bk_G_hasFairPieces_99 _ _ 0 = _
      exact hd_ck (by decide) rfl
  | succ m ih =>
    intro s n x y hs hn hx hy
    obtain ⟨n, rfl⟩ : ∃ n', n = n' + 1 := ⟨n - 1, by omega⟩
    have hv : (b s).val < 13 := (b s).isLt
    rw [lo_G_hasFairPieces_7_s, iI_cn (by omega), List.range'_succ, List.all_cons, fil_c, fil_c]
    refine hd_F (by show ¬ iI 64 ≤ iI _; rw [iI_le (by omega) (by omega) (by omega) (by omega)]; omega) (hd_ck (iI_in (by omega) (by omega) (by omega)) ?_)
    have ev : bq b s - 6 * iI (who : Int) = iI (((b s).val : Int) - 6 * (who : Int)) := by
      show iI _ - iI 6 * iI _ = _
      rw [iI_mul, iI_sub]
    rw [ev]
    have hof := isOf_val (b s) who hw
    have ix : iI (x : Int) + 1 = iI ((x + 1 : Nat) : Int) := iI_s1 x
    have iy : iI (y : Int) + 1 = iI ((y + 1 : Nat) : Int) := iI_s1 y
    have is : iI (s : Int) + 1 = iI ((s + 1 : Nat) : Int) := iI_s1 s
    have e8 : iI (s : Int) / 8 = iI ((s / 8 : Nat) : Int) := by
      show iI _ / iI 8 = _
      rw [iI_div (by omega) (by omega) (by omega) (by omega)]; congr 1
    have ih' := fun x y hx hy => ih (s + 1) n x y (by omega) (by omega) hx hy
    -- behind the pawn's test
    have t51 : ∀ x y : Nat, x ≤ s + 1 → y ≤ s + 1 → bk_G_hasFairPieces_51 (bq b) (iI (who : Int)) (lo_G_hasFairPieces_7 (bq b) (iI (who : Int)) n) (iI (x : Int)) (iI (y : Int)) (iI (s : Int)) (iI (((b s).val : Int) - 6 * (who : Int))) = some (ge_z ((nop b who s && (List.range' (s + 1) m).all (nop b who)) && (decide (y + ((List.range' (s + 1) m).filter fun a => (b a).val == 6 + 6 * who).length = 1) && decide (x + ((List.range' (s + 1) m).filter fun a => isOf (b a) who).length ≤ 16)))) := by
      intro x y hx hy
      rw [bk_G_hasFairPieces_51, e8]
      have k77 : nop b who s = true → bk_G_hasFairPieces_77 (bq b) (iI (who : Int)) (lo_G_hasFairPieces_7 (bq b) (iI (who : Int)) n) (iI (x : Int)) (iI (y : Int)) (iI (s : Int)) = some (ge_z ((nop b who s && (List.range' (s + 1) m).all (nop b who)) && (decide (y + ((List.range' (s + 1) m).filter fun a => (b a).val == 6 + 6 * who).length = 1) && decide (x + ((List.range' (s + 1) m).filter fun a => isOf (b a) who).length ≤ 16)))) := by
        intro hz
        rw [hz, Bool.true_and, ← ih' x y (by omega) (by omega), bk_G_hasFairPieces_77]
        show lo_G_hasFairPieces_7 _ _ n _ _ (iI (s : Int) + 1) = _
        rw [is]
      have k75 : nop b who s = false → bk_G_hasFairPieces_75 (bq b) (iI (who : Int)) = some (ge_z ((nop b who s && (List.range' (s + 1) m).all (nop b who)) && (decide (y + ((List.range' (s + 1) m).filter fun a => (b a).val == 6 + 6 * who).length = 1) && decide (x + ((List.range' (s + 1) m).filter fun a => isOf (b a) who).length ≤ 16)))) := by
        intro hz
        rw [hz, Bool.false_and, Bool.false_and]; rfl
      by_cases hp : (b s).val = 1 + 6 * who
      · refine hd_T (by rw [hp]; show iI _ = iI 1; congr 1; omega) ?_
        by_cases h0 : s / 8 = 0
        · refine hd_T (by rw [h0]; rfl) (k75 (by rw [nop, hp, decide_eq_true h0]; simp))
        · refine hd_F (by show ¬ iI _ = iI 0; rw [iI_eq (by omega) (by omega) (by omega) (by omega)]; omega) ?_
          by_cases h7 : s / 8 = 7
          · refine hd_T (by rw [h7]; rfl) (k75 (by rw [nop, hp, decide_eq_true h7]; simp))
          · refine hd_F (by show ¬ iI _ = iI 7; rw [iI_eq (by omega) (by omega) (by omega) (by omega)]; omega) (k77 (by rw [nop, decide_eq_false h0, decide_eq_false h7]; simp))
      · refine hd_F (by show ¬ iI _ = iI 1; rw [iI_eq (by omega) (by omega) (by omega) (by omega)]; omega) (k77 (by rw [nop, beq_eq_false_iff_ne.mpr hp]; simp))
    have t41 : ∀ x y : Nat, x ≤ s + 1 → y ≤ s → bk_G_hasFairPieces_41 (bq b) (iI (who : Int)) (lo_G_hasFairPieces_7 (bq b) (iI (who : Int)) n) (iI (x : Int)) (iI (y : Int)) (iI (s : Int)) (iI (((b s).val : Int) - 6 * (who : Int))) = some (ge_z ((nop b who s && (List.range' (s + 1) m).all (nop b who)) && (decide (y + ((if ((b s).val == 6 + 6 * who) = true then 1 else 0) + ((List.range' (s + 1) m).filter fun a => (b a).val == 6 + 6 * who).length) = 1) && decide (x + ((List.range' (s + 1) m).filter fun a => isOf (b a) who).length ≤ 16)))) := by
      intro x y hx hy
      rw [bk_G_hasFairPieces_41]
      by_cases hk : (b s).val = 6 + 6 * who
      · refine hd_T (by rw [hk]; show iI _ = iI 6; congr 1; omega) ?_
        show bk_G_hasFairPieces_51 _ _ _ _ (iI (y : Int) + 1) _ _ = _
        rw [iI_s1 y, t51 x (y + 1) hx (by omega), if_pos (by rw [hk]; simp), Nat.add_assoc]
      · refine hd_F (by show ¬ iI _ = iI 6; rw [iI_eq (by omega) (by omega) (by omega) (by omega)]; omega) ?_
        rw [t51 x y hx (by omega), if_neg (by simpa using hk), Nat.zero_add]
    by_cases ho : isOf (b s) who = true
    · have hr := hof.mp ho
      refine hd_F (by show ¬ iI _ < iI 1; rw [iI_lt (by omega) (by omega) (by omega) (by omega)]; omega) (hd_F (by show ¬ iI 6 < iI _; rw [iI_lt (by omega) (by omega) (by omega) (by omega)]; omega) ?_)
      show bk_G_hasFairPieces_41 _ _ _ (iI (x : Int) + 1) _ _ _ = _
      rw [ix, t41 (x + 1) y (by omega) hy, if_pos ho, Nat.add_assoc x 1]
    · have hr : ¬ (1 + 6 * who ≤ (b s).val ∧ (b s).val ≤ 6 + 6 * who) := fun z => ho (hof.mpr z)
      have e := t41 x y (by omega) hy
      rw [if_neg ho, Nat.zero_add]
      by_cases h1 : ((b s).val : Int) - 6 * (who : Int) < 1
      · refine hd_T (by show iI _ < iI 1; rw [iI_lt (by omega) (by omega) (by omega) (by omega)]; omega) e
      · refine hd_F (by show ¬ iI _ < iI 1; rw [iI_lt (by omega) (by omega) (by omega) (by omega)]; omega) (hd_T (by show iI 6 < iI _; rw [iI_lt (by omega) (by omega) (by omega) (by omega)]; omega) e)
theorem g_fair {b : Bd} {who : Nat} (hw : who < 2) : fn_G_hasFairPieces (bq b) (iI (who : Int)) = some (ge_z (fairp b who)) := by
  have e := fair_lo (b := b) hw 64 0 qq_FU 0 0 (by omega) (by rw [fu1]; omega) (by omega) (by omega)
  rw [Nat.zero_add, Nat.zero_add, show iI ((0 : Nat) : Int) = 0 from rfl] at e
  rw [fn_G_hasFairPieces]
  exact e
theorem m_many_lo {b : Bd} {who kn : Nat} (hw : who < 2) (hk : kn < 7) : ∀ (m s n x : Nat), s + m = 64 → m + 1 ≤ n → x ≤ s →
    lo_M_many_5 (bq b) (iI (who : Int)) (iI (kn : Int)) n (iI (x : Int)) (iI (s : Int)) = some (iI ((x + ((List.range' s m).filter fun a => isOf (b a) who && (decide (kn = 0) || kd (b a) == kn)).length : Nat) : Int)) := by
  intro m
  induction m with
  | zero =>
    intro s n x hs hn hx
    obtain ⟨n, rfl⟩ : ∃ n', n = n' + 1 := ⟨n - 1, by omega⟩
    rw [lo_M_many_5_s]
    exact hd_T (by show iI 64 ≤ iI _; rw [iI_le (by omega) (by omega) (by omega) (by omega)]; omega) rfl
  | succ m ih =>
    intro s n x hs hn hx
    obtain ⟨n, rfl⟩ : ∃ n', n = n' + 1 := ⟨n - 1, by omega⟩
    have e := m_isOf (b s) who hw
    have e2 := m_kindOf (b s)
    have h6 := kd_le (b s)
    have hin : qq_in (iI (s : Int)) 64 = true := iI_in (by omega) (by omega) (by omega)
    have eb : bq b s = iI ((b s).val : Int) := rfl
    rw [lo_M_many_5_s, iI_cn (by omega), eb, e, e2, List.range'_succ, fil_c]
    refine hd_F (by show ¬ iI 64 ≤ iI _; rw [iI_le (by omega) (by omega) (by omega) (by omega)]; omega) (hd_ck hin (hd_b rfl ?_))
    have k50 : bk_M_many_50 (bq b) (iI (who : Int)) (iI (kn : Int)) (lo_M_many_5 (bq b) (iI (who : Int)) (iI (kn : Int)) n) (iI (x : Int)) (iI (s : Int)) = some (iI ((x + (0 + ((List.range' (s + 1) m).filter fun a => isOf (b a) who && (decide (kn = 0) || kd (b a) == kn)).length) : Nat) : Int)) := by
      rw [bk_M_many_50, bk_M_many_51, Nat.zero_add, ← ih (s + 1) n x (by omega) (by omega) (by omega)]
      show lo_M_many_5 _ _ _ n _ (iI (s : Int) + 1) = _
      rw [iI_s1]
    have k44 : bk_M_many_44 (bq b) (iI (who : Int)) (iI (kn : Int)) (lo_M_many_5 (bq b) (iI (who : Int)) (iI (kn : Int)) n) (iI (x : Int)) (iI (s : Int)) = some (iI ((x + (1 + ((List.range' (s + 1) m).filter fun a => isOf (b a) who && (decide (kn = 0) || kd (b a) == kn)).length) : Nat) : Int)) := by
      rw [bk_M_many_44, bk_M_many_51, ← Nat.add_assoc, ← ih (s + 1) n (x + 1) (by omega) (by omega) (by omega)]
      show lo_M_many_5 _ _ _ n (iI (x : Int) + 1) (iI (s : Int) + 1) = _
      rw [iI_s1, iI_s1]
    generalize ((List.range' (s + 1) m).filter fun a => isOf (b a) who && (decide (kn = 0) || kd (b a) == kn)).length = F at k50 k44 ⊢
    cases ho : isOf (b s) who with
    | false =>
      refine hd_T rfl ?_
      rw [Bool.false_and, if_neg (by decide)]
      exact k50
    | true =>
      refine hd_F gzT ?_
      rw [Bool.true_and]
      by_cases h0 : kn = 0
      · refine hd_T (by rw [h0]; rfl) ?_
        rw [decide_eq_true h0, Bool.true_or, if_pos rfl]
        exact k44
      · refine hd_F (by show ¬ iI _ = iI 0; rw [iI_eq (by omega) (by omega) (by omega) (by omega)]; omega) (hd_ck hin (hd_b rfl ?_))
        rw [decide_eq_false h0, Bool.false_or]
        by_cases h1 : kd (b s) = kn
        · refine hd_T (by rw [h1]) ?_
          rw [if_pos (by rw [h1]; simp)]
          exact k44
        · refine hd_F (by rw [iI_eq (by omega) (by omega) (by omega) (by omega)]; omega) ?_
          rw [if_neg (by simpa using h1)]
          exact k50
theorem m_many6 {b : Bd} {who : Nat} (hw : who < 2) : fn_M_many (bq b) (iI (who : Int)) 6 = some (iI (cnk b who : Int)) := by
  have e := m_many_lo (b := b) hw (show 6 < 7 by omega) 64 0 qq_FU 0 (by omega) (by rw [fu1]; omega) (by omega)
  have ec : ((List.range' 0 64).filter fun a => isOf (b a) who && (decide (6 = 0) || kd (b a) == 6)).length = cnk b who := by
    rw [cnk]
    congr 1
    apply List.filter_congr
    intro a _
    rw [Bool.eq_iff_iff]
    have h1 := isOf_val (b a) who hw
    have h2 := kd_c (b a)
    simp only [Bool.and_eq_true, Bool.or_eq_true, beq_iff_eq, decide_eq_true_eq]
    rw [h1]
    split at h2 <;> omega
  rw [ec, Nat.zero_add, show iI ((0 : Nat) : Int) = 0 from rfl] at e
  rw [fn_M_many]
  exact e
theorem m_many0 {b : Bd} {who : Nat} (hw : who < 2) : fn_M_many (bq b) (iI (who : Int)) 0 = some (iI (cnt b who : Int)) := by
  have e := m_many_lo (b := b) hw (show 0 < 7 by omega) 64 0 qq_FU 0 (by omega) (by rw [fu1]; omega) (by omega)
  have ec : ((List.range' 0 64).filter fun a => isOf (b a) who && (decide (0 = 0) || kd (b a) == 0)).length = cnt b who := by
    rw [cnt]
    congr 1
    apply List.filter_congr
    intro a _
    simp
  rw [ec, Nat.zero_add, show iI ((0 : Nat) : Int) = 0 from rfl] at e
  rw [fn_M_many]
  exact e
def edg (b : Bd) (f : Nat) : Bool := !(kd (b f) == 1) && !(kd (b (56 + f)) == 1)
def cr1 (b : Bd) (who : Nat) : Bool := decide (cnk b who = 1) && decide (cnt b who ≤ 16)
theorem m_crowd_49 {b : Bd} : ∀ (m f n : Nat) (acc : Bool), f + m = 8 → m + 1 ≤ n → lo_M_isCrowd_49 (bq b) n (ge_z acc) (iI (f : Int)) = some (ge_z (acc && (List.range' f m).all (edg b))) := by
  intro m
  induction m with
  | zero =>
    intro f n acc hf hn
    obtain ⟨n, rfl⟩ : ∃ n', n = n' + 1 := ⟨n - 1, by omega⟩
    rw [lo_M_isCrowd_49_s, show (acc && (List.range' f 0).all (edg b)) = acc by simp]
    exact hd_T (by show iI 8 ≤ iI _; rw [iI_le (by omega) (by omega) (by omega) (by omega)]; omega) (hd_ck (iI_bz _) rfl)
  | succ m ih =>
    intro f n acc hf hn
    obtain ⟨n, rfl⟩ : ∃ n', n = n' + 1 := ⟨n - 1, by omega⟩
    have k93 : ∀ acc : Bool, bk_M_isCrowd_93 (bq b) (lo_M_isCrowd_49 (bq b) n) (iI (f : Int)) (ge_z acc) = some (ge_z (acc && (List.range' (f + 1) m).all (edg b))) := by
      intro acc
      rw [← ih (f + 1) n acc (by omega) (by omega), bk_M_isCrowd_93]
      show lo_M_isCrowd_49 _ n _ (iI (f : Int) + 1) = _
      rw [iI_s1]
    have k92 : bk_M_isCrowd_92 (bq b) (lo_M_isCrowd_49 (bq b) n) (iI (f : Int)) = some (ge_z false) := by
      have := k93 false
      rw [Bool.false_and] at this
      exact this
    have e1 := m_kindOf (b f)
    have e2 := m_kindOf (b (56 + f))
    have h1 := kd_le (b f)
    have h2 := kd_le (b (56 + f))
    have i56 : (56 : Int32) + iI (f : Int) = iI ((56 + f : Nat) : Int) := by
      show iI 56 + iI _ = _
      rw [iI_add]; congr 1
    have eb : bq b f = iI ((b f).val : Int) := rfl
    have eb2 : bq b (56 + f) = iI ((b (56 + f)).val : Int) := rfl
    rw [lo_M_isCrowd_49_s, i56, iI_cn (show f < _ by omega), iI_cn (show 56 + f < _ by omega), eb, eb2, e1, e2, List.range'_succ, List.all_cons]
    refine hd_F (by show ¬ iI 8 ≤ iI _; rw [iI_le (by omega) (by omega) (by omega) (by omega)]; omega) ?_
    cases acc with
    | false => exact hd_T rfl k92
    | true =>
      refine hd_F gzT (hd_ck (iI_in (by omega) (by omega) (by omega)) (hd_b rfl ?_))
      rw [Bool.true_and, edg]
      by_cases z1 : kd (b f) = 1
      · refine hd_T (by rw [z1]; rfl) ?_
        rw [z1]
        exact k92
      · refine hd_F (by show ¬ iI _ = iI 1; rw [iI_eq (by omega) (by omega) (by omega) (by omega)]; omega) (hd_ck (iI_in (by omega) (by omega) (by omega)) (hd_b rfl ?_))
        rw [beq_eq_false_iff_ne.mpr z1]
        by_cases z2 : kd (b (56 + f)) = 1
        · refine hd_T (by rw [z2]; rfl) ?_
          rw [z2]
          exact k92
        · refine hd_F (by show ¬ iI _ = iI 1; rw [iI_eq (by omega) (by omega) (by omega) (by omega)]; omega) ?_
          rw [beq_eq_false_iff_ne.mpr z2]
          exact k93 true
theorem cnt_le (b : Bd) (who : Nat) : cnt b who ≤ 64 ∧ cnk b who ≤ 64 := by
  have h1 := List.length_filter_le (fun a => isOf (b a) who) (List.range' 0 64)
  have h2 := List.length_filter_le (fun a => (b a).val == 6 + 6 * who) (List.range' 0 64)
  rw [List.length_range'] at h1 h2
  exact ⟨h1, h2⟩
theorem m_crowd_4 {b : Bd} : ∀ (m f n : Nat) (acc : Bool), f + m = 2 → m + 1 ≤ n → lo_M_isCrowd_4 (bq b) n (ge_z acc) (iI (f : Int)) = some (ge_z ((acc && (List.range' f m).all (cr1 b)) && (List.range' 0 8).all (edg b))) := by
  intro m
  induction m with
  | zero =>
    intro f n acc hf hn
    obtain ⟨n, rfl⟩ : ∃ n', n = n' + 1 := ⟨n - 1, by omega⟩
    have e := m_crowd_49 (b := b) 8 0 qq_FU acc (by omega) (by rw [fu1]; omega)
    rw [show iI ((0 : Nat) : Int) = 0 from rfl] at e
    rw [lo_M_isCrowd_4_s, show (acc && (List.range' f 0).all (cr1 b)) = acc by simp]
    exact hd_T (by show iI 2 ≤ iI _; rw [iI_le (by omega) (by omega) (by omega) (by omega)]; omega) e
  | succ m ih =>
    intro f n acc hf hn
    obtain ⟨n, rfl⟩ : ∃ n', n = n' + 1 := ⟨n - 1, by omega⟩
    have k40 : ∀ acc : Bool, bk_M_isCrowd_40 (bq b) (lo_M_isCrowd_4 (bq b) n) (iI (f : Int)) (ge_z acc) = some (ge_z ((acc && (List.range' (f + 1) m).all (cr1 b)) && (List.range' 0 8).all (edg b))) := by
      intro acc
      rw [← ih (f + 1) n acc (by omega) (by omega), bk_M_isCrowd_40]
      show lo_M_isCrowd_4 _ n _ (iI (f : Int) + 1) = _
      rw [iI_s1]
    have k39 : bk_M_isCrowd_39 (bq b) (lo_M_isCrowd_4 (bq b) n) (iI (f : Int)) = some (ge_z false) := by
      have := k40 false
      rw [Bool.false_and, Bool.false_and] at this
      exact this
    have hc := cnt_le b f
    have e1 := m_many6 (b := b) (show f < 2 by omega)
    have e2 := m_many0 (b := b) (show f < 2 by omega)
    rw [lo_M_isCrowd_4_s, List.range'_succ, List.all_cons]
    refine hd_F (by show ¬ iI 2 ≤ iI _; rw [iI_le (by omega) (by omega) (by omega) (by omega)]; omega) ?_
    cases acc with
    | false => exact hd_T rfl k39
    | true =>
      refine hd_F gzT (hd_b e1 ?_)
      rw [Bool.true_and, cr1]
      by_cases z1 : cnk b f = 1
      · refine hd_T (by rw [z1]; rfl) (hd_b e2 ?_)
        rw [decide_eq_true z1, Bool.true_and]
        by_cases z2 : cnt b f ≤ 16
        · refine hd_F (by show ¬ iI 16 < iI _; rw [iI_lt (by omega) (by omega) (by omega) (by omega)]; omega) ?_
          rw [decide_eq_true z2]
          exact k40 true
        · refine hd_T (by show iI 16 < iI _; rw [iI_lt (by omega) (by omega) (by omega) (by omega)]; omega) ?_
          rw [decide_eq_false z2, Bool.false_and, Bool.false_and]
          exact k39
      · refine hd_F (by show ¬ iI _ = iI 1; rw [iI_eq (by omega) (by omega) (by omega) (by omega)]; omega) ?_
        rw [decide_eq_false z1, Bool.false_and, Bool.false_and, Bool.false_and]
        exact k39
def crw (b : Bd) : Bool := fairp b 0 && fairp b 1
theorem crw_eq (b : Bd) : ((true && (List.range' 0 2).all (cr1 b)) && (List.range' 0 8).all (edg b)) = crw b := by
  rw [Bool.eq_iff_iff, crw]
  simp only [Bool.and_eq_true, fairp, List.all_eq_true, List.mem_range'_1, cr1, edg, nop, Bool.not_eq_true', Bool.true_and, decide_eq_true_eq, beq_eq_false_iff_ne, Bool.and_eq_false_iff, Bool.or_eq_false_iff, decide_eq_false_iff_not, kd_pw, ne_eq]
  constructor
  · rintro ⟨h1, h2⟩
    have a0 := h1 0 (by omega)
    have a1 := h1 1 (by omega)
    refine ⟨⟨?_, a0⟩, ⟨?_, a1⟩⟩
    · intro s hs
      by_cases z : s / 8 = 0
      · have := h2 s (by omega)
        omega
      · by_cases z2 : s / 8 = 7
        · have := h2 (s - 56) (by omega)
          rw [show 56 + (s - 56) = s by omega] at this
          omega
        · omega
    · intro s hs
      by_cases z : s / 8 = 0
      · have := h2 s (by omega)
        omega
      · by_cases z2 : s / 8 = 7
        · have := h2 (s - 56) (by omega)
          rw [show 56 + (s - 56) = s by omega] at this
          omega
        · omega
  · rintro ⟨⟨h1, a0⟩, ⟨h2, a1⟩⟩
    refine ⟨?_, ?_⟩
    · intro w hw
      rcases (show w = 0 ∨ w = 1 by omega) with rfl | rfl
      · exact a0
      · exact a1
    · intro f hf
      have b1 := h1 f (by omega)
      have b2 := h2 f (by omega)
      have b3 := h1 (56 + f) (by omega)
      have b4 := h2 (56 + f) (by omega)
      omega
theorem m_crowd (b : Bd) : fn_M_isCrowd (bq b) = some (ge_z (crw b)) := by
  have e := m_crowd_4 (b := b) 2 0 qq_FU true (by omega) (by rw [fu1]; omega)
  rw [crw_eq, show iI ((0 : Nat) : Int) = 0 from rfl] at e
  rw [fn_M_isCrowd]
  exact e
/-- a king that is the only one -/
theorem cnk_ok {b : Bd} {who : Nat} (h : cnk b who = 1) : ∃ ks, ok1 b who ks := by
  rw [cnk] at h
  obtain ⟨x, hx⟩ := List.length_eq_one_iff.mp h
  have hm : x ∈ (List.range' 0 64).filter fun a => (b a).val == 6 + 6 * who := by rw [hx]; exact List.mem_singleton.mpr rfl
  rw [List.mem_filter, List.mem_range'_1, beq_iff_eq] at hm
  refine ⟨x, by omega, hm.2, ?_⟩
  intro j hj hv
  have : j ∈ (List.range' 0 64).filter fun a => (b a).val == 6 + 6 * who := by
    rw [List.mem_filter, List.mem_range'_1, beq_iff_eq]
    exact ⟨by omega, hv⟩
  rw [hx] at this
  exact List.mem_singleton.mp this
theorem p_squareOf {b : Bd} {who ks : Nat} (hw : who < 2) (h : ok1 b who ks) : fn_P_squareOf (bq b) (iI ((6 + 6 * who : Nat) : Int)) = some (iI (ks : Int)) := by
  obtain ⟨h1, h2, h3⟩ := h
  have lo : ∀ (m s n : Nat), s + m = ks → m + 1 ≤ n → lo_P_squareOf_2 (bq b) (iI ((6 + 6 * who : Nat) : Int)) n (iI (s : Int)) = some (iI (ks : Int)) := by
    intro m
    induction m with
    | zero =>
      intro s n hs hn
      obtain ⟨n, rfl⟩ : ∃ n', n = n' + 1 := ⟨n - 1, by omega⟩
      have : s = ks := by omega
      subst this
      rw [lo_P_squareOf_2_s, iI_cn (by omega)]
      refine hd_F (by show ¬ iI 64 ≤ iI _; rw [iI_le (by omega) (by omega) (by omega) (by omega)]; omega) (hd_ck (iI_in (by omega) (by omega) (by omega)) (hd_T ?_ rfl))
      show iI _ = iI _
      rw [h2]
    | succ m ih =>
      intro s n hs hn
      obtain ⟨n, rfl⟩ : ∃ n', n = n' + 1 := ⟨n - 1, by omega⟩
      rw [lo_P_squareOf_2_s, iI_cn (by omega)]
      refine hd_F (by show ¬ iI 64 ≤ iI _; rw [iI_le (by omega) (by omega) (by omega) (by omega)]; omega) (hd_ck (iI_in (by omega) (by omega) (by omega)) (hd_F ?_ ?_))
      · show ¬ iI _ = iI _
        rw [iI_eq (by omega) (by omega) (by omega) (by omega)]
        intro z
        have := h3 s (by omega) (by omega)
        omega
      · show lo_P_squareOf_2 _ _ n (iI (s : Int) + 1) = _
        rw [iI_s1]
        exact ih (s + 1) n (by omega) (by omega)
  have e := lo ks 0 qq_FU (by omega) (by rw [fu1]; omega)
  rw [show iI ((0 : Nat) : Int) = 0 from rfl] at e
  rw [fn_P_squareOf]
  exact e
