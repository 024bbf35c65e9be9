/-! the same position: words and marks against rows -/
def hma (n : Nat) (G : Nat → Ps) (bo : Nat → Int64) (ma : Nat → Int32) : Prop := ∀ j, j ≤ n → ma j = iI (mkp (G j) : Int) ∧ ∀ w, w < 4 → bo (4 * j + w) = lN (wv (G j).1 16 (16 * w) 0)
def hmo (n : Nat) (G : Nat → Ps) (Q : Nat → Int32) (pa pS pR pG pP pQ : Nat → Int32) : Prop := ∀ j, j ≤ n → (∀ s, s < 64 → pa (64 * j + s) = bq (G j).1 s) ∧ pS j = iI ((G j).2.1 : Int) ∧ pR j = iI ((G j).2.2.1 : Int) ∧ pG j = iI (pn2 (G j) : Int) ∧ pP j = iI (((G j).2.2.2.1 : Int) - 1) ∧ pQ j = Q j
def weq (P Q : Ps) (w : Nat) : Bool := wv P.1 16 (16 * w) 0 == wv Q.1 16 (16 * w) 0
def smb (P Q : Ps) : Bool := decide (mkp P = mkp Q) && (List.range' 0 4).all (weq P Q)
def beqs (P Q : Ps) (s : Nat) : Bool := (P.1 s).val == (Q.1 s).val
def smm (P Q : Ps) : Bool := (decide (P.2.1 = Q.2.1) && (decide (P.2.2.1 = Q.2.2.1) && decide (pn2 P = pn2 Q))) && (List.range' 0 64).all (beqs P Q)
theorem smb_mm {P Q : Ps} (h : pvp P) (h' : pvp Q) : smb P Q = smm P Q := by
  have l1 := pn1_lt h
  have l2 := pn1_lt h'
  have s1 := h.1.1
  have s2 := h'.1.1
  have e12 := pn_12 h h'
  rw [Bool.eq_iff_iff, smb, smm]
  simp only [Bool.and_eq_true, decide_eq_true_eq, List.all_eq_true, List.mem_range'_1, weq, beqs, beq_iff_eq]
  constructor
  · rintro ⟨a, b⟩
    rw [mkp, mkp] at a
    refine ⟨⟨by omega, by omega, e12.mp (by omega)⟩, ?_⟩
    intro s hs
    have := (wv_inj P.1 Q.1 16 (16 * (s / 16)) 0 0 (b (s / 16) (by omega))).2 (s % 16) (by omega)
    rw [show 16 * (s / 16) + s % 16 = s by omega] at this
    rw [this]
  · rintro ⟨⟨a1, a2, a3⟩, b⟩
    refine ⟨by rw [mkp, mkp, a1, a2, e12.mpr a3], ?_⟩
    intro w hw
    apply wv_cg
    intro i hi
    exact val_inj (b (16 * w + i) (by omega))
theorem lg_0 (x y : Int64) : lg_cmp x y = 0 ↔ x = y := by
  rw [lg_cmp]
  constructor
  · intro h
    split at h
    · exact absurd h (by decide)
    · split at h
      · assumption
      · exact absurd h (by decide)
  · intro h
    subst h
    rw [if_neg (Int64.lt_irrefl), if_pos rfl]
theorem lN_inj {a b : Nat} (ha : a < 2 ^ 64) (hb : b < 2 ^ 64) : lN a = lN b ↔ a = b := by
  constructor
  · intro h
    rw [← wb_tn ha, ← wb_tn hb, h]
  · intro h; rw [h]
theorem wv_64 (b : Bd) (j : Nat) : wv b 16 j 0 < 2 ^ 64 := wv_lt b 16 j 0 0 (by decide)
theorem h_same_lo {n : Nat} {G : Nat → Ps} {bo : Nat → Int64} {ma : Nat → Int32} (hh : hma n G bo ma) (hn : n ≤ 150) {j : Nat} (hj : j ≤ n) : ∀ (m w f : Nat) (acc : Bool), w + m = 4 → m + 1 ≤ f →
    lo_H_isSameAsNow_26 (iI (n : Int)) bo ma (iI (j : Int)) f (ge_z acc) (iI (w : Int)) = some (ge_z (acc && (List.range' w m).all (weq (G j) (G n)))) := by
  have e4 : ∀ n w : Nat, (4 : Int32) * iI (n : Int) + iI (w : Int) = iI ((4 * n + w : Nat) : Int) := by
    intro n w
    show iI 4 * iI _ + iI _ = _
    rw [iI_mul, iI_add]; congr 1
  intro m
  induction m with
  | zero =>
    intro w f acc hw hf
    obtain ⟨f, rfl⟩ : ∃ n', f = n' + 1 := ⟨f - 1, by omega⟩
    rw [lo_H_isSameAsNow_26_s, show (acc && (List.range' w 0).all (weq (G j) (G n))) = acc by simp]
    refine hd_T (by show iI 4 ≤ iI _; rw [iI_le (by omega) (by omega) (by omega) (by omega)]; omega) ?_
    rw [bk_H_isSameAsNow_74]
    exact hd_ck (iI_bz _) rfl
  | succ m ih =>
    intro w f acc hw hf
    obtain ⟨f, rfl⟩ : ∃ n', f = n' + 1 := ⟨f - 1, by omega⟩
    rw [lo_H_isSameAsNow_26_s]
    refine hd_F (by show ¬ iI 4 ≤ iI _; rw [iI_le (by omega) (by omega) (by omega) (by omega)]; omega) ?_
    cases acc with
    | false =>
      refine hd_T rfl ?_
      rw [bk_H_isSameAsNow_74]
      exact hd_ck (by decide) rfl
    | true =>
      refine hd_F gzT ?_
      rw [e4, e4, iI_cn (show 4 * j + w < _ by omega), iI_cn (show 4 * n + w < _ by omega), (hh j hj).2 w (by omega), (hh n (Nat.le_refl _)).2 w (by omega)]
      refine hd_ck (iI_in (by omega) (by omega) (by omega)) (hd_ck (iI_in (by omega) (by omega) (by omega)) ?_)
      rw [List.range'_succ, List.all_cons, Bool.true_and]
      have ih' := fun acc => ih (w + 1) f acc (by omega) (by omega)
      by_cases e : wv (G j).1 16 (16 * w) 0 = wv (G n).1 16 (16 * w) 0
      · refine hd_T ((lg_0 _ _).mpr (by rw [e])) ?_
        rw [weq, e, beq_self_eq_true, Bool.true_and]
        have := ih' true
        rw [Bool.true_and] at this
        rw [← this, bk_H_isSameAsNow_67]
        show lo_H_isSameAsNow_26 _ _ _ _ f 1 (iI (w : Int) + 1) = _
        rw [iI_s1]; rfl
      · refine hd_F (fun z => e ((lN_inj (wv_64 _ _) (wv_64 _ _)).mp ((lg_0 _ _).mp z))) ?_
        rw [weq, beq_eq_false_iff_ne.mpr e, Bool.false_and]
        have := ih' false
        rw [Bool.false_and] at this
        rw [← this, bk_H_isSameAsNow_67]
        show lo_H_isSameAsNow_26 _ _ _ _ f 0 (iI (w : Int) + 1) = _
        rw [iI_s1]; rfl
theorem mkp_lt {P : Ps} (h : pvp P) : mkp P < 2000 := by
  have := pn1_lt h
  have := h.1.1
  have := h.1.2.1
  rw [mkp]; omega
theorem h_same {n : Nat} {G : Nat → Ps} {bo : Nat → Int64} {ma : Nat → Int32} (hh : hma n G bo ma) (hn : n ≤ 150) (hp : ∀ j, j ≤ n → pvp (G j)) {j : Nat} (hj : j ≤ n) : fn_H_isSameAsNow (iI (n : Int)) bo ma (iI (j : Int)) = some (ge_z (smb (G j) (G n))) := by
  have l1 := mkp_lt (hp j hj)
  have l2 := mkp_lt (hp n (Nat.le_refl _))
  have lo := fun acc => h_same_lo hh hn hj 4 0 qq_FU acc (by omega) (by rw [fu1]; omega)
  rw [show iI ((0 : Nat) : Int) = 0 from rfl] at lo
  rw [fn_H_isSameAsNow, iI_cn (show j < _ by omega), iI_cn (show n < _ by omega), (hh j hj).1, (hh n (Nat.le_refl _)).1]
  refine hd_ck (iI_in (by omega) (by omega) (by omega)) (hd_ck (iI_in (by omega) (by omega) (by omega)) ?_)
  rw [smb]
  by_cases e : mkp (G j) = mkp (G n)
  · refine hd_T (by rw [e]) ?_
    rw [decide_eq_true e, bk_H_isSameAsNow_23]
    exact lo true
  · refine hd_F (by rw [iI_eq (by omega) (by omega) (by omega) (by omega)]; omega) ?_
    rw [decide_eq_false e, bk_H_isSameAsNow_23]
    exact lo false
def scn (G : Nat → Ps) (n j m : Nat) : Nat := ((List.range' j m).filter fun j => smb (G j) (G n)).length
theorem scn_s (G : Nat → Ps) (n j m : Nat) : scn G n j (m + 1) = (if smb (G j) (G n) = true then 1 else 0) + scn G n (j + 1) m := by
  rw [scn, scn, List.range'_succ, List.filter_cons]
  split
  · rw [List.length_cons]; omega
  · omega
theorem scn_le (G : Nat → Ps) (n j m : Nat) : scn G n j m ≤ m := by
  have := List.length_filter_le (fun j => smb (G j) (G n)) (List.range' j m)
  rw [List.length_range'] at this
  exact this
theorem h_count {n : Nat} {G : Nat → Ps} {bo : Nat → Int64} {ma : Nat → Int32} (hh : hma n G bo ma) (hn : n ≤ 150) (hp : ∀ j, j ≤ n → pvp (G j)) : fn_H_countSame (iI (n : Int)) bo ma = some (iI (scn G n 0 (n + 1) : Int)) := by
  have lo : ∀ (m j f x : Nat), j + m = n + 1 → m + 1 ≤ f → lo_H_countSame_4 (iI (n : Int)) bo ma f (iI (x : Int)) (iI (j : Int)) = some (iI ((x + scn G n j m : Nat) : Int)) := by
    intro m
    induction m with
    | zero =>
      intro j f x hj hf
      obtain ⟨f, rfl⟩ : ∃ n', f = n' + 1 := ⟨f - 1, by omega⟩
      rw [lo_H_countSame_4_s]
      exact hd_T (by rw [iI_lt (by omega) (by omega) (by omega) (by omega)]; omega) rfl
    | succ m ih =>
      intro j f x hj hf
      obtain ⟨f, rfl⟩ : ∃ n', f = n' + 1 := ⟨f - 1, by omega⟩
      rw [lo_H_countSame_4_s]
      refine hd_F (by rw [iI_lt (by omega) (by omega) (by omega) (by omega)]; omega) (hd_b (h_same hh hn hp (show j ≤ n by omega)) ?_)
      rw [scn_s]
      cases smb (G j) (G n) with
      | false =>
        refine hd_T rfl ?_
        rw [bk_H_countSame_23]
        show lo_H_countSame_4 _ _ _ f _ (iI (j : Int) + 1) = _
        rw [iI_s1, ih (j + 1) f x (by omega) (by omega), if_neg (by decide), Nat.zero_add]
      | true =>
        refine hd_F gzT ?_
        show lo_H_countSame_4 _ _ _ f (iI (x : Int) + 1) (iI (j : Int) + 1) = _
        rw [iI_s1, iI_s1, ih (j + 1) f (x + 1) (by omega) (by omega), if_pos rfl, Nat.add_assoc]
  have := lo (n + 1) 0 qq_FU 0 (by omega) (by rw [fu1]; omega)
  rw [show iI ((0 : Nat) : Int) = 0 from rfl, Nat.zero_add] at this
  rw [fn_H_countSame]
  exact this
theorem m_same_lo {n : Nat} {G : Nat → Ps} {Q : Nat → Int32} {pa pS pR pG pP pQ : Nat → Int32} (hh : hmo n G Q pa pS pR pG pP pQ) (hn : n ≤ 150) {j : Nat} (hj : j ≤ n) : ∀ (m s f : Nat) (acc : Bool), s + m = 64 → m + 1 ≤ f →
    lo_M_same_54 pa pS pR pG (iI (j : Int)) (iI (n : Int)) f (ge_z acc) (iI (s : Int)) = some (ge_z (acc && (List.range' s m).all (beqs (G j) (G n)))) := by
  intro m
  induction m with
  | zero =>
    intro s f acc hs hf
    obtain ⟨f, rfl⟩ : ∃ n', f = n' + 1 := ⟨f - 1, by omega⟩
    rw [lo_M_same_54_s, show (acc && (List.range' s 0).all (beqs (G j) (G n))) = acc by simp]
    refine hd_T (by show iI 64 ≤ iI _; rw [iI_le (by omega) (by omega) (by omega) (by omega)]; omega) ?_
    exact hd_ck (iI_bz _) rfl
  | succ m ih =>
    intro s f acc hs hf
    obtain ⟨f, rfl⟩ : ∃ n', f = n' + 1 := ⟨f - 1, by omega⟩
    have ih' := fun acc => ih (s + 1) f acc (by omega) (by omega)
    rw [lo_M_same_54_s]
    refine hd_F (by show ¬ iI 64 ≤ iI _; rw [iI_le (by omega) (by omega) (by omega) (by omega)]; omega) ?_
    have fF : bk_M_same_96 pa pS pR pG (iI (j : Int)) (iI (n : Int)) (lo_M_same_54 pa pS pR pG (iI (j : Int)) (iI (n : Int)) f) (iI (s : Int)) = some (ge_z false) := by
      have := ih' false
      rw [Bool.false_and] at this
      rw [← this, bk_M_same_96, bk_M_same_97]
      show lo_M_same_54 _ _ _ _ _ _ f 0 (iI (s : Int) + 1) = _
      rw [iI_s1]; rfl
    cases acc with
    | false => exact hd_T rfl fF
    | true =>
      refine hd_F gzT ?_
      rw [i64, i64, iI_cn (show 64 * j + s < _ by omega), iI_cn (show 64 * n + s < _ by omega), (hh j hj).1 s (by omega), (hh n (Nat.le_refl _)).1 s (by omega)]
      refine hd_ck (iI_in (by omega) (by omega) (by omega)) (hd_ck (iI_in (by omega) (by omega) (by omega)) ?_)
      rw [List.range'_succ, List.all_cons, Bool.true_and]
      by_cases e : ((G j).1 s).val = ((G n).1 s).val
      · refine hd_T (by show iI _ = iI _; rw [e]) ?_
        rw [beqs, e, beq_self_eq_true, Bool.true_and]
        have := ih' true
        rw [Bool.true_and] at this
        rw [← this, bk_M_same_97]
        show lo_M_same_54 _ _ _ _ _ _ f 1 (iI (s : Int) + 1) = _
        rw [iI_s1]; rfl
      · refine hd_F (by show ¬ iI _ = iI _; rw [iI_eq (by omega) (by omega) (by omega) (by omega)]; omega) ?_
        rw [beqs, beq_eq_false_iff_ne.mpr e, Bool.false_and]
        exact fF
theorem pn2_lt {P : Ps} (h : pvp P) : pn2 P < 100 := by
  have hpp := h.1.2.2
  have h1 : ∀ x, bn x ≤ 1 := by intro x; cases x <;> decide
  have h2 := h1 (lwb P)
  have h3 := h1 (hib P)
  rw [pn2]; split <;> omega
theorem m_same {n : Nat} {G : Nat → Ps} {Q : Nat → Int32} {pa pS pR pG pP pQ : Nat → Int32} (hh : hmo n G Q pa pS pR pG pP pQ) (hn : n ≤ 150) (hp : ∀ j, j ≤ n → pvp (G j)) {j : Nat} (hj : j ≤ n) : fn_M_same pa pS pR pG (iI (j : Int)) (iI (n : Int)) = some (ge_z (smb (G j) (G n))) := by
  have h1 := hp j hj
  have h2 := hp n (Nat.le_refl _)
  have a1 := h1.1.1
  have a2 := h2.1.1
  have b1 := h1.1.2.1
  have b2 := h2.1.2.1
  have c1 := pn2_lt h1
  have c2 := pn2_lt h2
  have lo := fun acc => m_same_lo hh hn hj 64 0 qq_FU acc (by omega) (by rw [fu1]; omega)
  rw [show iI ((0 : Nat) : Int) = 0 from rfl] at lo
  have i1 : qq_in (iI (j : Int)) 151 = true := iI_in (by omega) (by omega) (by omega)
  have i2 : qq_in (iI (n : Int)) 151 = true := iI_in (by omega) (by omega) (by omega)
  have fF : bk_M_same_49 pa pS pR pG (iI (j : Int)) (iI (n : Int)) = some (ge_z false) := by
    have := lo false
    rw [Bool.false_and] at this
    rw [← this, bk_M_same_49, bk_M_same_50]
    rfl
  rw [smb_mm h1 h2, smm, fn_M_same, iI_cn (show j < _ by omega), iI_cn (show n < _ by omega), (hh j hj).2.1, (hh n (Nat.le_refl _)).2.1, (hh j hj).2.2.1, (hh n (Nat.le_refl _)).2.2.1, (hh j hj).2.2.2.1, (hh n (Nat.le_refl _)).2.2.2.1]
  refine hd_ck i1 (hd_ck i2 ?_)
  by_cases e1 : (G j).2.1 = (G n).2.1
  · refine hd_T (by rw [e1]) (hd_ck i1 (hd_ck i2 ?_))
    by_cases e2 : (G j).2.2.1 = (G n).2.2.1
    · refine hd_T (by rw [e2]) (hd_ck i1 (hd_ck i2 ?_))
      by_cases e3 : pn2 (G j) = pn2 (G n)
      · refine hd_T (by rw [e3]) ?_
        rw [decide_eq_true e1, decide_eq_true e2, decide_eq_true e3, bk_M_same_50]
        exact lo true
      · refine hd_F (by rw [iI_eq (by omega) (by omega) (by omega) (by omega)]; omega) ?_
        rw [decide_eq_false e3, Bool.and_false, Bool.and_false, Bool.false_and]
        exact fF
    · refine hd_F (by rw [iI_eq (by omega) (by omega) (by omega) (by omega)]; omega) ?_
      rw [decide_eq_false e2, Bool.false_and, Bool.and_false, Bool.false_and]
      exact fF
  · refine hd_F (by rw [iI_eq (by omega) (by omega) (by omega) (by omega)]; omega) ?_
    rw [decide_eq_false e1, Bool.false_and, Bool.false_and]
    exact fF
theorem m_seen_lo {n : Nat} {G : Nat → Ps} {Q : Nat → Int32} {pa pS pR pG pP pQ : Nat → Int32} (hh : hmo n G Q pa pS pR pG pP pQ) (hn : n ≤ 150) (hp : ∀ j, j ≤ n → pvp (G j)) (mpl mth : Int32) : lo_M_seen_25 mpl (iI (n : Int)) pa pS pR pG qq_FU mth 0 0 = some (iI (scn G n 0 (n + 1) : Int), mth) := by
  have lo : ∀ (m j f x : Nat), j + m = n + 1 → m + 1 ≤ f → lo_M_seen_25 mpl (iI (n : Int)) pa pS pR pG f mth (iI (x : Int)) (iI (j : Int)) = some (iI ((x + scn G n j m : Nat) : Int), mth) := by
    intro m
    induction m with
    | zero =>
      intro j f x hj hf
      obtain ⟨f, rfl⟩ : ∃ n', f = n' + 1 := ⟨f - 1, by omega⟩
      rw [lo_M_seen_25_s]
      exact hd_T (by rw [iI_lt (by omega) (by omega) (by omega) (by omega)]; omega) rfl
    | succ m ih =>
      intro j f x hj hf
      obtain ⟨f, rfl⟩ : ∃ n', f = n' + 1 := ⟨f - 1, by omega⟩
      rw [lo_M_seen_25_s]
      refine hd_F (by rw [iI_lt (by omega) (by omega) (by omega) (by omega)]; omega) (hd_b (m_same hh hn hp (show j ≤ n by omega)) ?_)
      rw [scn_s]
      cases smb (G j) (G n) with
      | false =>
        refine hd_T rfl ?_
        rw [bk_M_seen_52]
        show lo_M_seen_25 _ _ _ _ _ _ f _ _ (iI (j : Int) + 1) = _
        rw [iI_s1, ih (j + 1) f x (by omega) (by omega), if_neg (by decide), Nat.zero_add]
      | true =>
        refine hd_F gzT ?_
        rw [bk_M_seen_52]
        show lo_M_seen_25 _ _ _ _ _ _ f _ (iI (x : Int) + 1) (iI (j : Int) + 1) = _
        rw [iI_s1, iI_s1, ih (j + 1) f (x + 1) (by omega) (by omega), if_pos rfl, Nat.add_assoc]
  have := lo (n + 1) 0 qq_FU 0 (by omega) (by rw [fu1]; omega)
  rw [show iI ((0 : Nat) : Int) = 0 from rfl, Nat.zero_add] at this
  exact this
