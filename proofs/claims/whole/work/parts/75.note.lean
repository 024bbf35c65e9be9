/-! positions noted: words and marks in the class, rows in the model -/
def wv (b : Bd) : Nat → Nat → Nat → Nat
  | 0, _, w => w
  | m + 1, j, w => wv b m (j + 1) (16 * w + (b j).val)
theorem wv_lt (b : Bd) : ∀ (m j w e : Nat), w < 16 ^ e → wv b m j w < 16 ^ (e + m)
  | 0, _, _, _, h => h
  | m + 1, j, w, e, h => by
    have := wv_lt b m (j + 1) (16 * w + (b j).val) (e + 1) (by rw [Nat.pow_succ]; omega)
    rw [show e + (m + 1) = e + 1 + m by omega]
    exact this
theorem wv_inj (b b' : Bd) : ∀ (m j w w' : Nat), wv b m j w = wv b' m j w' → w = w' ∧ ∀ i, i < m → b (j + i) = b' (j + i)
  | 0, _, _, _, h => ⟨h, fun i hi => by omega⟩
  | m + 1, j, w, w', h => by
    obtain ⟨h1, h2⟩ := wv_inj b b' m (j + 1) _ _ h
    refine ⟨by omega, fun i hi => ?_⟩
    rcases Nat.eq_zero_or_pos i with z | z
    · subst z
      exact val_inj (by show (b j).val = (b' j).val; omega)
    · have := h2 (i - 1) (by omega)
      rw [show j + 1 + (i - 1) = j + i by omega] at this
      exact this
theorem wv_cg (b b' : Bd) : ∀ (m j w : Nat), (∀ i, i < m → b (j + i) = b' (j + i)) → wv b m j w = wv b' m j w
  | 0, _, _, _ => rfl
  | m + 1, j, w, h => by
    show wv b m (j + 1) _ = wv b' m (j + 1) _
    rw [show b j = b' j from h 0 (by omega)]
    exact wv_cg b b' m (j + 1) _ (fun i hi => by have := h (i + 1) (by omega); rw [show j + 1 + i = j + (i + 1) by omega]; exact this)
theorem wd_64 : ∀ p : Fin 13, (iI (p.val : Int)).toInt64 = lN p.val := by decide
theorem wd_st {w : Nat} (hw : w < 16 ^ 15) (p : Fin 13) : (lN w <<< ((4 : Int32).toInt64 &&& 63)) ||| (iI (p.val : Int)).toInt64 = lN (16 * w + p.val) := by
  rw [wd_64, show (4 : Int32) = nI 4 from rfl, wb_shl w (show 4 < 64 by omega), wb_or (by omega) (by omega)]
  congr 1
  have := Nat.shiftLeft_add_eq_or_of_lt (show p.val < 2 ^ 4 by omega) w
  rw [Nat.shiftLeft_eq] at this
  omega
theorem wd_lo {b : Bd} {f : Nat} (hf : f + 16 ≤ 64) : ∀ (m j n w : Nat), j + m = f + 16 → m + 1 ≤ n → m ≤ 16 → w < 16 ^ (16 - m) → lo_H_wordOf_5 (bq b) (iI (f : Int)) n (lN w) (iI (j : Int)) = some (lN (wv b m j w)) := by
  have ef : iI (f : Int) + 16 = iI ((f + 16 : Nat) : Int) := by
    show iI _ + iI 16 = _
    rw [iI_add]; congr 1
  intro m
  induction m with
  | zero =>
    intro j n w hj hn _ _
    obtain ⟨n, rfl⟩ : ∃ n', n = n' + 1 := ⟨n - 1, by omega⟩
    rw [lo_H_wordOf_5_s, ef]
    exact hd_T (by rw [iI_le (by omega) (by omega) (by omega) (by omega)]; omega) rfl
  | succ m ih =>
    intro j n w hj hn hm hw
    obtain ⟨n, rfl⟩ : ∃ n', n = n' + 1 := ⟨n - 1, by omega⟩
    have hw15 : w < 16 ^ 15 := Nat.lt_of_lt_of_le hw (Nat.pow_le_pow_right (by omega) (by omega))
    rw [lo_H_wordOf_5_s, ef, iI_cn (by omega)]
    refine hd_F (by rw [iI_le (by omega) (by omega) (by omega) (by omega)]; omega) (hd_ck (iI_in (by omega) (by omega) (by omega)) ?_)
    have es := wd_st hw15 (b j)
    have es' : (lN w <<< ((4 : Int32).toInt64 &&& 63)) ||| (bq b j).toInt64 = lN (16 * w + (b j).val) := es
    rw [es']
    show lo_H_wordOf_5 _ _ n _ (iI (j : Int) + 1) = _
    rw [iI_s1]
    apply ih (j + 1) n _ (by omega) (by omega) (by omega)
    rw [show 16 - m = (16 - (m + 1)) + 1 by omega, Nat.pow_succ]
    omega
theorem h_wordOf {b : Bd} {f : Nat} (hf : f + 16 ≤ 64) : fn_H_wordOf (bq b) (iI (f : Int)) = some (lN (wv b 16 f 0)) := by
  rw [fn_H_wordOf]
  exact wd_lo hf 16 f qq_FU 0 rfl (by rw [fu1]; omega) (by omega) (by decide)
def mkp (P : Ps) : Nat := pn1 P + 32 * P.2.1 + 64 * P.2.2.1
theorem mk_e : ∀ n : Nat, n < 32 → ∀ sd : Nat, sd < 2 → ∀ r : Nat, r < 16 → (iI (n : Int) ||| (iI (sd : Int) <<< ((5 : Int32) &&& 31))) ||| (iI (r : Int) <<< ((6 : Int32) &&& 31)) = iI ((n + 32 * sd + 64 * r : Nat) : Int) := by decide +kernel
theorem h_note_lo {b : Bd} {n : Nat} (hn : n ≤ 150) (sd rt a2 : Int32) (ma : Nat → Int32) : ∀ (m w f : Nat) (bo : Nat → Int64), w + m = 4 → m + 1 ≤ f →
    ∃ bo', lo_H_notePosition_27 (iI (n : Int)) sd rt (bq b) a2 f bo ma (iI (w : Int)) = some (bo', ma) ∧ (∀ i, w ≤ i → i < 4 → bo' (4 * n + i) = lN (wv b 16 (16 * i) 0)) ∧ (∀ i, i < 4 * n + w → bo' i = bo i) := by
  intro m
  induction m with
  | zero =>
    intro w f bo hw hf
    obtain ⟨f, rfl⟩ : ∃ n', f = n' + 1 := ⟨f - 1, by omega⟩
    refine ⟨bo, ?_, fun i h1 h2 => by omega, fun _ _ => rfl⟩
    rw [lo_H_notePosition_27_s]
    exact hd_T (by show iI 4 ≤ iI _; rw [iI_le (by omega) (by omega) (by omega) (by omega)]; omega) rfl
  | succ m ih =>
    intro w f bo hw hf
    obtain ⟨f, rfl⟩ : ∃ n', f = n' + 1 := ⟨f - 1, by omega⟩
    obtain ⟨bo', q1, q2, q3⟩ := ih (w + 1) f (vp_updL bo (4 * n + w) (lN (wv b 16 (16 * w) 0))) (by omega) (by omega)
    have e16 : (16 : Int32) * iI (w : Int) = iI ((16 * w : Nat) : Int) := by
      show iI 16 * iI _ = _
      rw [iI_mul]; congr 1
    have e4 : (4 : Int32) * iI (n : Int) + iI (w : Int) = iI ((4 * n + w : Nat) : Int) := by
      show iI 4 * iI _ + iI _ = _
      rw [iI_mul, iI_add]; congr 1
    have hv := @h_wordOf b (16 * w) (by omega)
    refine ⟨bo', ?_, ?_, ?_⟩
    · rw [lo_H_notePosition_27_s, e16, e4, iI_cn (by omega)]
      refine hd_F (by show ¬ iI 4 ≤ iI _; rw [iI_le (by omega) (by omega) (by omega) (by omega)]; omega) (hd_b hv (hd_ck (iI_in (by omega) (by omega) (by omega)) ?_))
      rw [← q1]
      show lo_H_notePosition_27 _ _ _ _ _ f _ _ (iI (w : Int) + 1) = _
      rw [iI_s1]
    · intro i h1 h2
      rcases Nat.lt_or_ge w i with z | z
      · exact q2 i z h2
      · have e : i = w := by omega
        subst e
        rw [q3 _ (by omega)]
        exact if_pos rfl
    · intro i hi
      rw [q3 _ (by omega)]
      exact if_neg (by omega)
theorem h_note {P : Ps} (h : pvp P) {n : Nat} (hn : n ≤ 150) (bo : Nat → Int64) (ma : Nat → Int32) :
    ∃ bo', fn_H_notePosition (iI (n : Int)) bo ma (iI (P.2.1 : Int)) (iI (P.2.2.1 : Int)) (bq P.1) (iI (pn1 P : Int)) = some (bo', upd ma n (iI (mkp P : Int))) ∧ (∀ i, i < 4 → bo' (4 * n + i) = lN (wv P.1 16 (16 * i) 0)) ∧ (∀ i, i < 4 * n → bo' i = bo i) := by
  obtain ⟨bo', q1, q2, q3⟩ := @h_note_lo P.1 n hn (iI (P.2.1 : Int)) (iI (P.2.2.1 : Int)) (iI (pn1 P : Int)) (upd ma n (iI (mkp P : Int))) 4 0 qq_FU bo (by omega) (by rw [fu1]; omega)
  refine ⟨bo', ?_, fun i hi => q2 i (by omega) hi, fun i hi => q3 i (by omega)⟩
  rw [fn_H_notePosition, mk_e _ (pn1_lt h) _ h.1.1 _ h.1.2.1, iI_cn (by omega)]
  exact hd_ck (iI_in (by omega) (by omega) (by omega)) q1
theorem m_note_lo {P : Ps} (h : pvp P) {n : Nat} (hn : n ≤ 150) (q : Int32) (K : KT) (pS pR pG pP pQ : Nat → Int32) : ∃ K' : KT, kag 3 K K' ∧ ∀ (m j f : Nat) (pa : Nat → Int32), j + m = 64 → m + 1 ≤ f →
    ∃ pa', lo_M_note_2 (iI (n : Int)) f (iI (P.2.1 : Int)) (iI (P.2.2.1 : Int)) (iI ((P.2.2.2.1 : Int) - 1)) q (bq P.1) pa pS pR pG pP pQ K.1 K.2.1 K.2.2.1 K.2.2.2.1 K.2.2.2.2 (iI (j : Int)) = some (iI (P.2.1 : Int), iI (P.2.2.1 : Int), iI ((P.2.2.2.1 : Int) - 1), q, bq P.1, pa', upd pS n (iI (P.2.1 : Int)), upd pR n (iI (P.2.2.1 : Int)), upd pG n (iI (pn2 P : Int)), upd pP n (iI ((P.2.2.2.1 : Int) - 1)), upd pQ n q, K'.1, K'.2.1, K'.2.2.1, K'.2.2.2.1, K'.2.2.2.2) ∧ (∀ i, j ≤ i → i < 64 → pa' (64 * n + i) = bq P.1 i) ∧ (∀ i, i < 64 * n + j → pa' i = pa i) := by
  obtain ⟨K', k1, k2⟩ := m_passing h q K
  refine ⟨K', k2, ?_⟩
  intro m
  induction m with
  | zero =>
    intro j f pa hj hf
    obtain ⟨f, rfl⟩ : ∃ n', f = n' + 1 := ⟨f - 1, by omega⟩
    refine ⟨pa, ?_, fun i h1 h2 => by omega, fun _ _ => rfl⟩
    have hi : qq_in (iI (n : Int)) 151 = true := iI_in (by omega) (by omega) (by omega)
    rw [lo_M_note_2_s, iI_cn (show n < _ by omega)]
    refine hd_T (by show iI 64 ≤ iI _; rw [iI_le (by omega) (by omega) (by omega) (by omega)]; omega) ?_
    exact hd_ck hi (hd_ck hi (hd_b k1 (hd_ck hi (hd_ck hi (hd_ck hi rfl)))))
  | succ m ih =>
    intro j f pa hj hf
    obtain ⟨f, rfl⟩ : ∃ n', f = n' + 1 := ⟨f - 1, by omega⟩
    obtain ⟨pa', q1, q2, q3⟩ := ih (j + 1) f (upd pa (64 * n + j) (bq P.1 j)) (by omega) (by omega)
    refine ⟨pa', ?_, ?_, ?_⟩
    · rw [lo_M_note_2_s, i64, iI_cn (show j < _ by omega), iI_cn (show 64 * n + j < _ by omega)]
      refine hd_F (by show ¬ iI 64 ≤ iI _; rw [iI_le (by omega) (by omega) (by omega) (by omega)]; omega) ?_
      refine hd_ck (iI_in (by omega) (by omega) (by omega)) ?_
      refine hd_ck (iI_in (by omega) (by omega) (by omega)) ?_
      rw [← q1]
      show lo_M_note_2 _ f _ _ _ _ _ _ _ _ _ _ _ _ _ _ _ _ (iI (j : Int) + 1) = _
      rw [iI_s1]
    · intro i h1 h2
      rcases Nat.lt_or_ge j i with z | z
      · exact q2 i z h2
      · have e : i = j := by omega
        subst e
        rw [q3 _ (by omega), upd_at]
    · intro i hi
      rw [q3 _ (by omega), upd_ne _ _ (by omega)]
theorem m_note {P : Ps} (h : pvp P) {n : Nat} (hn : n ≤ 150) (q : Int32) (K : KT) (pa pS pR pG pP pQ : Nat → Int32) : ∃ (K' : KT) (pa' : Nat → Int32), fn_M_note (iI (P.2.1 : Int)) (iI (P.2.2.1 : Int)) (iI ((P.2.2.2.1 : Int) - 1)) q (iI (n : Int)) (bq P.1) pa pS pR pG pP pQ K.1 K.2.1 K.2.2.1 K.2.2.2.1 K.2.2.2.2 = some (iI (P.2.1 : Int), iI (P.2.2.1 : Int), iI ((P.2.2.2.1 : Int) - 1), q, bq P.1, pa', upd pS n (iI (P.2.1 : Int)), upd pR n (iI (P.2.2.1 : Int)), upd pG n (iI (pn2 P : Int)), upd pP n (iI ((P.2.2.2.1 : Int) - 1)), upd pQ n q, K'.1, K'.2.1, K'.2.2.1, K'.2.2.2.1, K'.2.2.2.2) ∧ (∀ i, i < 64 → pa' (64 * n + i) = bq P.1 i) ∧ (∀ i, i < 64 * n → pa' i = pa i) := by
  obtain ⟨K', -, e⟩ := m_note_lo h hn q K pS pR pG pP pQ
  obtain ⟨pa', q1, q2, q3⟩ := e 64 0 qq_FU pa (by omega) (by rw [fu1]; omega)
  refine ⟨K', pa', ?_, fun i hi => q2 i (by omega) hi, fun i hi => q3 i (by omega)⟩
  rw [fn_M_note]
  exact q1
