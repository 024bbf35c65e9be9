/-! the model's rows for positions kept: keep, back; isMove -/
abbrev KT : Type := (Nat → Int32) × (Nat → Int32) × (Nat → Int32) × (Nat → Int32) × (Nat → Int32)
def kpt (l : Nat) (b : Bd) (sd r pp : Nat) (q : Int32) (K : KT) : Prop := (∀ j, j < 64 → K.1 (64 * l + j) = bq b j) ∧ K.2.1 l = iI (sd : Int) ∧ K.2.2.1 l = iI (r : Int) ∧ K.2.2.2.1 l = iI ((pp : Int) - 1) ∧ K.2.2.2.2 l = q
def kag (m : Nat) (K K' : KT) : Prop := (∀ j, j < 64 * m → K'.1 j = K.1 j) ∧ ∀ j, j < m → K'.2.1 j = K.2.1 j ∧ K'.2.2.1 j = K.2.2.1 j ∧ K'.2.2.2.1 j = K.2.2.2.1 j ∧ K'.2.2.2.2 j = K.2.2.2.2 j
theorem kag_r (m : Nat) (K : KT) : kag m K K := ⟨fun _ _ => rfl, fun _ _ => ⟨rfl, rfl, rfl, rfl⟩⟩
theorem kag_t {m : Nat} {K K' K'' : KT} (h1 : kag m K K') (h2 : kag m K' K'') : kag m K K'' :=
  ⟨fun j hj => (h2.1 j hj).trans (h1.1 j hj), fun j hj => ⟨(h2.2 j hj).1.trans (h1.2 j hj).1, (h2.2 j hj).2.1.trans (h1.2 j hj).2.1, (h2.2 j hj).2.2.1.trans (h1.2 j hj).2.2.1, (h2.2 j hj).2.2.2.trans (h1.2 j hj).2.2.2⟩⟩
theorem kag_m {m m' : Nat} {K K' : KT} (h : kag m K K') (hm : m' ≤ m) : kag m' K K' := ⟨fun j hj => h.1 j (by omega), fun j hj => h.2 j (by omega)⟩
theorem kpt_a {l m : Nat} {b : Bd} {sd r pp : Nat} {q : Int32} {K K' : KT} (h : kpt l b sd r pp q K) (hl : l < m) (ha : kag m K K') : kpt l b sd r pp q K' := by
  obtain ⟨h1, h2, h3, h4, h5⟩ := h
  obtain ⟨a1, a2⟩ := ha
  have a3 := a2 l hl
  exact ⟨fun j hj => (a1 _ (by omega)).trans (h1 j hj), a3.1.trans h2, a3.2.1.trans h3, a3.2.2.1.trans h4, a3.2.2.2.trans h5⟩
theorem gzT : ¬ ge_z true = 0 := by decide
theorem i64 (l j : Nat) : (64 : Int32) * iI (l : Int) + iI (j : Int) = iI ((64 * l + j : Nat) : Int) := by
  show iI 64 * iI _ + iI _ = _
  rw [iI_mul, iI_add]; congr 1
theorem upd_at (f : Nat → Int32) (i : Nat) (v : Int32) : upd f i v i = v := if_pos rfl
theorem upd_ne (f : Nat → Int32) {i j : Nat} (v : Int32) (h : j ≠ i) : upd f i v j = f j := if_neg h
theorem m_keep_lo {l : Nat} (hl : l < 4) (msd mrt mps mqt : Int32) (bd : Nat → Int32) (kS kR kP kQ : Nat → Int32) : ∀ (m j n : Nat) (kp : Nat → Int32), j + m = 64 → m + 1 ≤ n →
    ∃ kp', lo_M_keep_2 msd mrt mps mqt bd (iI (l : Int)) n kp kS kR kP kQ (iI (j : Int)) = some (kp', upd kS l msd, upd kR l mrt, upd kP l mps, upd kQ l mqt) ∧ (∀ i, j ≤ i → i < 64 → kp' (64 * l + i) = bd i) ∧ (∀ i, i < 64 * l + j → kp' i = kp i) := by
  intro m
  induction m with
  | zero =>
    intro j n kp hj hn
    obtain ⟨n, rfl⟩ : ∃ n', n = n' + 1 := ⟨n - 1, by omega⟩
    refine ⟨kp, ?_, fun i h1 h2 => by omega, fun _ _ => rfl⟩
    rw [lo_M_keep_2_s]
    have hi : qq_in (iI (l : Int)) 4 = true := iI_in (by omega) (by omega) (by omega)
    refine hd_T (by show iI 64 ≤ iI _; rw [iI_le (by omega) (by omega) (by omega) (by omega)]; omega) ?_
    rw [iI_cn (by omega)]
    exact hd_ck hi (hd_ck hi (hd_ck hi (hd_ck hi rfl)))
  | succ m ih =>
    intro j n kp hj hn
    obtain ⟨n, rfl⟩ : ∃ n', n = n' + 1 := ⟨n - 1, by omega⟩
    obtain ⟨kp', q1, q2, q3⟩ := ih (j + 1) n (upd kp (64 * l + j) (bd j)) (by omega) (by omega)
    refine ⟨kp', ?_, ?_, ?_⟩
    · rw [lo_M_keep_2_s]
      refine hd_F (by show ¬ iI 64 ≤ iI _; rw [iI_le (by omega) (by omega) (by omega) (by omega)]; omega) ?_
      rw [i64, iI_cn (show j < _ by omega), iI_cn (show 64 * l + j < _ by omega)]
      refine hd_ck (iI_in (by omega) (by omega) (by omega)) ?_
      refine hd_ck (iI_in (by omega) (by omega) (by omega)) ?_
      rw [← q1]
      show lo_M_keep_2 _ _ _ _ _ _ n _ _ _ _ _ (iI (j : Int) + 1) = _
      rw [iI_s1]
    · intro i h1 h2
      rcases Nat.lt_or_ge j i with z | z
      · exact q2 i z h2
      · have e : i = j := by omega
        subst e
        rw [q3 _ (by omega), upd_at]
    · intro i hi
      rw [q3 _ (by omega), upd_ne _ _ (by omega)]
theorem m_keep {l : Nat} (hl : l < 4) (b : Bd) (sd r pp : Nat) (q : Int32) (K : KT) :
    ∃ K' : KT, fn_M_keep (iI (sd : Int)) (iI (r : Int)) (iI ((pp : Int) - 1)) q (bq b) K.1 K.2.1 K.2.2.1 K.2.2.2.1 K.2.2.2.2 (iI (l : Int)) = some (K'.1, K'.2.1, K'.2.2.1, K'.2.2.2.1, K'.2.2.2.2) ∧ kpt l b sd r pp q K' ∧ kag l K K' := by
  obtain ⟨kp', q1, q2, q3⟩ := m_keep_lo hl (iI (sd : Int)) (iI (r : Int)) (iI ((pp : Int) - 1)) q (bq b) K.2.1 K.2.2.1 K.2.2.2.1 K.2.2.2.2 64 0 1000 K.1 (by omega) (by omega)
  refine ⟨(kp', upd K.2.1 l (iI (sd : Int)), upd K.2.2.1 l (iI (r : Int)), upd K.2.2.2.1 l (iI ((pp : Int) - 1)), upd K.2.2.2.2 l q), q1, ?_, ?_⟩
  · exact ⟨fun j hj => q2 j (by omega) hj, upd_at _ _ _, upd_at _ _ _, upd_at _ _ _, upd_at _ _ _⟩
  · exact ⟨fun j hj => q3 j (by omega), fun j hj => ⟨upd_ne _ _ (by omega), upd_ne _ _ (by omega), upd_ne _ _ (by omega), upd_ne _ _ (by omega)⟩⟩
theorem m_back_lo {l : Nat} (hl : l < 4) {b : Bd} {sd r pp : Nat} {q : Int32} {K : KT} (h : kpt l b sd r pp q K) (msd mrt mps mqt : Int32) : ∀ (m j n : Nat) (bd : Nat → Int32), j + m = 64 → m + 1 ≤ n → (∀ i, i < j ∨ 64 ≤ i → bd i = bq b i) →
    lo_M_back_2 K.1 K.2.1 K.2.2.1 K.2.2.2.1 K.2.2.2.2 (iI (l : Int)) n msd mrt mps mqt bd (iI (j : Int)) = some (iI (sd : Int), iI (r : Int), iI ((pp : Int) - 1), q, bq b) := by
  obtain ⟨h1, h2, h3, h4, h5⟩ := h
  intro m
  induction m with
  | zero =>
    intro j n bd hj hn hb
    obtain ⟨n, rfl⟩ : ∃ n', n = n' + 1 := ⟨n - 1, by omega⟩
    rw [lo_M_back_2_s]
    have hi : qq_in (iI (l : Int)) 4 = true := iI_in (by omega) (by omega) (by omega)
    refine hd_T (by show iI 64 ≤ iI _; rw [iI_le (by omega) (by omega) (by omega) (by omega)]; omega) ?_
    have e : bd = bq b := funext fun i => hb i (by omega)
    rw [iI_cn (by omega), h2, h3, h4, h5, e]
    exact hd_ck hi (hd_ck hi (hd_ck hi (hd_ck hi rfl)))
  | succ m ih =>
    intro j n bd hj hn hb
    obtain ⟨n, rfl⟩ : ∃ n', n = n' + 1 := ⟨n - 1, by omega⟩
    rw [lo_M_back_2_s]
    refine hd_F (by show ¬ iI 64 ≤ iI _; rw [iI_le (by omega) (by omega) (by omega) (by omega)]; omega) ?_
    rw [i64, iI_cn (show j < _ by omega), iI_cn (show 64 * l + j < _ by omega)]
    refine hd_ck (iI_in (by omega) (by omega) (by omega)) ?_
    refine hd_ck (iI_in (by omega) (by omega) (by omega)) ?_
    show lo_M_back_2 _ _ _ _ _ _ n _ _ _ _ _ (iI (j : Int) + 1) = _
    rw [iI_s1]
    apply ih (j + 1) n _ (by omega) (by omega)
    intro i hi
    by_cases e : i = j
    · subst e
      rw [upd_at]; exact h1 i (by omega)
    · rw [upd_ne _ _ e]; exact hb i (by omega)
theorem m_back {l : Nat} (hl : l < 4) {b : Bd} {sd r pp : Nat} {q : Int32} {K : KT} (h : kpt l b sd r pp q K) (msd mrt mps mqt : Int32) {bd : Nat → Int32} (hb : ∀ i, 64 ≤ i → bd i = bq b i) :
    fn_M_back msd mrt mps mqt bd K.1 K.2.1 K.2.2.1 K.2.2.2.1 K.2.2.2.2 (iI (l : Int)) = some (iI (sd : Int), iI (r : Int), iI ((pp : Int) - 1), q, bq b) :=
  m_back_lo hl h msd mrt mps mqt 64 0 1000 bd (by omega) (by omega) (fun i hi => hb i (by omega))
theorem mv_out {b : Bd} {sd a t p : Nat} (ha : a < 64) (ht : t < 64) {j : Nat} (hj : 64 ≤ j) : mvb b sd a t p j = b j := by
  have e1 : b1 b a t j = b j := by
    rw [b1]; split
    · rw [bU_ne]; rw [bst]; omega
    · rfl
  have e2 : b2 b sd a t p j = b j := by rw [b2, bU_ne (by omega), bU_ne (by omega), e1]
  rw [mvb, b3]; split
  · have := cor_lt ha (t := t)
    rw [bU_ne (by omega), bU_ne (by omega), e2]
  · exact e2
theorem pv_pw {b : Bd} {sd r pp : Nat} {k : Nat → Nat} (h : pv b sd r pp k) {who : Nat} (hw : who < 2) : ∀ a, a < 64 → (b a).val = 1 + 6 * who → 8 ≤ a ∧ a < 56 := fun a ha hv => h.2.2.1 a ha (isOf_pawn (b a) who hw hv).1
theorem m_isMove {b : Bd} {sd r pp a t p : Nat} {k : Nat → Nat} (h : pv b sd r pp k) (ha : a < 64) (ht : t < 64) (hp : p < 6) (q : Int32) (K : KT) :
    ∃ K' : KT, fn_M_isMove (iI (sd : Int)) (iI (r : Int)) (iI ((pp : Int) - 1)) q (bq b) K.1 K.2.1 K.2.2.1 K.2.2.2.1 K.2.2.2.2 (iI (a : Int)) (iI (t : Int)) (iI (p : Int)) = some (ge_z (gs b sd r pp (k sd) a t p && sf b sd k a t p), iI (sd : Int), iI (r : Int), iI ((pp : Int) - 1), q, bq b, K'.1, K'.2.1, K'.2.2.1, K'.2.2.2.1, K'.2.2.2.2) ∧ kag 3 K K' := by
  have hsd := h.1.1
  have hgo := m_goes hsd h.1.2.1 h.1.2.2 (pv_ok h hsd) (pv_pw h hsd) ha ht (show p ≤ 5 by omega)
  rw [fn_M_isMove, hgo]
  cases hg : gs b sd r pp (k sd) a t p with
  | false => exact ⟨K, hd_b rfl (hd_T rfl rfl), kag_r _ _⟩
  | true =>
    obtain ⟨K', q1, q2, q3⟩ := m_keep (show 3 < 4 by omega) b sd r pp q K
    have q1' : fn_M_keep (iI (sd : Int)) (iI (r : Int)) (iI ((pp : Int) - 1)) q (bq b) K.1 K.2.1 K.2.2.1 K.2.2.2.1 K.2.2.2.2 3 = _ := q1
    have g1 := m_go hsd h.1.2.1 ha ht hp hg (iI ((pp : Int) - 1)) q
    have c1 := m_isChecked hsd (mv_ok h ha ht hg hsd)
    have b1 := m_back (show 3 < 4 by omega) q2 (iI ((1 - sd : Nat) : Int)) (iI (rr r a t : Int)) (iI ((ppn b a t : Int) - 1)) (qn b a t q) (bd := bq (mvb b sd a t p)) (fun i hi => by show iI _ = iI _; rw [mv_out ha ht hi])
    refine ⟨K', ?_, q3⟩
    refine hd_b rfl (hd_F gzT ?_)
    refine hd_b q1' ?_
    refine hd_b g1 ?_
    have e : (1 : Int32) - iI ((1 - sd : Nat) : Int) = iI (sd : Int) := by
      rw [i1m (by omega), show 1 - (1 - sd) = sd by omega]
    show (fn_M_isChecked _ ((1 : Int32) - iI ((1 - sd : Nat) : Int))).bind _ = _
    rw [e, c1]
    cases hm : mh (mvb b sd a t p) (1 - sd) (kU b k sd a t sd) with
    | false =>
      refine hd_b rfl (hd_T rfl ?_)
      refine hd_b b1 ?_
      rw [sf, hm]; rfl
    | true =>
      refine hd_b rfl (hd_F gzT ?_)
      refine hd_b b1 ?_
      rw [sf, hm]; rfl
