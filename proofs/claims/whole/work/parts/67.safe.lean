/-! keepsKingSafe, listMoves, isInCheck -/
theorem iI_1m {sd : Nat} (h : sd < 2) : iI (1 - (sd : Int)) = iI ((1 - sd : Nat) : Int) := by congr 1; omega
theorem i1m {sd : Nat} (h : sd < 2) : (1 : Int32) - iI (sd : Int) = iI ((1 - sd : Nat) : Int) := by
  show iI 1 - iI _ = _
  rw [iI_sub]; exact iI_1m h
theorem kq_at (k : Nat → Nat) (j : Nat) : kq k j = iI ((k j : Nat) : Int) := rfl
def sf (b : Bd) (sd : Nat) (k : Nat → Nat) (a t p : Nat) : Bool := !mh (mvb b sd a t p) (1 - sd) (kU b k sd a t sd)
theorem kU_lt {b : Bd} {sd r pp a t p : Nat} {k : Nat → Nat} (h : pv b sd r pp k) (ha : a < 64) (ht : t < 64) (hg : gs b sd r pp (k sd) a t p = true) {who : Nat} (hw : who < 2) : kU b k sd a t who < 64 := (mv_ok h ha ht hg hw).1
theorem ge_zn (x : Bool) : (if ge_z x = 0 then (1 : Int32) else 0) = ge_z (!x) := by cases x <;> decide
theorem p_safe {b : Bd} {sd r pp a t p : Nat} {k : Nat → Nat} (h : pv b sd r pp k) (ha : a < 64) (ht : t < 64) (hp : p < 6) (hg : gs b sd r pp (k sd) a t p = true) :
    fn_P_keepsKingSafe (iI (sd : Int)) (iI (r : Int)) (iI ((pp : Int) - 1)) (bq b) (kq k) (iI (cod a t p : Int)) = some (ge_z (sf b sd k a t p), iI (sd : Int), iI (r : Int), iI ((pp : Int) - 1), bq b, kq k) := by
  have hsd := h.1.1
  have hk := kU_lt h ha ht hg hsd
  have hpl := @p_play b sd r pp a t p k hsd h.1.2.1 h.1.2.2 ha ht hp (gs_own hg).1
  have hh := @p_isHitBy (mvb b sd a t p) (1 - sd) (kU b k sd a t sd) (by omega) hk
  have htb := p_takeBack h ha ht hp hg
  rw [fn_P_keepsKingSafe, hpl]
  refine hd_ck (iI_in (by omega) (by omega) (by omega)) ?_
  rw [iI_cn (by omega), kq_at, i1m hsd, hh]
  cases hm : mh (mvb b sd a t p) (1 - sd) (kU b k sd a t sd) with
  | false =>
    refine hd_b rfl ?_
    refine hd_T rfl ?_
    refine hd_b (htb _ _) ?_
    rw [sf, hm]
    rfl
  | true =>
    refine hd_b rfl ?_
    refine hd_F (show ¬ ge_z true = 0 by decide) ?_
    refine hd_b (htb _ _) ?_
    rw [sf, hm]
    rfl
theorem p_inCheck {b : Bd} {k : Nat → Nat} {who : Nat} (hw : who < 2) (hk : k who < 64) : fn_P_isInCheck (bq b) (kq k) (iI (who : Int)) = some (ge_z (mh b (1 - who) (k who))) := by
  have hh := @p_isHitBy b (1 - who) (k who) (by omega) hk
  rw [fn_P_isInCheck]
  refine hd_ck (iI_in (by omega) (by omega) (by omega)) ?_
  rw [iI_cn (by omega), kq_at, i1m hw, hh]
  exact hd_ck (iI_bz _) rfl
theorem cod_1 {a t p : Nat} (ha : a < 64) (ht : t < 64) : cod a t p % 64 = a ∧ cod a t p / 64 % 64 = t ∧ cod a t p / 4096 = p := by rw [cod]; omega
def sfc (b : Bd) (sd : Nat) (k : Nat → Nat) (c : Nat) : Bool := sf b sd k (c % 64) (c / 64 % 64) (c / 4096)
theorem sfc_e {b : Bd} {sd : Nat} {k : Nat → Nat} {a t p : Nat} (ha : a < 64) (ht : t < 64) : sfc b sd k (cod a t p) = sf b sd k a t p := by
  rw [sfc, (cod_1 ha ht).1, (cod_1 ha ht).2.1, (cod_1 ha ht).2.2]
theorem pml_le {b : Bd} {a t p : Nat} (h : p ∈ pml b a t) : p < 6 := by
  rw [pml] at h
  split at h <;> simp at h <;> omega
theorem mct_mem {b : Bd} {sd r pp ks a t c : Nat} : c ∈ mct b sd r pp ks a t ↔ ∃ p, p ∈ pml b a t ∧ gs b sd r pp ks a t p = true ∧ c = cod a t p := by
  simp only [mct, List.mem_map, List.mem_filter]
  constructor
  · rintro ⟨p, ⟨h1, h2⟩, h3⟩; exact ⟨p, h1, h2, h3.symm⟩
  · rintro ⟨p, h1, h2, h3⟩; exact ⟨p, ⟨h1, h2⟩, h3.symm⟩
theorem cands_mem {b : Bd} {sd r pp : Nat} {k : Nat → Nat} (h : pv b sd r pp k) {c : Nat} : c ∈ cands b sd r pp ↔ ∃ a t p, a < 64 ∧ t < 64 ∧ p ∈ pml b a t ∧ gs b sd r pp (k sd) a t p = true ∧ c = cod a t p := by
  rw [cands_eq h]
  simp only [List.mem_flatMap, List.mem_range'_1, mca]
  constructor
  · rintro ⟨a, ⟨-, ha⟩, hc⟩
    split at hc
    · simp only [List.mem_flatMap, List.mem_range'_1, mct_mem] at hc
      obtain ⟨t, ⟨-, ht⟩, p, h1, h2, h3⟩ := hc
      exact ⟨a, t, p, by omega, by omega, h1, h2, h3⟩
    · simp at hc
  · rintro ⟨a, t, p, ha, ht, h1, h2, h3⟩
    refine ⟨a, ⟨by omega, by omega⟩, ?_⟩
    rw [if_pos (gs_own h2).1]
    simp only [List.mem_flatMap, List.mem_range'_1, mct_mem]
    exact ⟨t, ⟨by omega, by omega⟩, p, h1, h2, h3⟩
def lms (b : Bd) (sd r pp : Nat) (k : Nat → Nat) : List Nat := (cands b sd r pp).filter (sfc b sd k)
theorem lms_len {b : Bd} {sd r pp : Nat} {k : Nat → Nat} (h : pv b sd r pp k) : (lms b sd r pp k).length ≤ 415 := Nat.le_trans (List.length_filter_le _ _) (cands_len h)
/-- a row that holds one list at its beginning and the end of another behind -/
theorem list_keep {b : Bd} {sd r pp : Nat} {k : Nat → Nat} (h : pv b sd r pp k) : ∀ (m l : List Nat) (rc : Nat → Int32) (j n : Nat), (∀ c ∈ m, c ∈ cands b sd r pp) → l.length ≤ j → j + m.length ≤ 415 → m.length + 1 ≤ n → rowOf rc l → (∀ i (hi : i < m.length), rc (j + i) = iI ((m[i] : Nat) : Int)) →
    ∃ rc', lo_P_listMoves_9 n (iI (sd : Int)) (iI (r : Int)) (iI ((pp : Int) - 1)) (bq b) (kq k) (iI ((j + m.length : Nat) : Int)) rc (iI (l.length : Int)) (iI (j : Int)) = some (iI ((l ++ m.filter (sfc b sd k)).length : Int), iI (sd : Int), iI (r : Int), iI ((pp : Int) - 1), bq b, kq k, iI ((l ++ m.filter (sfc b sd k)).length : Int), rc') ∧ rowOf rc' (l ++ m.filter (sfc b sd k)) := by
  intro m
  induction m with
  | nil =>
    intro l rc j n _ hl hj hn hr _
    obtain ⟨n, rfl⟩ : ∃ n', n = n' + 1 := ⟨n - 1, by simp at hn; omega⟩
    refine ⟨rc, ?_, by simpa using hr⟩
    rw [lo_P_listMoves_9_s]
    refine hd_T ?_ ?_
    · rw [iI_le (by omega) (by simp at hj; simp; omega) (by omega) (by simp at hj; omega)]; simp
    · simp
  | cons c m ih =>
    intro l rc j n hc hl hj hn hr hm
    obtain ⟨n, rfl⟩ : ∃ n', n = n' + 1 := ⟨n - 1, by simp at hn; omega⟩
    have hj' : j + m.length + 1 ≤ 415 := by simpa [Nat.add_assoc] using hj
    have e0 : rc j = iI (c : Int) := hm 0 (by simp)
    obtain ⟨a, t, p, ha, ht, hp, hg, rfl⟩ := (cands_mem h).mp (hc c List.mem_cons_self)
    have hs := p_safe h ha ht (pml_le hp) hg
    have hlen : (j + (cod a t p :: m).length : Nat) = (j + 1) + m.length := by simp; omega
    rw [lo_P_listMoves_9_s, hlen]
    have hF : ¬ iI ((j + 1 + m.length : Nat) : Int) ≤ iI (j : Int) := by
      rw [iI_le (by omega) (by omega) (by omega) (by omega)]; omega
    have hin : qq_in (iI (j : Int)) 415 = true := iI_in (by omega) (by omega) (by omega)
    have hin2 : qq_in (iI (l.length : Int)) 415 = true := iI_in (by omega) (by omega) (by omega)
    have ej : (iI (j : Int)).toNatClampNeg = j := iI_cn (by omega)
    have el : (iI (l.length : Int)).toNatClampNeg = l.length := iI_cn (by omega)
    rw [ej, el, e0, hs]
    have hmm : ∀ (rc2 : Nat → Int32), (∀ i, l.length < i → rc2 i = rc i) → ∀ i (hi : i < m.length), rc2 (j + 1 + i) = iI ((m[i] : Nat) : Int) := by
      intro rc2 h2 i hi
      have := hm (i + 1) (by simp; omega)
      rw [h2 _ (by omega), show j + 1 + i = j + (i + 1) by omega, this]
      rfl
    cases hsf : sf b sd k a t p with
    | false =>
      obtain ⟨rc', q1, q2⟩ := ih l rc (j + 1) n (fun x hx => hc x (List.mem_cons_of_mem _ hx)) (by omega) (by omega) (by simp at hn; omega) hr (hmm rc (fun _ _ => rfl))
      have ef : (cod a t p :: m).filter (sfc b sd k) = m.filter (sfc b sd k) := by
        rw [List.filter_cons, sfc_e ha ht, hsf]; rfl
      rw [ef]
      refine ⟨rc', ?_, q2⟩
      refine hd_F hF ?_
      refine hd_ck hin ?_
      refine hd_b rfl ?_
      refine hd_T rfl ?_
      rw [← q1]
      show lo_P_listMoves_9 n _ _ _ _ _ _ _ _ (iI (j : Int) + 1) = _
      rw [iI_s1]
    | true =>
      have hr2 : rowOf (upd rc l.length (iI (cod a t p : Int))) (l ++ [cod a t p]) := rowOf_add hr _
      obtain ⟨rc', q1, q2⟩ := ih (l ++ [cod a t p]) (upd rc l.length (iI (cod a t p : Int))) (j + 1) n (fun x hx => hc x (List.mem_cons_of_mem _ hx)) (by simp; omega) (by omega) (by simp at hn; omega) hr2 (hmm _ (fun i hi => by show (if i = l.length then _ else _) = _; rw [if_neg (by omega)]))
      have ef : l ++ (cod a t p :: m).filter (sfc b sd k) = (l ++ [cod a t p]) ++ m.filter (sfc b sd k) := by
        rw [List.filter_cons, sfc_e ha ht, hsf]; simp
      rw [ef]
      refine ⟨rc', ?_, q2⟩
      refine hd_F hF ?_
      refine hd_ck hin ?_
      refine hd_b rfl ?_
      refine hd_F (by decide) ?_
      refine hd_ck hin ?_
      refine hd_ck hin2 ?_
      rw [← q1]
      show lo_P_listMoves_9 n _ _ _ _ _ _ _ (iI (l.length : Int) + 1) (iI (j : Int) + 1) = _
      rw [iI_s1, iI_s1, List.length_append]
      rfl
theorem p_listMoves {b : Bd} {sd r pp : Nat} {k : Nat → Nat} (h : pv b sd r pp k) (rn : Int32) (rc : Nat → Int32) :
    ∃ rc', fn_P_listMoves (iI (sd : Int)) (iI (r : Int)) (iI ((pp : Int) - 1)) (bq b) (kq k) rn rc = some (iI ((lms b sd r pp k).length : Int), iI (sd : Int), iI (r : Int), iI ((pp : Int) - 1), bq b, kq k, iI ((lms b sd r pp k).length : Int), rc') ∧ rowOf rc' (lms b sd r pp k) := by
  obtain ⟨rc1, q1, q2⟩ := p_listCand (pv_lok h) (cands_len h) rn rc
  have hl := cands_len h
  obtain ⟨rc', p1, p2⟩ := list_keep h (cands b sd r pp) [] rc1 0 1000 (fun c hc => hc) (by simp) (by omega) (by omega) (fun j hj => by simp at hj) (fun i hi => by rw [Nat.zero_add]; exact q2 i hi)
  refine ⟨rc', ?_, p2⟩
  rw [fn_P_listMoves, q1]
  rw [Nat.zero_add] at p1
  exact p1
theorem holds_lo {rc : Nat → Int32} {l : List Nat} (hr : rowOf rc l) (hl : l.length ≤ 415) {c : Nat} (hb : ∀ x ∈ l, x < 2 ^ 31) (hc : c < 2 ^ 31) : ∀ (m j n : Nat), j + m = l.length → m + 1 ≤ n → lo_W_holds_2 (iI (l.length : Int)) rc (iI (c : Int)) n (iI (j : Int)) = some (ge_z (decide (c ∈ l.drop j))) := by
  intro m
  induction m with
  | zero =>
    intro j n hj hn
    obtain ⟨n, rfl⟩ : ∃ n', n = n' + 1 := ⟨n - 1, by omega⟩
    rw [lo_W_holds_2_s]
    refine hd_T (by rw [iI_le (by omega) (by omega) (by omega) (by omega)]; omega) ?_
    rw [List.drop_eq_nil_of_le (by omega)]
    rfl
  | succ m ih =>
    intro j n hj hn
    obtain ⟨n, rfl⟩ : ∃ n', n = n' + 1 := ⟨n - 1, by omega⟩
    have hjl : j < l.length := by omega
    rw [lo_W_holds_2_s]
    refine hd_F (by rw [iI_le (by omega) (by omega) (by omega) (by omega)]; omega) ?_
    refine hd_ck (iI_in (by omega) (by omega) (by omega)) ?_
    rw [iI_cn (by omega), hr j hjl, List.drop_eq_getElem_cons hjl]
    have hx := hb l[j] (List.getElem_mem hjl)
    by_cases e : l[j] = c
    · refine hd_T (by rw [e]) ?_
      rw [decide_eq_true (by rw [e]; exact List.mem_cons_self)]
      rfl
    · refine hd_F (by rw [iI_eq (by omega) (by omega) (by omega) (by omega)]; omega) ?_
      show lo_W_holds_2 _ _ _ n (iI (j : Int) + 1) = _
      rw [iI_s1, ih (j + 1) n (by omega) (by omega)]
      congr 2
      apply decide_eq_decide.mpr
      rw [List.mem_cons]
      constructor
      · exact Or.inr
      · rintro (z | z)
        · exact absurd z.symm e
        · exact z
theorem w_holds {rc : Nat → Int32} {l : List Nat} (hr : rowOf rc l) (hl : l.length ≤ 415) {c : Nat} (hb : ∀ x ∈ l, x < 2 ^ 31) (hc : c < 2 ^ 31) : fn_W_holds (iI (l.length : Int)) rc (iI (c : Int)) = some (ge_z (decide (c ∈ l))) := by
  rw [fn_W_holds]
  exact holds_lo hr hl hb hc l.length 0 qq_FU (by omega) (by rw [fu1]; omega)
theorem lms_mem {b : Bd} {sd r pp : Nat} {k : Nat → Nat} (h : pv b sd r pp k) {c : Nat} : c ∈ lms b sd r pp k ↔ ∃ a t p, a < 64 ∧ t < 64 ∧ p ∈ pml b a t ∧ gs b sd r pp (k sd) a t p = true ∧ sf b sd k a t p = true ∧ c = cod a t p := by
  rw [lms, List.mem_filter, cands_mem h]
  constructor
  · rintro ⟨⟨a, t, p, ha, ht, hp, hg, rfl⟩, hs⟩
    rw [sfc_e ha ht] at hs
    exact ⟨a, t, p, ha, ht, hp, hg, hs, rfl⟩
  · rintro ⟨a, t, p, ha, ht, hp, hg, hs, rfl⟩
    exact ⟨⟨a, t, p, ha, ht, hp, hg, rfl⟩, by rw [sfc_e ha ht]; exact hs⟩
theorem gs_pml {b : Bd} {sd r pp a t p : Nat} {k : Nat → Nat} (h : pv b sd r pp k) (ha : a < 64) (ht : t < 64) (hg : gs b sd r pp (k sd) a t p = true) : p ∈ pml b a t := by
  rw [pml]
  by_cases hk : kd (b a) = 1
  · have hpw := h.2.2.1 a ha hk
    have hm := gs_pwn h ha hg hk
    have hf := gs_fit hg hk
    have hsd := h.1.1
    rcases gs_pc hg with hp | ⟨-, h2, h5, h6⟩
    · have hf := hf hp
      rw [if_neg, hp]
      · exact List.mem_singleton.mpr rfl
      · rintro ⟨-, z⟩
        simp only [nx, nx2] at hm
        by_cases h0 : sd = 0
        · simp only [h0, if_true] at hm hf; omega
        · simp only [h0, if_false] at hm hf; omega
    · rw [if_pos]
      · simp; omega
      · refine ⟨hk, ?_⟩
        split at h6 <;> omega
  · rw [if_neg (fun z => hk z.1), gs_p hg hk]
    exact List.mem_singleton.mpr rfl
theorem lms_cod {b : Bd} {sd r pp : Nat} {k : Nat → Nat} (h : pv b sd r pp k) {a t p : Nat} (ha : a < 64) (ht : t < 64) : cod a t p ∈ lms b sd r pp k ↔ (gs b sd r pp (k sd) a t p && sf b sd k a t p) = true := by
  rw [lms_mem h, Bool.and_eq_true]
  constructor
  · rintro ⟨a', t', p', ha', ht', hp, hg, hs, e⟩
    have e1 := cod_1 ha ht (p := p)
    have e2 := cod_1 ha' ht' (p := p')
    rw [e] at e1
    obtain rfl : a = a' := by rw [← e1.1, e2.1]
    obtain rfl : t = t' := by rw [← e1.2.1, e2.2.1]
    obtain rfl : p = p' := by rw [← e1.2.2, e2.2.2]
    exact ⟨hg, hs⟩
  · rintro ⟨hg, hs⟩
    exact ⟨a, t, p, ha, ht, gs_pml h ha ht hg, hg, hs, rfl⟩
