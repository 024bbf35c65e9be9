/-! anyMove: whether there is a move; a promotion to a queen stands for all four -/
theorem ry_cg {x y : Bd} (h : ∀ j, (x j).val = 0 ↔ (y j).val = 0) (w a : Nat) : ∀ d, ry x w a d = ry y w a d
  | 0 => rfl
  | 1 => rfl
  | d + 2 => by
    show (ry x w a (d + 1) && (x (ge_at w a (d + 1))).val == 0) = (ry y w a (d + 1) && (y (ge_at w a (d + 1))).val == 0)
    rw [ry_cg h w a (d + 1)]
    congr 1
    have e := h (ge_at w a (d + 1))
    by_cases z : (x (ge_at w a (d + 1))).val = 0
    · rw [z, e.mp z]
    · rw [beq_eq_false_iff_ne.mpr z, beq_eq_false_iff_ne.mpr (fun q => z (e.mpr q))]
theorem fr_cg {x y : Bd} (h : ∀ j, (x j).val = 0 ↔ (y j).val = 0) (a s : Nat) : fr x a s = fr y a s := by
  rw [fr, fr]
  split
  · exact ry_cg h _ _ _
  · rfl
theorem mh_cg {x y : Bd} {who s : Nat} (h : ∀ j, (x j).val = 0 ↔ (y j).val = 0) (h2 : ∀ j, isOf (x j) who = true ∨ isOf (y j) who = true → x j = y j) : mh x who s = mh y who s := by
  rw [mh, mh]
  congr 1
  funext a
  rw [mhf, mhf]
  by_cases z : isOf (x a) who = true ∨ isOf (y a) who = true
  · rw [h2 a z, re, re, h2 a z, fr_cg h]
  · have z1 : isOf (x a) who = false := by
      cases q : isOf (x a) who with
      | false => rfl
      | true => exact absurd (Or.inl q) z
    have z2 : isOf (y a) who = false := by
      cases q : isOf (y a) who with
      | false => rfl
      | true => exact absurd (Or.inr q) z
    rw [z1, z2, Bool.false_and, Bool.false_and]
theorem gs_pr {b : Bd} {sd r pp ks a t p : Nat} (hg : gs b sd r pp ks a t p = true) (hp : p ≠ 0) : gs b sd r pp ks a t 5 = true := by
  rcases gs_pc hg with h | ⟨hk, h2, h5, h6⟩
  · exact absurd h hp
  · simp only [gs, hk, if_true, pg, Bool.and_eq_true, fit, if_pos h6] at hg ⊢
    exact ⟨hg.1, hg.2.1, by simp, hg.2.2.2⟩
theorem sf_pr {b : Bd} {sd r pp a t p p' : Nat} {k : Nat → Nat} (h : pv b sd r pp k) (hg : gs b sd r pp (k sd) a t p = true) (hg' : gs b sd r pp (k sd) a t p' = true) (hp : p ≠ 0) (hp' : p' ≠ 0) : sf b sd k a t p = sf b sd k a t p' := by
  have hsd := h.1.1
  rcases gs_pc hg with h0 | ⟨hk, h2, h5, h6⟩
  · exact absurd h0 hp
  rcases gs_pc hg' with h0 | ⟨-, h2', h5', -⟩
  · exact absurd h0 hp'
  have hcc : ¬ (kd (b a) = 6 ∧ isC a t = true) := by omega
  have hv := mv_nor h hg hcc
  have hv' := mv_nor h hg' hcc
  rw [sf, sf]
  congr 1
  apply mh_cg
  · intro j
    rw [hv, hv']
    split
    · exact Iff.rfl
    · split
      · omega
      · exact Iff.rfl
  · intro j hj
    apply val_inj
    by_cases e : j = t ∧ j ≠ a
    · exfalso
      rcases hj with z | z
      · have := (isOf_val _ _ (by omega)).mp z
        rw [hv, if_neg e.2, if_pos e.1, if_neg hp] at this
        omega
      · have := (isOf_val _ _ (by omega)).mp z
        rw [hv', if_neg e.2, if_pos e.1, if_neg hp'] at this
        omega
    · rw [hv, hv']
      split
      · rfl
      · rw [if_neg (fun z => e ⟨z, by assumption⟩)]
        rw [if_neg (fun z => e ⟨z, by assumption⟩)]
def prb (b : Bd) (a t : Nat) : Bool := decide (kd (b a) = 1 ∧ (t < 8 ∨ 55 < t))
def pq (b : Bd) (a t : Nat) : Nat := if prb b a t = true then 5 else 0
def at1 (b : Bd) (sd r pp : Nat) (k : Nat → Nat) (a t : Nat) : Bool := gs b sd r pp (k sd) a t (pq b a t) && sf b sd k a t (pq b a t)
def at2 (b : Bd) (sd r pp : Nat) (k : Nat → Nat) (a : Nat) : Bool := isOf (b a) sd && (List.range' 0 64).any (at1 b sd r pp k a)
def anm (b : Bd) (sd r pp : Nat) (k : Nat → Nat) : Bool := (List.range' 0 64).any (at2 b sd r pp k)
theorem anm_eq {b : Bd} {sd r pp : Nat} {k : Nat → Nat} (h : pv b sd r pp k) : anm b sd r pp k = true ↔ lms b sd r pp k ≠ [] := by
  simp only [anm, at2, at1, List.any_eq_true, Bool.and_eq_true, List.mem_range'_1]
  constructor
  · rintro ⟨a, ⟨-, ha⟩, -, t, ⟨-, ht⟩, hg, hs⟩ e
    have := (lms_cod h (a := a) (t := t) (p := pq b a t) (by omega) (by omega)).mpr (by rw [hg, hs]; rfl)
    rw [e] at this
    exact absurd this (by simp)
  · intro hne
    obtain ⟨c, hc⟩ := List.exists_mem_of_ne_nil _ hne
    obtain ⟨a, t, p, ha, ht, hp, hg, hs, -⟩ := (lms_mem h).mp hc
    refine ⟨a, ⟨by omega, by omega⟩, (gs_own hg).1, t, ⟨by omega, by omega⟩, ?_⟩
    rw [pml] at hp
    rw [pq, prb]
    by_cases z : kd (b a) = 1 ∧ (t < 8 ∨ 55 < t)
    · rw [if_pos z] at hp
      rw [if_pos (decide_eq_true z)]
      have hp0 : p ≠ 0 := by intro e; rw [e] at hp; simp at hp
      have g5 := gs_pr hg hp0
      exact ⟨g5, by rw [← sf_pr h hg g5 hp0 (by omega)]; exact hs⟩
    · rw [if_neg z] at hp
      rw [if_neg (by simpa using z)]
      have : p = 0 := by simpa using hp
      subst this
      exact ⟨hg, hs⟩
theorem any_10 {b : Bd} {sd r pp : Nat} {k : Nat → Nat} (h : pv b sd r pp k) {a : Nat} (ha : a < 64) (hof : isOf (b a) sd = true) (q : Int32)
    (k2 : Int32 → Int32 → Int32 → Int32 → (Nat → Int32) → (Nat → Int32) → (Nat → Int32) → (Nat → Int32) → (Nat → Int32) → (Nat → Int32) → Int32 → Option ty_M_anyMove) :
    ∀ (m t n : Nat) (K : KT), t + m = 64 → m + 1 ≤ n →
    ∃ (K' : KT), lo_M_anyMove_10 k2 n (iI (sd : Int)) (iI (r : Int)) (iI ((pp : Int) - 1)) q (bq b) K.1 K.2.1 K.2.2.1 K.2.2.2.1 K.2.2.2.2 (iI (a : Int)) (iI (t : Int)) = (if (List.range' t m).any (at1 b sd r pp k a) = true then some (1, iI (sd : Int), iI (r : Int), iI ((pp : Int) - 1), q, bq b, K'.1, K'.2.1, K'.2.2.1, K'.2.2.2.1, K'.2.2.2.2) else k2 (iI (sd : Int)) (iI (r : Int)) (iI ((pp : Int) - 1)) q (bq b) K'.1 K'.2.1 K'.2.2.1 K'.2.2.2.1 K'.2.2.2.2 (iI ((a + 1 : Nat) : Int))) ∧ kag 3 K K' := by
  intro m
  induction m with
  | zero =>
    intro t n K hp hn
    obtain ⟨n, rfl⟩ : ∃ n', n = n' + 1 := ⟨n - 1, by omega⟩
    refine ⟨K, ?_, kag_r _ _⟩
    rw [lo_M_anyMove_10_s]
    refine hd_T (by show iI 64 ≤ iI _; rw [iI_le (by omega) (by omega) (by omega) (by omega)]; omega) ?_
    show k2 _ _ _ _ _ _ _ _ _ _ (iI (a : Int) + 1) = _
    rw [iI_s1]
    rfl
  | succ m ih =>
    intro t n K hp hn
    obtain ⟨n, rfl⟩ : ∃ n', n = n' + 1 := ⟨n - 1, by omega⟩
    have ht : t < 64 := by omega
    have e := m_isOf (b a) sd h.1.1
    have e2 := m_kindOf (b a)
    have hin : qq_in (iI (a : Int)) 64 = true := iI_in (by omega) (by omega) (by omega)
    have hpq : pq b a t < 6 := by rw [pq]; split <;> omega
    obtain ⟨K1, r1, r2⟩ := m_isMove h ha ht hpq q K
    obtain ⟨K2, s1, s2⟩ := ih (t + 1) n K1 (by omega) (by omega)
    have main : bk_M_anyMove_75 k2 (lo_M_anyMove_10 k2 n) (iI (sd : Int)) (iI (r : Int)) (iI ((pp : Int) - 1)) q (bq b) K.1 K.2.1 K.2.2.1 K.2.2.2.1 K.2.2.2.2 (iI (a : Int)) (iI (t : Int)) (iI (a : Int)) (iI (t : Int)) (iI (pq b a t : Int)) = (if at1 b sd r pp k a t = true then some (1, iI (sd : Int), iI (r : Int), iI ((pp : Int) - 1), q, bq b, K1.1, K1.2.1, K1.2.2.1, K1.2.2.2.1, K1.2.2.2.2) else lo_M_anyMove_10 k2 n (iI (sd : Int)) (iI (r : Int)) (iI ((pp : Int) - 1)) q (bq b) K1.1 K1.2.1 K1.2.2.1 K1.2.2.2.1 K1.2.2.2.2 (iI (a : Int)) (iI ((t + 1 : Nat) : Int))) := by
      rw [bk_M_anyMove_75]
      refine hd_b r1 ?_
      have ed : at1 b sd r pp k a t = (gs b sd r pp (k sd) a t (pq b a t) && sf b sd k a t (pq b a t)) := rfl
      rw [← ed]
      cases at1 b sd r pp k a t with
      | false =>
        refine hd_T rfl ?_
        rw [if_neg (by decide), ← iI_s1]
        rfl
      | true =>
        refine hd_F gzT ?_
        rw [if_pos rfl]
    have head : lo_M_anyMove_10 k2 (n + 1) (iI (sd : Int)) (iI (r : Int)) (iI ((pp : Int) - 1)) q (bq b) K.1 K.2.1 K.2.2.1 K.2.2.2.1 K.2.2.2.2 (iI (a : Int)) (iI (t : Int)) = bk_M_anyMove_75 k2 (lo_M_anyMove_10 k2 n) (iI (sd : Int)) (iI (r : Int)) (iI ((pp : Int) - 1)) q (bq b) K.1 K.2.1 K.2.2.1 K.2.2.2.1 K.2.2.2.2 (iI (a : Int)) (iI (t : Int)) (iI (a : Int)) (iI (t : Int)) (iI (pq b a t : Int)) := by
      rw [lo_M_anyMove_10_s, iI_cn (show a < _ by omega)]
      have eb : bq b a = iI ((b a).val : Int) := rfl
      rw [eb, e, e2, hof]
      have pT : prb b a t = true → bk_M_anyMove_57 k2 (lo_M_anyMove_10 k2 n) (iI (sd : Int)) (iI (r : Int)) (iI ((pp : Int) - 1)) q (bq b) K.1 K.2.1 K.2.2.1 K.2.2.2.1 K.2.2.2.2 (iI (a : Int)) (iI (t : Int)) = bk_M_anyMove_75 k2 (lo_M_anyMove_10 k2 n) (iI (sd : Int)) (iI (r : Int)) (iI ((pp : Int) - 1)) q (bq b) K.1 K.2.1 K.2.2.1 K.2.2.2.1 K.2.2.2.2 (iI (a : Int)) (iI (t : Int)) (iI (a : Int)) (iI (t : Int)) (iI (pq b a t : Int)) := by
        intro z
        rw [bk_M_anyMove_57, bk_M_anyMove_62, if_neg (by decide), pq, if_pos z]
        rfl
      have pF : prb b a t = false → bk_M_anyMove_61 k2 (lo_M_anyMove_10 k2 n) (iI (sd : Int)) (iI (r : Int)) (iI ((pp : Int) - 1)) q (bq b) K.1 K.2.1 K.2.2.1 K.2.2.2.1 K.2.2.2.2 (iI (a : Int)) (iI (t : Int)) = bk_M_anyMove_75 k2 (lo_M_anyMove_10 k2 n) (iI (sd : Int)) (iI (r : Int)) (iI ((pp : Int) - 1)) q (bq b) K.1 K.2.1 K.2.2.1 K.2.2.2.1 K.2.2.2.2 (iI (a : Int)) (iI (t : Int)) (iI (a : Int)) (iI (t : Int)) (iI (pq b a t : Int)) := by
        intro z
        rw [bk_M_anyMove_61, bk_M_anyMove_62, if_pos rfl, pq, z, if_neg (by decide)]
        rfl
      refine hd_F (by show ¬ iI 64 ≤ iI _; rw [iI_le (by omega) (by omega) (by omega) (by omega)]; omega) ?_
      refine hd_ck hin (hd_b rfl (hd_F gzT (hd_ck hin (hd_b rfl ?_))))
      have h6 := kd_le (b a)
      by_cases hk : kd (b a) = 1
      · refine hd_T (by rw [hk]; rfl) ?_
        by_cases h8 : t < 8
        · refine hd_T (by show iI _ < iI 8; rw [iI_lt (by omega) (by omega) (by omega) (by omega)]; omega) ?_
          exact pT (decide_eq_true ⟨hk, Or.inl h8⟩)
        · refine hd_F (by show ¬ iI _ < iI 8; rw [iI_lt (by omega) (by omega) (by omega) (by omega)]; omega) ?_
          by_cases h55 : t ≤ 55
          · refine hd_T (by show iI _ ≤ iI 55; rw [iI_le (by omega) (by omega) (by omega) (by omega)]; omega) ?_
            exact pF (decide_eq_false (by omega))
          · refine hd_F (by show ¬ iI _ ≤ iI 55; rw [iI_le (by omega) (by omega) (by omega) (by omega)]; omega) ?_
            exact pT (decide_eq_true ⟨hk, Or.inr (by omega)⟩)
      · refine hd_F (by show ¬ iI _ = iI 1; rw [iI_eq (by omega) (by omega) (by omega) (by omega)]; omega) ?_
        exact pF (decide_eq_false (fun z => hk z.1))
    rw [List.range'_succ, List.any_cons, head, main]
    cases hx : at1 b sd r pp k a t with
    | false =>
      refine ⟨K2, ?_, kag_t r2 s2⟩
      rw [if_neg (by decide), Bool.false_or]
      exact s1
    | true =>
      refine ⟨K1, ?_, r2⟩
      rw [if_pos rfl, Bool.true_or, if_pos rfl]
theorem any_2 {b : Bd} {sd r pp : Nat} {k : Nat → Nat} (h : pv b sd r pp k) (q : Int32) :
    ∀ (m a n : Nat) (K : KT), a + m = 64 → m + 1 ≤ n →
    ∃ (K' : KT), lo_M_anyMove_2 n (iI (sd : Int)) (iI (r : Int)) (iI ((pp : Int) - 1)) q (bq b) K.1 K.2.1 K.2.2.1 K.2.2.2.1 K.2.2.2.2 (iI (a : Int)) = some (ge_z ((List.range' a m).any (at2 b sd r pp k)), iI (sd : Int), iI (r : Int), iI ((pp : Int) - 1), q, bq b, K'.1, K'.2.1, K'.2.2.1, K'.2.2.2.1, K'.2.2.2.2) ∧ kag 3 K K' := by
  intro m
  induction m with
  | zero =>
    intro a n K hp hn
    obtain ⟨n, rfl⟩ : ∃ n', n = n' + 1 := ⟨n - 1, by omega⟩
    refine ⟨K, ?_, kag_r _ _⟩
    rw [lo_M_anyMove_2_s]
    exact hd_T (by show iI 64 ≤ iI _; rw [iI_le (by omega) (by omega) (by omega) (by omega)]; omega) rfl
  | succ m ih =>
    intro a n K hp hn
    obtain ⟨n, rfl⟩ : ∃ n', n = n' + 1 := ⟨n - 1, by omega⟩
    have ha : a < 64 := by omega
    have hF : ¬ (64 : Int32) ≤ iI (a : Int) := by show ¬ iI 64 ≤ iI _; rw [iI_le (by omega) (by omega) (by omega) (by omega)]; omega
    rw [List.range'_succ, List.any_cons, lo_M_anyMove_2_s, if_neg hF]
    cases hof : isOf (b a) sd with
    | false =>
      obtain ⟨K2, s1, s2⟩ := ih (a + 1) n K (by omega) (by omega)
      refine ⟨K2, ?_, s2⟩
      have e0 : at2 b sd r pp k a = false := by rw [at2, hof]; rfl
      rw [e0, Bool.false_or, ← s1]
      rw [show qq_FU = 999 + 1 from rfl, lo_M_anyMove_10_s, iI_cn (show a < _ by omega)]
      have eb : bq b a = iI ((b a).val : Int) := rfl
      have e := m_isOf (b a) sd h.1.1
      rw [eb, e, hof]
      refine hd_F (by decide) (hd_ck (iI_in (by omega) (by omega) (by omega)) (hd_b rfl (hd_T rfl ?_)))
      show lo_M_anyMove_2 n _ _ _ _ _ _ _ _ _ _ (iI (a : Int) + 1) = _
      rw [iI_s1]
    | true =>
      obtain ⟨K1, r1, r2⟩ := any_10 h ha hof q (lo_M_anyMove_2 n) 64 0 qq_FU K (by omega) (by rw [fu1]; omega)
      obtain ⟨K2, s1, s2⟩ := ih (a + 1) n K1 (by omega) (by omega)
      rw [show iI ((0 : Nat) : Int) = 0 from rfl] at r1
      rw [r1]
      have e0 : at2 b sd r pp k a = (List.range' 0 64).any (at1 b sd r pp k a) := by rw [at2, hof]; rfl
      rw [e0]
      cases hx : (List.range' 0 64).any (at1 b sd r pp k a) with
      | false =>
        refine ⟨K2, ?_, kag_t r2 s2⟩
        rw [if_neg (by decide), Bool.false_or]
        exact s1
      | true =>
        refine ⟨K1, ?_, r2⟩
        rw [if_pos rfl, Bool.true_or]
        rfl
theorem m_anyMove {b : Bd} {sd r pp : Nat} {k : Nat → Nat} (h : pv b sd r pp k) (q : Int32) (K : KT) :
    ∃ (K' : KT), fn_M_anyMove (iI (sd : Int)) (iI (r : Int)) (iI ((pp : Int) - 1)) q (bq b) K.1 K.2.1 K.2.2.1 K.2.2.2.1 K.2.2.2.2 = some (ge_z (!(lms b sd r pp k).isEmpty), iI (sd : Int), iI (r : Int), iI ((pp : Int) - 1), q, bq b, K'.1, K'.2.1, K'.2.2.1, K'.2.2.2.1, K'.2.2.2.2) ∧ kag 3 K K' := by
  have e := any_2 h q 64 0 qq_FU K (by omega) (by rw [fu1]; omega)
  rw [show iI ((0 : Nat) : Int) = 0 from rfl] at e
  have e2 : (List.range' 0 64).any (at2 b sd r pp k) = !(lms b sd r pp k).isEmpty := by
    have := anm_eq h
    rw [anm] at this
    cases hx : lms b sd r pp k with
    | nil =>
      rw [hx] at this
      cases hy : (List.range' 0 64).any (at2 b sd r pp k) with
      | false => rfl
      | true => exact absurd rfl (this.mp hy)
    | cons c l =>
      rw [hx] at this
      rw [this.mpr (by simp)]
      rfl
  rw [e2] at e
  rw [fn_M_anyMove]
  exact e
