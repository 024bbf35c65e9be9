/-! the candidates are the model's, in the model's order -/
/-- the square of the pawn that a pawn may pass -/
def pbs (sd pp : Nat) : Nat := pp - 1 + 8 * (if sd = 0 then 4 else 3)
def cnt (b : Bd) (who : Nat) : Nat := ((List.range' 0 64).filter fun a => isOf (b a) who).length
/-- a position of play -/
def pv (b : Bd) (sd r pp : Nat) (k : Nat → Nat) : Prop :=
  (sd < 2 ∧ r < 16 ∧ pp < 9) ∧ (ok1 b 0 (k 0) ∧ ok1 b 1 (k 1)) ∧ (∀ a, a < 64 → kd (b a) = 1 → 8 ≤ a ∧ a < 56)
  ∧ (∀ who, who < 2 → (r.testBit (2 * who) = true → (b (hm who)).val = 6 + 6 * who ∧ (b (hm who + 3)).val = 4 + 6 * who) ∧ (r.testBit (2 * who + 1) = true → (b (hm who)).val = 6 + 6 * who ∧ (b (hm who - 4)).val = 4 + 6 * who))
  ∧ (1 ≤ pp → (b (ptg sd pp)).val = 0 ∧ (b (pbs sd pp)).val = 1 + 6 * (1 - sd))
  ∧ (∀ who, who < 2 → cnt b who ≤ 16) ∧ mh b sd (k (1 - sd)) = false
theorem pv_ok {b : Bd} {sd r pp : Nat} {k : Nat → Nat} (h : pv b sd r pp k) {who : Nat} (hw : who < 2) : ok1 b who (k who) := by
  have : who = 0 ∨ who = 1 := by omega
  rcases this with rfl | rfl
  · exact h.2.1.1
  · exact h.2.1.2
theorem hm_lt {who : Nat} (hw : who < 2) : hm who < 64 := by unfold hm; omega
theorem pv_hm {b : Bd} {sd r pp : Nat} {k : Nat → Nat} (h : pv b sd r pp k) {who : Nat} (hw : who < 2) (hr : r.testBit (2 * who) = true ∨ r.testBit (2 * who + 1) = true) : k who = hm who := by
  have h1 := pv_ok h hw
  have h2 := h.2.2.2.1 who hw
  have h3 : (b (hm who)).val = 6 + 6 * who := by
    rcases hr with hr | hr
    · exact (h2.1 hr).1
    · exact (h2.2 hr).1
  exact (h1.2.2 _ (hm_lt hw) h3).symm
theorem pv_lok {b : Bd} {sd r pp : Nat} {k : Nat → Nat} (h : pv b sd r pp k) : lok b sd r pp k := by
  have hsd := h.1.1
  refine ⟨hsd, h.1.2.1, h.1.2.2, (pv_ok h hsd).1, fun hr => pv_hm h hsd hr, fun a ha hp => h.2.2.1 a ha ?_⟩
  exact (isOf_pawn (b a) sd hsd hp).1
theorem fm_congr {α β : Type} (l : List α) (f g : α → List β) (h : ∀ x ∈ l, f x = g x) : l.flatMap f = l.flatMap g := by
  induction l with
  | nil => rfl
  | cons x l ih =>
    rw [List.flatMap_cons, List.flatMap_cons, h x List.mem_cons_self, ih (fun y hy => h y (List.mem_cons_of_mem _ hy))]
theorem fm_filter {α β : Type} (l : List α) (p : α → Bool) (g : α → List β) : (l.filter p).flatMap g = l.flatMap fun x => if p x = true then g x else [] := by
  induction l with
  | nil => rfl
  | cons x l ih =>
    rw [List.filter_cons, List.flatMap_cons]
    cases h : p x with
    | true => simp only [if_true, List.flatMap_cons, ih]
    | false => simp only [Bool.false_eq_true, if_false, List.nil_append, ih]
theorem sb_fm (L : List Nat) (g : Nat → List Nat) : (sb_l (orl 0 L)).flatMap g = (List.range' 0 64).flatMap fun t => if t ∈ L then g t else [] := by
  rw [sb_l, fm_filter, List.range_eq_range']
  apply fm_congr
  intro t _
  rw [orl_bit, Nat.zero_testBit, Bool.false_or]
  by_cases h : t ∈ L <;> simp [h]
theorem map_fm (l : List Nat) (f : Nat → Nat) : l.map f = l.flatMap fun t => [f t] := by
  induction l with
  | nil => rfl
  | cons x l ih => rw [List.map_cons, List.flatMap_cons, ih]; rfl
def pml (b : Bd) (a t : Nat) : List Nat := if kd (b a) = 1 ∧ (t < 8 ∨ 55 < t) then [2, 3, 4, 5] else [0]
def mct (b : Bd) (sd r pp ks a t : Nat) : List Nat := ((pml b a t).filter fun p => gs b sd r pp ks a t p).map fun p => cod a t p
def mca (b : Bd) (sd r pp ks a : Nat) : List Nat := if isOf (b a) sd = true then (List.range' 0 64).flatMap (mct b sd r pp ks a) else []
theorem kd_of : ∀ p : Fin 13, ∀ sd : Nat, sd < 2 → isOf p sd = true → p.val = kd p + 6 * sd := by decide
theorem cf_eq {b : Bd} {sd r pp : Nat} {k : Nat → Nat} (h : pv b sd r pp k) {a : Nat} (ha : a < 64) : cf b sd r pp a = mca b sd r pp (k sd) a := by
  obtain ⟨⟨hsd, hr, hpp⟩, -, hpw, -, hpe, -, -⟩ := id h
  have hk := pv_ok h hsd
  unfold cf mca
  cases hof : isOf (b a) sd with
  | false => rfl
  | true =>
    rw [if_pos rfl, if_pos rfl]
    obtain ⟨-, hk1⟩ := kd_own (b a) sd hsd hof
    have hkv := kd_of (b a) sd hsd hof
    by_cases c1 : kd (b a) = 1
    · rw [if_pos c1]
      have hpv : (b a).val = 1 + 6 * sd := by omega
      obtain ⟨p1, p2⟩ := hpw a ha c1
      have hmem : ∀ t, t < 64 → (t ∈ tpn b sd pp a ↔ (isOf (b t) sd = false ∧ pg1 b sd pp a t = true)) := fun t ht => pawn_mem hsd hpp p1 p2 hpv ht (fun h1 => (hpe h1).1)
      have hgs : ∀ t p, gs b sd r pp (k sd) a t p = (!isOf (b t) sd && (fit sd t p && pg1 b sd pp a t)) := by
        intro t p
        simp only [gs, hof, c1, if_true, pg, Bool.true_and]
      have hrk : ∀ t, t ∈ tpn b sd pp a → (if sd = 0 then (t / 8 = a / 8 + 1 ∨ (a / 8 = 1 ∧ t / 8 = 3)) else (t / 8 + 1 = a / 8 ∨ (a / 8 = 6 ∧ t / 8 = 4))) := by
        intro t ht
        simp only [tpn, tpn2, List.mem_append, lif_mem, Bool.and_eq_true, decide_eq_true_eq] at ht
        rcases ht with ht | ⟨ht, rfl⟩ | ⟨ht, rfl⟩
        · unfold tpn1 at ht
          split at ht
          · simp only [List.mem_cons, lif_mem, Bool.and_eq_true, decide_eq_true_eq] at ht
            rcases ht with rfl | ⟨⟨h1, -⟩, rfl⟩
            · unfold nx
              by_cases cs : sd = 0
              · rw [if_pos cs, if_pos cs]; omega
              · rw [if_neg cs, if_neg cs]; omega
            · unfold nx2
              by_cases cs : sd = 0
              · rw [if_pos cs] at h1; rw [if_pos cs, if_pos cs]; omega
              · rw [if_neg cs] at h1; rw [if_neg cs, if_neg cs]; omega
          · exact absurd ht List.not_mem_nil
        · unfold nx
          by_cases cs : sd = 0
          · rw [if_pos cs, if_pos cs]; omega
          · rw [if_neg cs, if_neg cs]; omega
        · unfold nx
          by_cases cs : sd = 0
          · rw [if_pos cs, if_pos cs]; omega
          · rw [if_neg cs, if_neg cs]; omega
      unfold cpw
      by_cases c2 : a / 8 = (if sd = 0 then 6 else 1)
      · rw [if_pos c2, sb_fm]
        apply fm_congr
        intro t ht
        rw [List.mem_range'_1] at ht
        have ht64 : t < 64 := by omega
        by_cases cm : t ∈ tpn b sd pp a
        · have hlast := hrk t cm
          obtain ⟨m1, m2⟩ := (hmem t ht64).mp cm
          have hl : t / 8 = (if sd = 0 then 7 else 0) := by
            by_cases cs : sd = 0
            · rw [if_pos cs] at hlast c2 ⊢; omega
            · rw [if_neg cs] at hlast c2 ⊢; omega
          have hl2 : t < 8 ∨ 55 < t := by
            by_cases cs : sd = 0
            · rw [if_pos cs] at hl; omega
            · rw [if_neg cs] at hl; omega
          rw [if_pos cm, mct, pml, if_pos ⟨c1, hl2⟩]
          have hT : ∀ p, 2 ≤ p → p ≤ 5 → gs b sd r pp (k sd) a t p = true := by
            intro p q1 q2
            rw [hgs, m1, m2, fit, if_pos hl, decide_eq_true q1, decide_eq_true q2]; rfl
          simp [List.filter_cons, hT, prs]
        · rw [if_neg cm, mct]
          have hF : ∀ p, gs b sd r pp (k sd) a t p = false := by
            intro p
            cases hg : gs b sd r pp (k sd) a t p with
            | false => rfl
            | true =>
              rw [hgs] at hg
              simp only [Bool.and_eq_true, Bool.not_eq_true'] at hg
              exact absurd ((hmem t ht64).mpr ⟨hg.1, hg.2.2⟩) cm
          simp [hF]
      · rw [if_neg c2, map_fm, sb_fm]
        apply fm_congr
        intro t ht
        rw [List.mem_range'_1] at ht
        have ht64 : t < 64 := by omega
        by_cases cm : t ∈ tpn b sd pp a
        · have hlast := hrk t cm
          obtain ⟨m1, m2⟩ := (hmem t ht64).mp cm
          have hl2 : ¬ (t < 8 ∨ 55 < t) := by
            by_cases cs : sd = 0
            · rw [if_pos cs] at hlast c2; omega
            · rw [if_neg cs] at hlast c2; omega
          have hl : ¬ t / 8 = (if sd = 0 then 7 else 0) := by
            by_cases cs : sd = 0
            · rw [if_pos cs]; omega
            · rw [if_neg cs]; omega
          rw [if_pos cm, mct, pml, if_neg (fun hh => hl2 hh.2)]
          have hT : gs b sd r pp (k sd) a t 0 = true := by
            rw [hgs, m1, m2, fit, if_neg hl]; rfl
          simp [hT]
        · rw [if_neg cm, mct]
          have hF : ∀ p, gs b sd r pp (k sd) a t p = false := by
            intro p
            cases hg : gs b sd r pp (k sd) a t p with
            | false => rfl
            | true =>
              rw [hgs] at hg
              simp only [Bool.and_eq_true, Bool.not_eq_true'] at hg
              exact absurd ((hmem t ht64).mpr ⟨hg.1, hg.2.2⟩) cm
          simp [hF]
    · rw [if_neg c1]
      have fin : ∀ (L : List Nat), (∀ t, t < 64 → (t ∈ L ↔ gs b sd r pp (k sd) a t 0 = true)) → (sb_l (orl 0 L)).map (fun x => cod a x 0) = (List.range' 0 64).flatMap (mct b sd r pp (k sd) a) := by
        intro L hL
        rw [map_fm, sb_fm]
        apply fm_congr
        intro t ht
        rw [List.mem_range'_1] at ht
        have ht64 : t < 64 := by omega
        have hpm : pml b a t = [0] := if_neg (fun hh => c1 hh.1)
        rw [mct, hpm]
        by_cases cm : t ∈ L
        · have := (hL t ht64).mp cm
          rw [if_pos cm]
          simp [this]
        · have : gs b sd r pp (k sd) a t 0 = false := by
            cases hg : gs b sd r pp (k sd) a t 0 with
            | false => rfl
            | true => exact absurd ((hL t ht64).mpr hg) cm
          rw [if_neg cm]
          simp [this]
      by_cases c6 : kd (b a) = 6
      · rw [if_pos c6]
        apply fin
        intro t ht
        have hak : a = k sd := hk.2.2 a ha (by omega)
        have h1 := tp_mem (b := b) (sd := sd) (t := t) hsd ha ht c1 hk1
        have h2 := tc_mem (b := b) (r := r) (t := t) hsd hk (fun q => pv_hm h hsd q)
        rw [c6] at h1
        rw [List.mem_append, h1, h2, ← hak]
        simp only [gs, hof, c6, Bool.true_and, Bool.and_eq_true, Bool.not_eq_true', Bool.or_eq_true, beq_self_eq_true]
        rw [if_neg (by decide)]
        simp only [Bool.true_and, Bool.or_eq_true]
        constructor
        · rintro (q | q)
          · exact ⟨q.1, Or.inl q.2⟩
          · exact ⟨q.1, Or.inr q.2⟩
        · rintro ⟨q1, q | q⟩
          · exact Or.inl ⟨q1, q⟩
          · exact Or.inr ⟨q1, q⟩
      · rw [if_neg c6]
        apply fin
        intro t ht
        rw [tp_mem (b := b) (sd := sd) (t := t) hsd ha ht c1 hk1]
        simp only [gs, hof, if_neg c1, Bool.true_and, Bool.and_eq_true, Bool.not_eq_true', show (kd (b a) == 6) = false from by simp [c6], Bool.false_and, Bool.or_false, beq_self_eq_true]
theorem cands_eq {b : Bd} {sd r pp : Nat} {k : Nat → Nat} (h : pv b sd r pp k) : cands b sd r pp = (List.range' 0 64).flatMap (mca b sd r pp (k sd)) := by
  unfold cands
  apply fm_congr
  intro a ha
  rw [List.mem_range'_1] at ha
  exact cf_eq h (by omega)
