/-! rights and passed file that fit; what begin allows -/
def rbt (r i : Nat) : Bool := r.testBit i
theorem ar_3 : ∀ r : Nat, r < 16 → ((iI (r : Int) &&& 3 = 0) ↔ (rbt r 0 || rbt r 1) = false) ∧ ((iI (r : Int) &&& 1 = 0) ↔ rbt r 0 = false) ∧ ((iI (r : Int) &&& 2 = 0) ↔ rbt r 1 = false) ∧ ((iI (r : Int) &&& 12 = 0) ↔ (rbt r 2 || rbt r 3) = false) ∧ ((iI (r : Int) &&& 4 = 0) ↔ rbt r 2 = false) ∧ ((iI (r : Int) &&& 8 = 0) ↔ rbt r 3 = false) := by decide
def eqv (b : Bd) (s v : Nat) : Bool := (b s).val == v
theorem ar_st {C : Prop} {_ : Decidable C} {c : Bool} (hC : C ↔ c = false) {b : Bd} {s v : Nat} (hs : s < 64) (hv : v < 13) {A Z : Option Int32} {x : Int32} (hx : x = iI (s : Int)) {y : Int32} (hy : y = iI (v : Int)) : (if C then A else qq_ck (qq_in x 64) (if bq b x.toNatClampNeg = y then A else Z)) = (if (c && !eqv b s v) = true then Z else A) := by
  subst hx hy
  cases c with
  | false => rw [if_pos (hC.mpr rfl)]; rfl
  | true =>
    rw [if_neg (fun z => absurd (hC.mp z) (by decide)), iI_cn (by omega)]
    refine hd_ck (iI_in (by omega) (by omega) (by omega)) ?_
    rw [Bool.true_and, eqv]
    by_cases e : (b s).val = v
    · rw [e, beq_self_eq_true]
      exact hd_T (by show iI _ = iI _; rw [e]) rfl
    · rw [beq_eq_false_iff_ne.mpr e]
      exact hd_F (by show ¬ iI _ = iI _; rw [iI_eq (by omega) (by omega) (by omega) (by omega)]; omega) rfl
def rfb (r : Nat) (b : Bd) : Bool := (!rbt r 0 || (eqv b 4 6 && eqv b 7 4)) && ((!rbt r 1 || (eqv b 4 6 && eqv b 0 4)) && ((!rbt r 2 || (eqv b 60 12 && eqv b 63 10)) && (!rbt r 3 || (eqv b 60 12 && eqv b 56 10))))
theorem rf_bool : ∀ r0 r1 r2 r3 k0 h0 l0 k1 h1 l1 : Bool, (if ((r0 || r1) && !k0) = true then some (0 : Int32) else (if (r0 && !h0) = true then some 0 else (if (r1 && !l0) = true then some 0 else (if ((r2 || r3) && !k1) = true then some 0 else (if (r2 && !h1) = true then some 0 else (if (r3 && !l1) = true then some 0 else some 1)))))) = some (ge_z ((!r0 || (k0 && h0)) && ((!r1 || (k0 && l0)) && ((!r2 || (k1 && h1)) && (!r3 || (k1 && l1)))))) := by decide +kernel
theorem g_rights {b : Bd} {r : Nat} (hr : r < 16) : fn_G_areRightsFair (bq b) (iI (r : Int)) = some (ge_z (rfb r b)) := by
  obtain ⟨a1, a2, a3, a4, a5, a6⟩ := ar_3 r hr
  rw [fn_G_areRightsFair, ar_st a1 (s := 4) (v := 6) (x := 4) (y := 6) (by omega) (by omega) rfl rfl, bk_G_areRightsFair_14, ar_st a2 (s := 7) (v := 4) (x := 7) (y := 4) (by omega) (by omega) rfl rfl, bk_G_areRightsFair_28, ar_st a3 (s := 0) (v := 4) (x := 0) (y := 4) (by omega) (by omega) rfl rfl, bk_G_areRightsFair_41, ar_st a4 (s := 60) (v := 12) (x := 60) (y := 12) (by omega) (by omega) rfl rfl, bk_G_areRightsFair_57, ar_st a5 (s := 63) (v := 10) (x := 63) (y := 10) (by omega) (by omega) rfl rfl, bk_G_areRightsFair_72, ar_st a6 (s := 56) (v := 10) (x := 56) (y := 10) (by omega) (by omega) rfl rfl]
  have z0 : bk_G_areRightsFair_92 (bq b) (iI (r : Int)) = some 0 := (show bk_G_areRightsFair_93 _ _ 0 = _ from hd_ck (by decide) rfl)
  have z1 : bk_G_areRightsFair_88 (bq b) (iI (r : Int)) = some 1 := (show bk_G_areRightsFair_93 _ _ 1 = _ from hd_ck (by decide) rfl)
  rw [z0, z1]
  exact rf_bool _ _ _ _ _ _ _ _ _ _
theorem mr_bit : ∀ r : Nat, r < 16 → ∀ k : Nat, k < 4 → (((iI (r : Int) >>> (iI (k : Int) &&& 31)) &&& 1 = 0) ↔ rbt r k = false) := by decide
def thr (b : Bd) (k : Nat) : Bool := eqv b (56 * (k / 2) + 4) (6 + 6 * (k / 2)) && eqv b (56 * (k / 2) + (if k % 2 = 0 then 7 else 0)) (4 + 6 * (k / 2))
theorem m_rights_lo {b : Bd} {r : Nat} (hr : r < 16) : ∀ (m k n : Nat) (acc : Bool), k + m = 4 → m + 1 ≤ n → lo_M_areRights_4 (bq b) (iI (r : Int)) n (ge_z acc) (iI (k : Int)) = some (ge_z (acc && (List.range' k m).all fun k => !rbt r k || thr b k)) := by
  intro m
  induction m with
  | zero =>
    intro k n acc hk hn
    obtain ⟨n, rfl⟩ : ∃ n', n = n' + 1 := ⟨n - 1, by omega⟩
    rw [lo_M_areRights_4_s, show (acc && (List.range' k 0).all fun k => !rbt r k || thr b k) = acc by simp]
    exact hd_T (by show iI 4 ≤ iI _; rw [iI_le (by omega) (by omega) (by omega) (by omega)]; omega) (hd_ck (iI_bz _) rfl)
  | succ m ih =>
    intro k n acc hk hn
    obtain ⟨n, rfl⟩ : ∃ n', n = n' + 1 := ⟨n - 1, by omega⟩
    have k99 : ∀ acc : Bool, bk_M_areRights_99 (bq b) (iI (r : Int)) (lo_M_areRights_4 (bq b) (iI (r : Int)) n) (iI (k : Int)) (ge_z acc) = some (ge_z (acc && (List.range' (k + 1) m).all fun k => !rbt r k || thr b k)) := by
      intro acc
      rw [← ih (k + 1) n acc (by omega) (by omega), bk_M_areRights_99]
      show lo_M_areRights_4 _ _ n _ (iI (k : Int) + 1) = _
      rw [iI_s1]
    have k75 : ∀ th : Bool, bk_M_areRights_75 (bq b) (iI (r : Int)) (lo_M_areRights_4 (bq b) (iI (r : Int)) n) (ge_z acc) (iI (k : Int)) (ge_z th) = some (ge_z (acc && ((!rbt r k || th) && (List.range' (k + 1) m).all fun k => !rbt r k || thr b k))) := by
      intro th
      have hb := mr_bit r hr k (by omega)
      rw [bk_M_areRights_75]
      cases acc with
      | false =>
        refine hd_T rfl ?_
        exact k99 false
      | true =>
        refine hd_F gzT ?_
        rw [Bool.true_and]
        cases hx : rbt r k with
        | false =>
          refine hd_T (hb.mpr hx) ?_
          exact k99 true
        | true =>
          refine hd_F (fun z => by rw [hb.mp z] at hx; exact absurd hx (by decide)) ?_
          cases th with
          | false => exact hd_T rfl (k99 false)
          | true => exact hd_F gzT (k99 true)
    rw [lo_M_areRights_4_s, List.range'_succ, List.all_cons]
    have e2 : iI (k : Int) / 2 = iI ((k / 2 : Nat) : Int) := by
      show iI _ / iI 2 = _
      rw [iI_div (by omega) (by omega) (by omega) (by omega)]; congr 1
    have em : iI (k : Int) - iI ((k / 2 : Nat) : Int) * 2 = iI ((k % 2 : Nat) : Int) := by
      show iI _ - iI _ * iI 2 = _
      rw [iI_mul, iI_sub]; congr 1; omega
    have e56 : (56 : Int32) * iI ((k / 2 : Nat) : Int) = iI ((56 * (k / 2) : Nat) : Int) := by
      show iI 56 * iI _ = _
      rw [iI_mul]; congr 1
    have e564 : iI ((56 * (k / 2) : Nat) : Int) + 4 = iI ((56 * (k / 2) + 4 : Nat) : Int) := by
      show iI _ + iI 4 = _
      rw [iI_add]; congr 1
    have e6 : (6 : Int32) + 6 * iI ((k / 2 : Nat) : Int) = iI ((6 + 6 * (k / 2) : Nat) : Int) := by
      show iI 6 + iI 6 * iI _ = _
      rw [iI_mul, iI_add]; congr 1
    have e4 : (4 : Int32) + 6 * iI ((k / 2 : Nat) : Int) = iI ((4 + 6 * (k / 2) : Nat) : Int) := by
      show iI 4 + iI 6 * iI _ = _
      rw [iI_mul, iI_add]; congr 1
    rw [e2, em]
    simp only [qq_let]
    rw [e56, e564, e6, iI_cn (by omega)]
    refine hd_F (by show ¬ iI 4 ≤ iI _; rw [iI_le (by omega) (by omega) (by omega) (by omega)]; omega) (hd_ck (iI_in (by omega) (by omega) (by omega)) ?_)
    have hth : thr b k = (eqv b (56 * (k / 2) + 4) (6 + 6 * (k / 2)) && eqv b (56 * (k / 2) + (if k % 2 = 0 then 7 else 0)) (4 + 6 * (k / 2))) := rfl
    rw [hth]
    have k58 : ∀ d : Nat, d ≤ 7 → bk_M_areRights_58 (bq b) (iI (r : Int)) (lo_M_areRights_4 (bq b) (iI (r : Int)) n) (ge_z acc) (iI (k : Int)) (iI ((k / 2 : Nat) : Int)) (iI ((56 * (k / 2) : Nat) : Int)) (iI (d : Int)) = some (ge_z (acc && ((!rbt r k || eqv b (56 * (k / 2) + d) (4 + 6 * (k / 2))) && (List.range' (k + 1) m).all fun k => !rbt r k || thr b k))) := by
      intro d hd
      rw [bk_M_areRights_58, e4, iI_add, ← Int.natCast_add, iI_cn (by omega)]
      refine hd_ck (iI_in (by omega) (by omega) (by omega)) ?_
      rw [eqv]
      by_cases e : (b (56 * (k / 2) + d)).val = 4 + 6 * (k / 2)
      · rw [e, beq_self_eq_true]
        exact hd_T (by show iI _ = iI _; rw [e]) (k75 true)
      · rw [beq_eq_false_iff_ne.mpr e]
        exact hd_F (by show ¬ iI _ = iI _; rw [iI_eq (by omega) (by omega) (by omega) (by omega)]; omega) (k75 false)
    by_cases e : (b (56 * (k / 2) + 4)).val = 6 + 6 * (k / 2)
    · have ee : eqv b (56 * (k / 2) + 4) (6 + 6 * (k / 2)) = true := by rw [eqv, e, beq_self_eq_true]
      rw [ee, Bool.true_and]
      refine hd_T (by show iI _ = iI _; rw [e]) ?_
      by_cases h2 : k % 2 = 0
      · refine hd_T (by rw [h2]; rfl) ?_
        rw [if_pos h2]
        exact k58 7 (by omega)
      · refine hd_F (by show ¬ iI _ = iI 0; rw [iI_eq (by omega) (by omega) (by omega) (by omega)]; omega) ?_
        rw [if_neg h2]
        exact k58 0 (by omega)
    · have ee : eqv b (56 * (k / 2) + 4) (6 + 6 * (k / 2)) = false := by rw [eqv, beq_eq_false_iff_ne.mpr e]
      rw [ee, Bool.false_and]
      exact hd_F (by show ¬ iI _ = iI _; rw [iI_eq (by omega) (by omega) (by omega) (by omega)]; omega) (k75 false)
theorem m_rights {b : Bd} {r : Nat} (hr : r < 16) : fn_M_areRights (bq b) (iI (r : Int)) = some (ge_z (rfb r b)) := by
  have e := m_rights_lo (b := b) hr 4 0 qq_FU true (by omega) (by rw [fu1]; omega)
  rw [show iI ((0 : Nat) : Int) = 0 from rfl, show ge_z true = 1 from rfl] at e
  rw [fn_M_areRights, e]
  congr 2
  show (true && ((!rbt r 0 || (eqv b 4 6 && eqv b 7 4)) && ((!rbt r 1 || (eqv b 4 6 && eqv b 0 4)) && ((!rbt r 2 || (eqv b 60 12 && eqv b 63 10)) && ((!rbt r 3 || (eqv b 60 12 && eqv b 56 10)) && true))))) = _
  rw [Bool.true_and, Bool.and_true]; rfl
def pfb (b : Bd) (sd pp : Nat) : Bool := decide (pp = 0) || (eqv b (pbs sd pp) (1 + 6 * (1 - sd)) && (eqv b (ptg sd pp) 0 && eqv b (pp - 1 + (48 - 40 * sd)) 0))
theorem pf_core {b : Bd} {A B C x y : Nat} (hA : A < 64) (hB : B < 64) (hC : C < 64) (hx : x < 13) (hy : y = 0) {T Z : Option Int32} (hT : T = some 1) (hZ : Z = some 0) : qq_ck (qq_in (iI (A : Int)) 64) (if bq b (iI (A : Int)).toNatClampNeg = iI (x : Int) then qq_ck (qq_in (iI (B : Int)) 64) (if bq b (iI (B : Int)).toNatClampNeg = iI (y : Int) then qq_ck (qq_in (iI (C : Int)) 64) (if bq b (iI (C : Int)).toNatClampNeg = iI (y : Int) then T else Z) else Z) else Z) = some (ge_z (eqv b A x && (eqv b B 0 && eqv b C 0))) := by
  subst hy
  subst hT hZ
  rw [iI_cn (by omega), iI_cn (by omega), iI_cn (by omega)]
  refine hd_ck (iI_in (by omega) (by omega) (by omega)) ?_
  rw [eqv, eqv, eqv]
  by_cases e1 : (b A).val = x
  · refine hd_T (by show iI _ = iI _; rw [e1]) (hd_ck (iI_in (by omega) (by omega) (by omega)) ?_)
    rw [e1, beq_self_eq_true, Bool.true_and]
    by_cases e2 : (b B).val = 0
    · refine hd_T (by show iI _ = iI _; rw [e2]) (hd_ck (iI_in (by omega) (by omega) (by omega)) ?_)
      rw [e2, beq_self_eq_true, Bool.true_and]
      by_cases e3 : (b C).val = 0
      · rw [e3]
        exact hd_T (by show iI _ = iI _; rw [e3]) rfl
      · rw [beq_eq_false_iff_ne.mpr e3]
        exact hd_F (by show ¬ iI _ = iI _; rw [iI_eq (by omega) (by omega) (by omega) (by omega)]; omega) rfl
    · rw [beq_eq_false_iff_ne.mpr e2]
      exact hd_F (by show ¬ iI _ = iI _; rw [iI_eq (by omega) (by omega) (by omega) (by omega)]; omega) rfl
  · rw [beq_eq_false_iff_ne.mpr e1]
    exact hd_F (by show ¬ iI _ = iI _; rw [iI_eq (by omega) (by omega) (by omega) (by omega)]; omega) rfl
theorem g_passed {b : Bd} {sd pp : Nat} (hsd : sd < 2) (hpp : pp < 9) : fn_G_isPassedFair (bq b) (iI (sd : Int)) (iI ((pp : Int) - 1)) = some (ge_z (pfb b sd pp)) := by
  rw [fn_G_isPassedFair, pfb]
  rcases Nat.lt_or_ge pp 1 with h1 | h1
  · have e0 : pp = 0 := by omega
    subst e0
    exact hd_T rfl rfl
  obtain ⟨l1, l2, l3, l4, l5⟩ := pbs_lt hsd hpp h1
  obtain ⟨g1, g2, -, -⟩ := geo_e hsd pp 0
  rw [decide_eq_false (by omega), Bool.false_or]
  refine hd_F (by show ¬ iI _ = iI (-1); rw [iI_eq (by omega) (by omega) (by omega) (by omega)]; omega) ?_
  have z1 : bk_G_isPassedFair_74 (bq b) (iI (sd : Int)) (iI ((pp : Int) - 1)) 1 = some 1 := hd_ck (by decide) rfl
  have z0 : bk_G_isPassedFair_73 (bq b) (iI (sd : Int)) (iI ((pp : Int) - 1)) = some 0 := (show bk_G_isPassedFair_74 _ _ _ 0 = _ from hd_ck (by decide) rfl)
  have ex : (1 : Int32) + 6 * (1 - iI (sd : Int)) = iI ((1 + 6 * (1 - sd) : Nat) : Int) := by
    rw [i1m hsd]
    show iI 1 + iI 6 * iI _ = _
    rw [iI_mul, iI_add]; congr 1
  have core := pf_core (b := b) (A := pbs sd pp) (B := ptg sd pp) (C := pp - 1 + (48 - 40 * sd)) (x := 1 + 6 * (1 - sd)) (y := 0) l1 l2 (by omega) (by omega) rfl z1 z0
  rcases (show sd = 0 ∨ sd = 1 by omega) with hz | hz
  · refine hd_T (by rw [hz]; rfl) ?_
    rw [bk_G_isPassedFair_19]
    have e1 : iI ((pp : Int) - 1) + 8 * 4 = iI (pbs sd pp : Int) := by
      show iI _ + iI 32 = _
      rw [iI_add]; congr 1; omega
    rw [e1]
    refine hd_T (by rw [hz]; rfl) ?_
    rw [bk_G_isPassedFair_33, ex]
    have e2 : iI (pbs sd pp : Int) + 8 = iI (ptg sd pp : Int) := by
      show iI _ + iI 8 = _
      rw [iI_add]; congr 1; omega
    have e3 : iI (pbs sd pp : Int) + 2 * 8 = iI ((pp - 1 + (48 - 40 * sd) : Nat) : Int) := by
      show iI _ + iI 16 = _
      rw [iI_add]; congr 1; omega
    rw [e2, e3]
    exact core
  · refine hd_F (by rw [hz]; decide) ?_
    rw [bk_G_isPassedFair_19]
    have e1 : iI ((pp : Int) - 1) + 8 * 3 = iI (pbs sd pp : Int) := by
      show iI _ + iI 24 = _
      rw [iI_add]; congr 1; omega
    rw [e1]
    refine hd_F (by rw [hz]; decide) ?_
    rw [bk_G_isPassedFair_33, ex]
    have e2 : iI (pbs sd pp : Int) + (-8) = iI (ptg sd pp : Int) := by
      show iI _ + iI (-8) = _
      rw [iI_add]; congr 1; omega
    have e3 : iI (pbs sd pp : Int) + 2 * (-8) = iI ((pp - 1 + (48 - 40 * sd) : Nat) : Int) := by
      show iI _ + iI (-16) = _
      rw [iI_add]; congr 1; omega
    rw [e2, e3]
    exact core
theorem m_passed {b : Bd} {sd pp : Nat} (hsd : sd < 2) (hpp : pp < 9) : fn_M_isPassed (bq b) (iI (sd : Int)) (iI ((pp : Int) - 1)) = some (ge_z (pfb b sd pp)) := by
  rw [fn_M_isPassed, pfb]
  rcases Nat.lt_or_ge pp 1 with h1 | h1
  · have e0 : pp = 0 := by omega
    subst e0
    exact hd_F (by decide) rfl
  obtain ⟨l1, l2, l3, l4, l5⟩ := pbs_lt hsd hpp h1
  obtain ⟨g1, g2, -, -⟩ := geo_e hsd pp 0
  rw [decide_eq_false (by omega), Bool.false_or]
  refine hd_T (by show iI 0 ≤ iI _; rw [iI_le (by omega) (by omega) (by omega) (by omega)]; omega) ?_
  have z1 : bk_M_isPassed_72 (bq b) (iI (sd : Int)) (iI ((pp : Int) - 1)) 1 = some 1 := hd_ck (by decide) rfl
  have z0 : bk_M_isPassed_71 (bq b) (iI (sd : Int)) (iI ((pp : Int) - 1)) = some 0 := (show bk_M_isPassed_72 _ _ _ 0 = _ from hd_ck (by decide) rfl)
  have ex : (1 : Int32) + 6 * (1 - iI (sd : Int)) = iI ((1 + 6 * (1 - sd) : Nat) : Int) := by
    rw [i1m hsd]
    show iI 1 + iI 6 * iI _ = _
    rw [iI_mul, iI_add]; congr 1
  have core := pf_core (b := b) (A := pbs sd pp) (B := ptg sd pp) (C := pp - 1 + (48 - 40 * sd)) (x := 1 + 6 * (1 - sd)) (y := 0) l1 l2 (by omega) (by omega) rfl z1 z0
  have ea := m_ahead sd hsd
  have e1 : (8 : Int32) * (4 - iI (sd : Int)) + iI ((pp : Int) - 1) = iI (pbs sd pp : Int) := by
    show iI 8 * (iI 4 - iI _) + iI _ = _
    rw [iI_sub, iI_mul, iI_add]; congr 1; omega
  have e8 : (8 : Int32) * iI (if sd = 0 then 1 else -1) = iI (8 - 16 * (sd : Int)) := by
    show iI 8 * iI _ = _
    rw [iI_mul]; congr 1; split <;> omega
  simp only [qq_let]
  rw [ea, e1, ex]
  refine hd_b rfl ?_
  rw [e8]
  have e2 : iI (pbs sd pp : Int) + iI (8 - 16 * (sd : Int)) = iI (ptg sd pp : Int) := by
    rw [iI_add]; congr 1; omega
  have e3 : iI (pbs sd pp : Int) + 2 * iI (8 - 16 * (sd : Int)) = iI ((pp - 1 + (48 - 40 * sd) : Nat) : Int) := by
    show iI _ + iI 2 * iI _ = _
    rw [iI_mul, iI_add]; congr 1; omega
  rw [e2, e3]
  exact core
