/-! what a candidate is; the model's go -/
theorem gs_own {b : Bd} {sd r pp ks a t p : Nat} (h : gs b sd r pp ks a t p = true) : isOf (b a) sd = true ∧ isOf (b t) sd = false := by
  simp only [gs, Bool.and_eq_true, Bool.not_eq_true'] at h
  exact ⟨h.1, h.2.1⟩
theorem gs_ne {b : Bd} {sd r pp ks a t p : Nat} (h : gs b sd r pp ks a t p = true) : a ≠ t := by
  obtain ⟨h1, h2⟩ := gs_own h
  rintro rfl
  rw [h1] at h2
  exact absurd h2 (by decide)
theorem gs_p {b : Bd} {sd r pp ks a t p : Nat} (h : gs b sd r pp ks a t p = true) (hk : kd (b a) ≠ 1) : p = 0 := by
  simp only [gs, Bool.and_eq_true, if_neg hk, beq_iff_eq] at h
  exact h.2.2.1
theorem gs_castle {b : Bd} {sd r pp ks a t p : Nat} (hsd : sd < 2) (ha : a < 64) (ht : t < 64) (h : gs b sd r pp ks a t p = true) (hk : kd (b a) = 6) (hc : isC a t = true) :
    a = hm sd ∧ ((t = hm sd + 2 ∧ csu b sd r ks = true) ∨ (t = hm sd - 2 ∧ csd b sd r ks = true)) := by
  simp only [gs, hk, Bool.and_eq_true] at h
  rw [if_neg (by decide)] at h
  simp only [Bool.and_eq_true, Bool.or_eq_true] at h
  obtain ⟨-, -, -, h⟩ := h
  simp only [isC, Bool.or_eq_true, beq_iff_eq] at hc
  rcases h with h | ⟨-, h⟩
  · exfalso
    simp only [re, rk, hk, Bool.and_eq_true, decide_eq_true_eq] at h
    obtain ⟨h1, h2, -⟩ := h
    unfold ge_fi at h1
    unfold ge_ra at h2
    omega
  · simp only [cst, Bool.and_eq_true, Bool.or_eq_true, beq_iff_eq] at h
    exact h
theorem fr_up {b : Bd} {sd : Nat} (hsd : sd < 2) (h : fr b (hm sd) (hm sd + 3) = true) : (b (hm sd + 1)).val = 0 ∧ (b (hm sd + 2)).val = 0 := by
  obtain ⟨w1, -⟩ := cs_wd sd hsd
  obtain ⟨a1, a2, -⟩ := cs_at sd hsd
  simp only [fr, w1, ry, a1, a2, Bool.true_and, Bool.and_eq_true, beq_iff_eq] at h
  exact h
theorem fr_dn {b : Bd} {sd : Nat} (hsd : sd < 2) (h : fr b (hm sd) (hm sd - 4) = true) : (b (hm sd - 1)).val = 0 ∧ (b (hm sd - 2)).val = 0 ∧ (b (hm sd - 3)).val = 0 := by
  obtain ⟨-, w2⟩ := cs_wd sd hsd
  obtain ⟨-, -, a3, a4, a5⟩ := cs_at sd hsd
  simp only [fr, w2, ry, a3, a4, a5, Bool.true_and, Bool.and_eq_true, beq_iff_eq] at h
  exact ⟨h.1.1, h.1.2, h.2⟩
/-- what castling does: the squares -/
theorem gs_cas2 {b : Bd} {sd r pp ks a t p : Nat} (hsd : sd < 2) (ha : a < 64) (ht : t < 64) (h : gs b sd r pp ks a t p = true) (hk : kd (b a) = 6) (hc : isC a t = true) :
    a = hm sd ∧ (b t).val = 0 ∧ (b ((a + t) / 2)).val = 0 ∧ ((t = hm sd + 2 ∧ (a + t) / 2 = hm sd + 1 ∧ cor a t = hm sd + 3 ∧ r.testBit (2 * sd) = true) ∨ (t = hm sd - 2 ∧ (a + t) / 2 = hm sd - 1 ∧ cor a t = hm sd - 4 ∧ r.testBit (2 * sd + 1) = true)) := by
  obtain ⟨rfl, h1⟩ := gs_castle hsd ha ht h hk hc
  have hq : hm sd = 4 + 56 * sd := rfl
  rcases h1 with ⟨rfl, h2⟩ | ⟨rfl, h2⟩
  · simp only [csu, Bool.and_eq_true] at h2
    obtain ⟨f1, f2⟩ := fr_up hsd h2.2.1
    have e : (hm sd + (hm sd + 2)) / 2 = hm sd + 1 := by omega
    refine ⟨rfl, f2, by rw [e]; exact f1, Or.inl ⟨rfl, e, ?_, h2.1⟩⟩
    unfold cor
    rw [if_neg (by omega)]; omega
  · simp only [csd, Bool.and_eq_true] at h2
    obtain ⟨f1, f2, f3⟩ := fr_dn hsd h2.2.1
    have e : (hm sd + (hm sd - 2)) / 2 = hm sd - 1 := by omega
    refine ⟨rfl, f2, by rw [e]; exact f1, Or.inr ⟨rfl, e, ?_, h2.1⟩⟩
    unfold cor
    rw [if_pos (by omega)]; omega
theorem m_192 {b x : Bd} {sd r a t : Nat} (hsd : sd < 2) (hr : r < 16) (ha : a < 64) (ht : t < 64) (p ps qt s1 : Int32) : bk_M_go_192 (iI (a : Int)) (iI (t : Int)) p (iI (sd : Int)) (iI (r : Int)) ps qt (bq x) (ge_z (decide (kd (b a) = 1))) s1 = some (iI ((1 - sd : Nat) : Int), iI (rr r a t : Int), iI ((ppn b a t : Int) - 1), s1, bq x) := by
  have h1 := m_tied a ha
  have h2 := m_tied t ht
  have es : (1 : Int32) - iI (sd : Int) = iI ((1 - sd : Nat) : Int) := by
    show iI 1 - _ = _
    rw [iI_sub]; exact iI_mi (h := 1) (by omega)
  rw [bk_M_go_192, h1]
  simp only [Option.bind_some]
  rw [h2]
  simp only [Option.bind_some, qq_let, rr_e hr ha ht, bk_M_go_239, bk_M_go_240, es]
  by_cases c1 : kd (b a) = 1
  · rw [decide_eq_true c1, if_neg (by decide)]
    have hz := m_size (a := (t : Int) - (a : Int)) (by omega) (by omega)
    rw [iI_sub, hz]
    simp only [Option.bind_some]
    by_cases c2 : t = a + 16 ∨ a = t + 16
    · rw [if_pos (by simp (disch := omega) only [qq_let, Bool.true_eq_false, iI_z0, iI_bz0, iI_bz1, iI_bz, iI_ckt, Option.bind_some, iI_n, iI_lit, iI_neg, iI_add, iI_sub, iI_mul, iI_ltT, iI_ltF, iI_leT, iI_leF, iI_eqT, iI_eqF, iI_div, iI_cn, iI_cl, iI_in, Int.toNat_natCast, if_true, if_false, bq]), ppn, if_pos ⟨c1, c2⟩]
      have : iI (t : Int) - iI (t : Int) / 8 * 8 = iI (((a % 8 + 1 : Nat) : Int) - 1) := by
        simp (disch := omega) only [qq_let, Bool.true_eq_false, iI_z0, iI_bz0, iI_bz1, iI_bz, iI_ckt, Option.bind_some, iI_n, iI_lit, iI_neg, iI_add, iI_sub, iI_mul, iI_ltT, iI_ltF, iI_leT, iI_leF, iI_eqT, iI_eqF, iI_div, iI_cn, iI_cl, iI_in, Int.toNat_natCast, if_true, if_false, bq, iI_md]
      rw [this]
    · rw [if_neg (by simp (disch := omega) only [qq_let, Bool.true_eq_false, iI_z0, iI_bz0, iI_bz1, iI_bz, iI_ckt, Option.bind_some, iI_n, iI_lit, iI_neg, iI_add, iI_sub, iI_mul, iI_ltT, iI_ltF, iI_leT, iI_leF, iI_eqT, iI_eqF, iI_div, iI_cn, iI_cl, iI_in, Int.toNat_natCast, if_true, if_false, bq, not_false_eq_true]), ppn, if_neg (fun h => c2 h.2)]
      rfl
  · rw [decide_eq_false c1, if_pos (by decide), ppn, if_neg (fun h => c1 h.1)]
    rfl
def qn (b : Bd) (a t : Nat) (q : Int32) : Int32 := if kd (b a) = 1 ∨ (b t).val ≠ 0 then 0 else q + 1
theorem m_140 {b x : Bd} {sd r a t p : Nat} (hsd : sd < 2) (hr : r < 16) (ha : a < 64) (ht : t < 64) (hp : p < 6) (ps qt : Int32) : bk_M_go_140 (iI (a : Int)) (iI (t : Int)) (iI (p : Int)) (iI (sd : Int)) (iI (r : Int)) ps qt (bq x) (iI ((b a).val : Int)) (ge_z (decide (kd (b a) = 1))) (ge_z (!((b t).val == 0))) = some (iI ((1 - sd : Nat) : Int), iI (rr r a t : Int), iI ((ppn b a t : Int) - 1), qn b a t qt, bq (bU (bU x t (pcv b sd a p)) a 0)) := by
  have m163 : bk_M_go_163 (iI (a : Int)) (iI (t : Int)) (iI (p : Int)) (iI (sd : Int)) (iI (r : Int)) ps qt (bq x) (ge_z (decide (kd (b a) = 1))) (ge_z (!((b t).val == 0))) (iI (t : Int)) (iI ((pcv b sd a p).val : Int)) = some (iI ((1 - sd : Nat) : Int), iI (rr r a t : Int), iI ((ppn b a t : Int) - 1), qn b a t qt, bq (bU (bU x t (pcv b sd a p)) a 0)) := by
    have m192 : ∀ s1 : Int32, _ := fun s1 => m_192 (b := b) (x := bU (bU x t (pcv b sd a p)) a 0) (sd := sd) (r := r) hsd hr ha ht (iI (p : Int)) ps qt s1
    simp only [bk_M_go_163, qq_let, bk_M_go_182]
    rw [iI_cn (show t < _ by omega), iI_cn (show a < _ by omega), bq_up, bq_u0]
    by_cases c1 : kd (b a) = 1
    · rw [show qn b a t qt = 0 from if_pos (Or.inl c1)]
      have m := m192 0
      rw [decide_eq_true c1] at m ⊢
      repeat (first | with_reducible exact m | (refine hd_ck ?_ ?_; focus (simp (disch := omega) only [qq_let, Bool.true_eq_false, iI_z0, iI_bz0, iI_bz1, iI_bz, iI_ckt, Option.bind_some, iI_n, iI_lit, iI_neg, iI_add, iI_sub, iI_mul, iI_ltT, iI_ltF, iI_leT, iI_leF, iI_eqT, iI_eqF, iI_div, iI_cn, iI_cl, iI_in, Int.toNat_natCast, if_true, if_false, bq, not_false_eq_true]; done)) | (refine hd_T ?_ ?_; focus (simp (disch := omega) only [qq_let, Bool.true_eq_false, iI_z0, iI_bz0, iI_bz1, iI_bz, iI_ckt, Option.bind_some, iI_n, iI_lit, iI_neg, iI_add, iI_sub, iI_mul, iI_ltT, iI_ltF, iI_leT, iI_leF, iI_eqT, iI_eqF, iI_div, iI_cn, iI_cl, iI_in, Int.toNat_natCast, if_true, if_false, bq, not_false_eq_true]; done)) | (refine hd_F ?_ ?_; focus (simp (disch := omega) only [qq_let, Bool.true_eq_false, iI_z0, iI_bz0, iI_bz1, iI_bz, iI_ckt, Option.bind_some, iI_n, iI_lit, iI_neg, iI_add, iI_sub, iI_mul, iI_ltT, iI_ltF, iI_leT, iI_leF, iI_eqT, iI_eqF, iI_div, iI_cn, iI_cl, iI_in, Int.toNat_natCast, if_true, if_false, bq, not_false_eq_true]; done)) | (refine hd_b (v := ?_) ?_ ?_; rotate_left; focus (simp (disch := omega) only [qq_let, Bool.true_eq_false, iI_z0, iI_bz0, iI_bz1, iI_bz, iI_ckt, Option.bind_some, iI_n, iI_lit, iI_neg, iI_add, iI_sub, iI_mul, iI_ltT, iI_ltF, iI_leT, iI_leF, iI_eqT, iI_eqF, iI_div, iI_cn, iI_cl, iI_in, Int.toNat_natCast, if_true, if_false, bq, not_false_eq_true]; rfl)) | with_reducible rfl)
    · by_cases c2 : (b t).val = 0
      · rw [show qn b a t qt = qt + 1 from if_neg (by simp [c1, c2])]
        have m := m192 (qt + 1)
        rw [decide_eq_false c1] at m ⊢
        rw [show ((b t).val == 0) = true from by simp [c2]]
        repeat (first | with_reducible exact m | (refine hd_ck ?_ ?_; focus (simp (disch := omega) only [qq_let, Bool.true_eq_false, iI_z0, iI_bz0, iI_bz1, iI_bz, iI_ckt, Option.bind_some, iI_n, iI_lit, iI_neg, iI_add, iI_sub, iI_mul, iI_ltT, iI_ltF, iI_leT, iI_leF, iI_eqT, iI_eqF, iI_div, iI_cn, iI_cl, iI_in, Int.toNat_natCast, if_true, if_false, bq, Bool.not_true, not_false_eq_true]; done)) | (refine hd_T ?_ ?_; focus (simp (disch := omega) only [qq_let, Bool.true_eq_false, iI_z0, iI_bz0, iI_bz1, iI_bz, iI_ckt, Option.bind_some, iI_n, iI_lit, iI_neg, iI_add, iI_sub, iI_mul, iI_ltT, iI_ltF, iI_leT, iI_leF, iI_eqT, iI_eqF, iI_div, iI_cn, iI_cl, iI_in, Int.toNat_natCast, if_true, if_false, bq, Bool.not_true, not_false_eq_true]; done)) | (refine hd_F ?_ ?_; focus (simp (disch := omega) only [qq_let, Bool.true_eq_false, iI_z0, iI_bz0, iI_bz1, iI_bz, iI_ckt, Option.bind_some, iI_n, iI_lit, iI_neg, iI_add, iI_sub, iI_mul, iI_ltT, iI_ltF, iI_leT, iI_leF, iI_eqT, iI_eqF, iI_div, iI_cn, iI_cl, iI_in, Int.toNat_natCast, if_true, if_false, bq, Bool.not_true, not_false_eq_true]; done)) | (refine hd_b (v := ?_) ?_ ?_; rotate_left; focus (simp (disch := omega) only [qq_let, Bool.true_eq_false, iI_z0, iI_bz0, iI_bz1, iI_bz, iI_ckt, Option.bind_some, iI_n, iI_lit, iI_neg, iI_add, iI_sub, iI_mul, iI_ltT, iI_ltF, iI_leT, iI_leF, iI_eqT, iI_eqF, iI_div, iI_cn, iI_cl, iI_in, Int.toNat_natCast, if_true, if_false, bq, Bool.not_true, not_false_eq_true]; rfl)) | with_reducible rfl)
      · rw [show qn b a t qt = 0 from if_pos (Or.inr c2)]
        have m := m192 0
        rw [decide_eq_false c1] at m ⊢
        rw [show ((b t).val == 0) = false from by simp [c2]]
        repeat (first | with_reducible exact m | (refine hd_ck ?_ ?_; focus (simp (disch := omega) only [qq_let, Bool.true_eq_false, iI_z0, iI_bz0, iI_bz1, iI_bz, iI_ckt, Option.bind_some, iI_n, iI_lit, iI_neg, iI_add, iI_sub, iI_mul, iI_ltT, iI_ltF, iI_leT, iI_leF, iI_eqT, iI_eqF, iI_div, iI_cn, iI_cl, iI_in, Int.toNat_natCast, if_true, if_false, bq, Bool.not_false, not_false_eq_true]; done)) | (refine hd_T ?_ ?_; focus (simp (disch := omega) only [qq_let, Bool.true_eq_false, iI_z0, iI_bz0, iI_bz1, iI_bz, iI_ckt, Option.bind_some, iI_n, iI_lit, iI_neg, iI_add, iI_sub, iI_mul, iI_ltT, iI_ltF, iI_leT, iI_leF, iI_eqT, iI_eqF, iI_div, iI_cn, iI_cl, iI_in, Int.toNat_natCast, if_true, if_false, bq, Bool.not_false, not_false_eq_true]; done)) | (refine hd_F ?_ ?_; focus (simp (disch := omega) only [qq_let, Bool.true_eq_false, iI_z0, iI_bz0, iI_bz1, iI_bz, iI_ckt, Option.bind_some, iI_n, iI_lit, iI_neg, iI_add, iI_sub, iI_mul, iI_ltT, iI_ltF, iI_leT, iI_leF, iI_eqT, iI_eqF, iI_div, iI_cn, iI_cl, iI_in, Int.toNat_natCast, if_true, if_false, bq, Bool.not_false, not_false_eq_true]; done)) | (refine hd_b (v := ?_) ?_ ?_; rotate_left; focus (simp (disch := omega) only [qq_let, Bool.true_eq_false, iI_z0, iI_bz0, iI_bz1, iI_bz, iI_ckt, Option.bind_some, iI_n, iI_lit, iI_neg, iI_add, iI_sub, iI_mul, iI_ltT, iI_ltF, iI_leT, iI_leF, iI_eqT, iI_eqF, iI_div, iI_cn, iI_cl, iI_in, Int.toNat_natCast, if_true, if_false, bq, Bool.not_false, not_false_eq_true]; rfl)) | with_reducible rfl)
  rw [bk_M_go_140]
  by_cases c0 : p = 0
  · rw [pcv, if_pos c0] at m163 ⊢
    repeat (first | with_reducible exact m163 | (refine hd_ck ?_ ?_; focus (simp (disch := omega) only [qq_let, Bool.true_eq_false, iI_z0, iI_bz0, iI_bz1, iI_bz, iI_ckt, Option.bind_some, iI_n, iI_lit, iI_neg, iI_add, iI_sub, iI_mul, iI_ltT, iI_ltF, iI_leT, iI_leF, iI_eqT, iI_eqF, iI_div, iI_cn, iI_cl, iI_in, Int.toNat_natCast, if_true, if_false, bq, not_false_eq_true]; done)) | (refine hd_T ?_ ?_; focus (simp (disch := omega) only [qq_let, Bool.true_eq_false, iI_z0, iI_bz0, iI_bz1, iI_bz, iI_ckt, Option.bind_some, iI_n, iI_lit, iI_neg, iI_add, iI_sub, iI_mul, iI_ltT, iI_ltF, iI_leT, iI_leF, iI_eqT, iI_eqF, iI_div, iI_cn, iI_cl, iI_in, Int.toNat_natCast, if_true, if_false, bq, not_false_eq_true]; done)) | (refine hd_F ?_ ?_; focus (simp (disch := omega) only [qq_let, Bool.true_eq_false, iI_z0, iI_bz0, iI_bz1, iI_bz, iI_ckt, Option.bind_some, iI_n, iI_lit, iI_neg, iI_add, iI_sub, iI_mul, iI_ltT, iI_ltF, iI_leT, iI_leF, iI_eqT, iI_eqF, iI_div, iI_cn, iI_cl, iI_in, Int.toNat_natCast, if_true, if_false, bq, not_false_eq_true]; done)) | (refine hd_b (v := ?_) ?_ ?_; rotate_left; focus (simp (disch := omega) only [qq_let, Bool.true_eq_false, iI_z0, iI_bz0, iI_bz1, iI_bz, iI_ckt, Option.bind_some, iI_n, iI_lit, iI_neg, iI_add, iI_sub, iI_mul, iI_ltT, iI_ltF, iI_leT, iI_leF, iI_eqT, iI_eqF, iI_div, iI_cn, iI_cl, iI_in, Int.toNat_natCast, if_true, if_false, bq, not_false_eq_true]; rfl)) | with_reducible rfl)
  · rw [pcv_v (b := b) (a := a) (by omega) hsd c0]
    repeat (first | with_reducible exact m163 | (refine hd_ck ?_ ?_; focus (simp (disch := omega) only [qq_let, Bool.true_eq_false, iI_z0, iI_bz0, iI_bz1, iI_bz, iI_ckt, Option.bind_some, iI_n, iI_lit, iI_neg, iI_add, iI_sub, iI_mul, iI_ltT, iI_ltF, iI_leT, iI_leF, iI_eqT, iI_eqF, iI_div, iI_cn, iI_cl, iI_in, Int.toNat_natCast, if_true, if_false, bq, not_false_eq_true]; done)) | (refine hd_T ?_ ?_; focus (simp (disch := omega) only [qq_let, Bool.true_eq_false, iI_z0, iI_bz0, iI_bz1, iI_bz, iI_ckt, Option.bind_some, iI_n, iI_lit, iI_neg, iI_add, iI_sub, iI_mul, iI_ltT, iI_ltF, iI_leT, iI_leF, iI_eqT, iI_eqF, iI_div, iI_cn, iI_cl, iI_in, Int.toNat_natCast, if_true, if_false, bq, not_false_eq_true]; done)) | (refine hd_F ?_ ?_; focus (simp (disch := omega) only [qq_let, Bool.true_eq_false, iI_z0, iI_bz0, iI_bz1, iI_bz, iI_ckt, Option.bind_some, iI_n, iI_lit, iI_neg, iI_add, iI_sub, iI_mul, iI_ltT, iI_ltF, iI_leT, iI_leF, iI_eqT, iI_eqF, iI_div, iI_cn, iI_cl, iI_in, Int.toNat_natCast, if_true, if_false, bq, not_false_eq_true]; done)) | (refine hd_b (v := ?_) ?_ ?_; rotate_left; focus (simp (disch := omega) only [qq_let, Bool.true_eq_false, iI_z0, iI_bz0, iI_bz1, iI_bz, iI_ckt, Option.bind_some, iI_n, iI_lit, iI_neg, iI_add, iI_sub, iI_mul, iI_ltT, iI_ltF, iI_leT, iI_leF, iI_eqT, iI_eqF, iI_div, iI_cn, iI_cl, iI_in, Int.toNat_natCast, if_true, if_false, bq, not_false_eq_true]; rfl)) | with_reducible rfl)
theorem cas_comm {b : Bd} {a t m c : Nat} {v : Fin 13} (h1 : a ≠ t) (h2 : a ≠ m) (h3 : a ≠ c) (h4 : t ≠ m) (h5 : t ≠ c) (h6 : m ≠ c) : bU (bU (bU (bU b m (b c)) c 0) t v) a 0 = bU (bU (bU (bU b t v) a 0) m (bU (bU b t v) a 0 c)) c 0 := by
  funext j
  simp only [bU]
  by_cases ja : j = a
  · subst ja; simp [h2, h3]
  · by_cases jt : j = t
    · subst jt; simp [h1.symm, h4, h5]
    · by_cases jm : j = m
      · subst jm; simp [ja, jt, h6, h3.symm, h5.symm]
      · by_cases jc : j = c
        · subst jc; simp [ja, jt]
        · simp [ja, jt, jm, jc]
theorem m_go {b : Bd} {sd r pp ks a t p : Nat} (hsd : sd < 2) (hr : r < 16) (ha : a < 64) (ht : t < 64) (hp : p < 6) (h : gs b sd r pp ks a t p = true) (ps qt : Int32) :
    fn_M_go (iI (sd : Int)) (iI (r : Int)) ps qt (bq b) (iI (a : Int)) (iI (t : Int)) (iI (p : Int)) = some (iI ((1 - sd : Nat) : Int), iI (rr r a t : Int), iI ((ppn b a t : Int) - 1), qn b a t qt, bq (mvb b sd a t p)) := by
  have h6 := kd_le (b a)
  have hkf := m_kindOf (b a)
  have hat := gs_ne h
  have hbl : bst a t < 64 := by unfold bst; omega
  have hbs : (8 * (iI (a : Int) / 8)) + (iI (t : Int) - iI (t : Int) / 8 * 8) = iI (bst a t : Int) := by
    simp (disch := omega) only [qq_let, Bool.true_eq_false, iI_z0, iI_bz0, iI_bz1, iI_bz, iI_ckt, Option.bind_some, iI_n, iI_lit, iI_neg, iI_add, iI_sub, iI_mul, iI_ltT, iI_ltF, iI_leT, iI_leF, iI_eqT, iI_eqF, iI_div, iI_cn, iI_cl, iI_in, Int.toNat_natCast, if_true, if_false, bq, iI_md]
    congr 1
    unfold bst; omega
  have m79 : ∀ x : Bd, (x = b1 b a t) → bk_M_go_79 (iI (a : Int)) (iI (t : Int)) (iI (p : Int)) (iI (sd : Int)) (iI (r : Int)) ps qt (bq x) (iI ((b a).val : Int)) (ge_z (decide (kd (b a) = 1))) (ge_z (!((b t).val == 0))) = some (iI ((1 - sd : Nat) : Int), iI (rr r a t : Int), iI ((ppn b a t : Int) - 1), qn b a t qt, bq (mvb b sd a t p)) := by
    intro x hx
    have m140 : ∀ y : Bd, _ := fun y => m_140 (b := b) (x := y) (sd := sd) (r := r) (a := a) (t := t) (p := p) hsd hr ha ht hp ps qt
    have hz := m_size (a := (t : Int) - (a : Int)) (by omega) (by omega)
    rw [bk_M_go_79, hkf]
    simp only [Option.bind_some]
    rw [iI_sub, hz]
    simp only [Option.bind_some]
    by_cases c6 : kd (b a) = 6
    · have ex : x = b := by rw [hx, b1, if_neg (by rw [c6]; simp)]
      rw [if_pos (by simp (disch := omega) only [qq_let, Bool.true_eq_false, iI_z0, iI_bz0, iI_bz1, iI_bz, iI_ckt, Option.bind_some, iI_n, iI_lit, iI_neg, iI_add, iI_sub, iI_mul, iI_ltT, iI_ltF, iI_leT, iI_leF, iI_eqT, iI_eqF, iI_div, iI_cn, iI_cl, iI_in, Int.toNat_natCast, if_true, if_false, bq])]
      cases cc : isC a t with
      | false =>
        have e1 : mvb b sd a t p = bU (bU x t (pcv b sd a p)) a 0 := by
          rw [mvb, b3, if_neg (by rw [cc]; simp), b2, hx]
        simp only [isC, Bool.or_eq_false_iff, beq_eq_false_iff_ne] at cc
        rw [if_neg (by simp (disch := omega) only [qq_let, Bool.true_eq_false, iI_z0, iI_bz0, iI_bz1, iI_bz, iI_ckt, Option.bind_some, iI_n, iI_lit, iI_neg, iI_add, iI_sub, iI_mul, iI_ltT, iI_ltF, iI_leT, iI_leF, iI_eqT, iI_eqF, iI_div, iI_cn, iI_cl, iI_in, Int.toNat_natCast, if_true, if_false, bq, not_false_eq_true]), e1]
        exact m140 x
      | true =>
        obtain ⟨g1, g2, g3, g4⟩ := gs_cas2 hsd ha ht h c6 cc
        have e1 : mvb b sd a t p = bU (bU (bU (bU b ((a + t) / 2) (b (cor a t))) (cor a t) 0) t (pcv b sd a p)) a 0 := by
          rw [mvb, b3, if_pos ⟨c6, cc⟩, b2, ← hx, ex]
          have hq : hm sd = 4 + 56 * sd := rfl
          rw [cas_comm (b := b) (v := pcv b sd a p) (a := a) (t := t) (m := (a + t) / 2) (c := cor a t) hat (by omega) (by omega) (by omega) (by omega) (by omega)]
        have hcl := cor_lt (t := t) ha
        have emid : (iI (a : Int) + iI (t : Int)) / 2 = iI (((a + t) / 2 : Nat) : Int) := by
          rw [iI_add]
          show iI _ / iI 2 = _
          rw [iI_div (by omega) (by omega) (by omega) (by omega)]; rfl
        have m113 : bk_M_go_113 (iI (a : Int)) (iI (t : Int)) (iI (p : Int)) (iI (sd : Int)) (iI (r : Int)) ps qt (bq x) (iI ((b a).val : Int)) (ge_z (decide (kd (b a) = 1))) (ge_z (!((b t).val == 0))) (iI (cor a t : Int)) = some (iI ((1 - sd : Nat) : Int), iI (rr r a t : Int), iI ((ppn b a t : Int) - 1), qn b a t qt, bq (mvb b sd a t p)) := by
          have m := m140 (bU (bU b ((a + t) / 2) (b (cor a t))) (cor a t) 0)
          rw [bk_M_go_113, emid]
          simp only [qq_let]
          rw [iI_cn (show (a + t) / 2 < _ by omega), iI_cn (show cor a t < _ by omega), ex, e1]
          rw [show bq b (cor a t) = iI ((b (cor a t)).val : Int) from rfl, bq_up, bq_u0]
          repeat (first | with_reducible exact m | (refine hd_ck ?_ ?_; focus (simp (disch := omega) only [qq_let, Bool.true_eq_false, iI_z0, iI_bz0, iI_bz1, iI_bz, iI_ckt, Option.bind_some, iI_n, iI_lit, iI_neg, iI_add, iI_sub, iI_mul, iI_ltT, iI_ltF, iI_leT, iI_leF, iI_eqT, iI_eqF, iI_div, iI_cn, iI_cl, iI_in, Int.toNat_natCast, if_true, if_false, bq, not_false_eq_true]; done)) | (refine hd_T ?_ ?_; focus (simp (disch := omega) only [qq_let, Bool.true_eq_false, iI_z0, iI_bz0, iI_bz1, iI_bz, iI_ckt, Option.bind_some, iI_n, iI_lit, iI_neg, iI_add, iI_sub, iI_mul, iI_ltT, iI_ltF, iI_leT, iI_leF, iI_eqT, iI_eqF, iI_div, iI_cn, iI_cl, iI_in, Int.toNat_natCast, if_true, if_false, bq, not_false_eq_true]; done)) | (refine hd_F ?_ ?_; focus (simp (disch := omega) only [qq_let, Bool.true_eq_false, iI_z0, iI_bz0, iI_bz1, iI_bz, iI_ckt, Option.bind_some, iI_n, iI_lit, iI_neg, iI_add, iI_sub, iI_mul, iI_ltT, iI_ltF, iI_leT, iI_leF, iI_eqT, iI_eqF, iI_div, iI_cn, iI_cl, iI_in, Int.toNat_natCast, if_true, if_false, bq, not_false_eq_true]; done)) | (refine hd_b (v := ?_) ?_ ?_; rotate_left; focus (simp (disch := omega) only [qq_let, Bool.true_eq_false, iI_z0, iI_bz0, iI_bz1, iI_bz, iI_ckt, Option.bind_some, iI_n, iI_lit, iI_neg, iI_add, iI_sub, iI_mul, iI_ltT, iI_ltF, iI_leT, iI_leF, iI_eqT, iI_eqF, iI_div, iI_cn, iI_cl, iI_in, Int.toNat_natCast, if_true, if_false, bq, not_false_eq_true]; rfl)) | with_reducible rfl)
        simp only [isC, Bool.or_eq_true, beq_iff_eq] at cc
        rw [if_pos (by simp (disch := omega) only [qq_let, Bool.true_eq_false, iI_z0, iI_bz0, iI_bz1, iI_bz, iI_ckt, Option.bind_some, iI_n, iI_lit, iI_neg, iI_add, iI_sub, iI_mul, iI_ltT, iI_ltF, iI_leT, iI_leF, iI_eqT, iI_eqF, iI_div, iI_cn, iI_cl, iI_in, Int.toNat_natCast, if_true, if_false, bq])]
        rcases g4 with ⟨q1, q2, q3, -⟩ | ⟨q1, q2, q3, -⟩
        · have e2 : iI (t : Int) + 1 = iI (cor a t : Int) := by rw [iI_s1, q3, q1]
          rw [e2]
          repeat (first | with_reducible exact m113 | (refine hd_ck ?_ ?_; focus (simp (disch := omega) only [qq_let, Bool.true_eq_false, iI_z0, iI_bz0, iI_bz1, iI_bz, iI_ckt, Option.bind_some, iI_n, iI_lit, iI_neg, iI_add, iI_sub, iI_mul, iI_ltT, iI_ltF, iI_leT, iI_leF, iI_eqT, iI_eqF, iI_div, iI_cn, iI_cl, iI_in, Int.toNat_natCast, if_true, if_false, bq, not_false_eq_true]; done)) | (refine hd_T ?_ ?_; focus (simp (disch := omega) only [qq_let, Bool.true_eq_false, iI_z0, iI_bz0, iI_bz1, iI_bz, iI_ckt, Option.bind_some, iI_n, iI_lit, iI_neg, iI_add, iI_sub, iI_mul, iI_ltT, iI_ltF, iI_leT, iI_leF, iI_eqT, iI_eqF, iI_div, iI_cn, iI_cl, iI_in, Int.toNat_natCast, if_true, if_false, bq, not_false_eq_true]; done)) | (refine hd_F ?_ ?_; focus (simp (disch := omega) only [qq_let, Bool.true_eq_false, iI_z0, iI_bz0, iI_bz1, iI_bz, iI_ckt, Option.bind_some, iI_n, iI_lit, iI_neg, iI_add, iI_sub, iI_mul, iI_ltT, iI_ltF, iI_leT, iI_leF, iI_eqT, iI_eqF, iI_div, iI_cn, iI_cl, iI_in, Int.toNat_natCast, if_true, if_false, bq, not_false_eq_true]; done)) | (refine hd_b (v := ?_) ?_ ?_; rotate_left; focus (simp (disch := omega) only [qq_let, Bool.true_eq_false, iI_z0, iI_bz0, iI_bz1, iI_bz, iI_ckt, Option.bind_some, iI_n, iI_lit, iI_neg, iI_add, iI_sub, iI_mul, iI_ltT, iI_ltF, iI_leT, iI_leF, iI_eqT, iI_eqF, iI_div, iI_cn, iI_cl, iI_in, Int.toNat_natCast, if_true, if_false, bq, not_false_eq_true]; rfl)) | with_reducible rfl)
        · have e2 : iI (t : Int) - 2 = iI (cor a t : Int) := by
            show iI _ - iI 2 = _
            rw [iI_sub, q3, q1]
            congr 1
            have hq : hm sd = 4 + 56 * sd := rfl
            omega
          rw [e2]
          repeat (first | with_reducible exact m113 | (refine hd_ck ?_ ?_; focus (simp (disch := omega) only [qq_let, Bool.true_eq_false, iI_z0, iI_bz0, iI_bz1, iI_bz, iI_ckt, Option.bind_some, iI_n, iI_lit, iI_neg, iI_add, iI_sub, iI_mul, iI_ltT, iI_ltF, iI_leT, iI_leF, iI_eqT, iI_eqF, iI_div, iI_cn, iI_cl, iI_in, Int.toNat_natCast, if_true, if_false, bq, not_false_eq_true]; done)) | (refine hd_T ?_ ?_; focus (simp (disch := omega) only [qq_let, Bool.true_eq_false, iI_z0, iI_bz0, iI_bz1, iI_bz, iI_ckt, Option.bind_some, iI_n, iI_lit, iI_neg, iI_add, iI_sub, iI_mul, iI_ltT, iI_ltF, iI_leT, iI_leF, iI_eqT, iI_eqF, iI_div, iI_cn, iI_cl, iI_in, Int.toNat_natCast, if_true, if_false, bq, not_false_eq_true]; done)) | (refine hd_F ?_ ?_; focus (simp (disch := omega) only [qq_let, Bool.true_eq_false, iI_z0, iI_bz0, iI_bz1, iI_bz, iI_ckt, Option.bind_some, iI_n, iI_lit, iI_neg, iI_add, iI_sub, iI_mul, iI_ltT, iI_ltF, iI_leT, iI_leF, iI_eqT, iI_eqF, iI_div, iI_cn, iI_cl, iI_in, Int.toNat_natCast, if_true, if_false, bq, not_false_eq_true]; done)) | (refine hd_b (v := ?_) ?_ ?_; rotate_left; focus (simp (disch := omega) only [qq_let, Bool.true_eq_false, iI_z0, iI_bz0, iI_bz1, iI_bz, iI_ckt, Option.bind_some, iI_n, iI_lit, iI_neg, iI_add, iI_sub, iI_mul, iI_ltT, iI_ltF, iI_leT, iI_leF, iI_eqT, iI_eqF, iI_div, iI_cn, iI_cl, iI_in, Int.toNat_natCast, if_true, if_false, bq, not_false_eq_true]; rfl)) | with_reducible rfl)
    · have e1 : mvb b sd a t p = bU (bU x t (pcv b sd a p)) a 0 := by
        rw [mvb, b3, if_neg (fun h => c6 h.1), b2, hx]
      rw [if_neg (by simp (disch := omega) only [qq_let, Bool.true_eq_false, iI_z0, iI_bz0, iI_bz1, iI_bz, iI_ckt, Option.bind_some, iI_n, iI_lit, iI_neg, iI_add, iI_sub, iI_mul, iI_ltT, iI_ltF, iI_leT, iI_leF, iI_eqT, iI_eqF, iI_div, iI_cn, iI_cl, iI_in, Int.toNat_natCast, if_true, if_false, bq, not_false_eq_true]), e1]
      exact m140 x
  have m38 : bk_M_go_38 (iI (a : Int)) (iI (t : Int)) (iI (p : Int)) (iI (sd : Int)) (iI (r : Int)) ps qt (bq b) (iI ((b a).val : Int)) (ge_z (decide (kd (b a) = 1))) (ge_z (!((b t).val == 0))) = some (iI ((1 - sd : Nat) : Int), iI (rr r a t : Int), iI ((ppn b a t : Int) - 1), qn b a t qt, bq (mvb b sd a t p)) := by
    rw [bk_M_go_38, hbs]
    simp only [qq_let]
    rw [iI_cn (show bst a t < _ by omega)]
    by_cases c1 : kd (b a) = 1
    · by_cases c2 : a % 8 = t % 8
      · have m := m79 b (by rw [b1, if_neg (fun h => h.2.1 c2)])
        rw [decide_eq_true c1] at m ⊢
        repeat (first | with_reducible exact m | (refine hd_ck ?_ ?_; focus (simp (disch := omega) only [qq_let, Bool.true_eq_false, iI_z0, iI_bz0, iI_bz1, iI_bz, iI_ckt, Option.bind_some, iI_n, iI_lit, iI_neg, iI_add, iI_sub, iI_mul, iI_ltT, iI_ltF, iI_leT, iI_leF, iI_eqT, iI_eqF, iI_div, iI_cn, iI_cl, iI_in, Int.toNat_natCast, if_true, if_false, bq, iI_md, not_false_eq_true]; done)) | (refine hd_T ?_ ?_; focus (simp (disch := omega) only [qq_let, Bool.true_eq_false, iI_z0, iI_bz0, iI_bz1, iI_bz, iI_ckt, Option.bind_some, iI_n, iI_lit, iI_neg, iI_add, iI_sub, iI_mul, iI_ltT, iI_ltF, iI_leT, iI_leF, iI_eqT, iI_eqF, iI_div, iI_cn, iI_cl, iI_in, Int.toNat_natCast, if_true, if_false, bq, iI_md, not_false_eq_true]; done)) | (refine hd_F ?_ ?_; focus (simp (disch := omega) only [qq_let, Bool.true_eq_false, iI_z0, iI_bz0, iI_bz1, iI_bz, iI_ckt, Option.bind_some, iI_n, iI_lit, iI_neg, iI_add, iI_sub, iI_mul, iI_ltT, iI_ltF, iI_leT, iI_leF, iI_eqT, iI_eqF, iI_div, iI_cn, iI_cl, iI_in, Int.toNat_natCast, if_true, if_false, bq, iI_md, not_false_eq_true]; done)) | (refine hd_b (v := ?_) ?_ ?_; rotate_left; focus (simp (disch := omega) only [qq_let, Bool.true_eq_false, iI_z0, iI_bz0, iI_bz1, iI_bz, iI_ckt, Option.bind_some, iI_n, iI_lit, iI_neg, iI_add, iI_sub, iI_mul, iI_ltT, iI_ltF, iI_leT, iI_leF, iI_eqT, iI_eqF, iI_div, iI_cn, iI_cl, iI_in, Int.toNat_natCast, if_true, if_false, bq, iI_md, not_false_eq_true]; rfl)) | with_reducible rfl)
      · by_cases c3 : (b t).val = 0
        · have m := m79 (bU b (bst a t) 0) (by rw [b1, if_pos ⟨c1, c2, c3⟩])
          rw [decide_eq_true c1, show ((b t).val == 0) = true from by simp [c3]] at m ⊢
          rw [bq_u0]
          repeat (first | with_reducible exact m | (refine hd_ck ?_ ?_; focus (simp (disch := omega) only [qq_let, Bool.true_eq_false, iI_z0, iI_bz0, iI_bz1, iI_bz, iI_ckt, Option.bind_some, iI_n, iI_lit, iI_neg, iI_add, iI_sub, iI_mul, iI_ltT, iI_ltF, iI_leT, iI_leF, iI_eqT, iI_eqF, iI_div, iI_cn, iI_cl, iI_in, Int.toNat_natCast, if_true, if_false, bq, iI_md, Bool.not_true, not_false_eq_true]; done)) | (refine hd_T ?_ ?_; focus (simp (disch := omega) only [qq_let, Bool.true_eq_false, iI_z0, iI_bz0, iI_bz1, iI_bz, iI_ckt, Option.bind_some, iI_n, iI_lit, iI_neg, iI_add, iI_sub, iI_mul, iI_ltT, iI_ltF, iI_leT, iI_leF, iI_eqT, iI_eqF, iI_div, iI_cn, iI_cl, iI_in, Int.toNat_natCast, if_true, if_false, bq, iI_md, Bool.not_true, not_false_eq_true]; done)) | (refine hd_F ?_ ?_; focus (simp (disch := omega) only [qq_let, Bool.true_eq_false, iI_z0, iI_bz0, iI_bz1, iI_bz, iI_ckt, Option.bind_some, iI_n, iI_lit, iI_neg, iI_add, iI_sub, iI_mul, iI_ltT, iI_ltF, iI_leT, iI_leF, iI_eqT, iI_eqF, iI_div, iI_cn, iI_cl, iI_in, Int.toNat_natCast, if_true, if_false, bq, iI_md, Bool.not_true, not_false_eq_true]; done)) | (refine hd_b (v := ?_) ?_ ?_; rotate_left; focus (simp (disch := omega) only [qq_let, Bool.true_eq_false, iI_z0, iI_bz0, iI_bz1, iI_bz, iI_ckt, Option.bind_some, iI_n, iI_lit, iI_neg, iI_add, iI_sub, iI_mul, iI_ltT, iI_ltF, iI_leT, iI_leF, iI_eqT, iI_eqF, iI_div, iI_cn, iI_cl, iI_in, Int.toNat_natCast, if_true, if_false, bq, iI_md, Bool.not_true, not_false_eq_true]; rfl)) | with_reducible rfl)
        · have m := m79 b (by rw [b1, if_neg (fun h => c3 h.2.2)])
          rw [decide_eq_true c1, show ((b t).val == 0) = false from by simp [c3]] at m ⊢
          repeat (first | with_reducible exact m | (refine hd_ck ?_ ?_; focus (simp (disch := omega) only [qq_let, Bool.true_eq_false, iI_z0, iI_bz0, iI_bz1, iI_bz, iI_ckt, Option.bind_some, iI_n, iI_lit, iI_neg, iI_add, iI_sub, iI_mul, iI_ltT, iI_ltF, iI_leT, iI_leF, iI_eqT, iI_eqF, iI_div, iI_cn, iI_cl, iI_in, Int.toNat_natCast, if_true, if_false, bq, iI_md, Bool.not_false, not_false_eq_true]; done)) | (refine hd_T ?_ ?_; focus (simp (disch := omega) only [qq_let, Bool.true_eq_false, iI_z0, iI_bz0, iI_bz1, iI_bz, iI_ckt, Option.bind_some, iI_n, iI_lit, iI_neg, iI_add, iI_sub, iI_mul, iI_ltT, iI_ltF, iI_leT, iI_leF, iI_eqT, iI_eqF, iI_div, iI_cn, iI_cl, iI_in, Int.toNat_natCast, if_true, if_false, bq, iI_md, Bool.not_false, not_false_eq_true]; done)) | (refine hd_F ?_ ?_; focus (simp (disch := omega) only [qq_let, Bool.true_eq_false, iI_z0, iI_bz0, iI_bz1, iI_bz, iI_ckt, Option.bind_some, iI_n, iI_lit, iI_neg, iI_add, iI_sub, iI_mul, iI_ltT, iI_ltF, iI_leT, iI_leF, iI_eqT, iI_eqF, iI_div, iI_cn, iI_cl, iI_in, Int.toNat_natCast, if_true, if_false, bq, iI_md, Bool.not_false, not_false_eq_true]; done)) | (refine hd_b (v := ?_) ?_ ?_; rotate_left; focus (simp (disch := omega) only [qq_let, Bool.true_eq_false, iI_z0, iI_bz0, iI_bz1, iI_bz, iI_ckt, Option.bind_some, iI_n, iI_lit, iI_neg, iI_add, iI_sub, iI_mul, iI_ltT, iI_ltF, iI_leT, iI_leF, iI_eqT, iI_eqF, iI_div, iI_cn, iI_cl, iI_in, Int.toNat_natCast, if_true, if_false, bq, iI_md, Bool.not_false, not_false_eq_true]; rfl)) | with_reducible rfl)
    · have m := m79 b (by rw [b1, if_neg (fun h => c1 h.1)])
      rw [decide_eq_false c1] at m ⊢
      repeat (first | with_reducible exact m | (refine hd_ck ?_ ?_; focus (simp (disch := omega) only [qq_let, Bool.true_eq_false, iI_z0, iI_bz0, iI_bz1, iI_bz, iI_ckt, Option.bind_some, iI_n, iI_lit, iI_neg, iI_add, iI_sub, iI_mul, iI_ltT, iI_ltF, iI_leT, iI_leF, iI_eqT, iI_eqF, iI_div, iI_cn, iI_cl, iI_in, Int.toNat_natCast, if_true, if_false, bq, not_false_eq_true]; done)) | (refine hd_T ?_ ?_; focus (simp (disch := omega) only [qq_let, Bool.true_eq_false, iI_z0, iI_bz0, iI_bz1, iI_bz, iI_ckt, Option.bind_some, iI_n, iI_lit, iI_neg, iI_add, iI_sub, iI_mul, iI_ltT, iI_ltF, iI_leT, iI_leF, iI_eqT, iI_eqF, iI_div, iI_cn, iI_cl, iI_in, Int.toNat_natCast, if_true, if_false, bq, not_false_eq_true]; done)) | (refine hd_F ?_ ?_; focus (simp (disch := omega) only [qq_let, Bool.true_eq_false, iI_z0, iI_bz0, iI_bz1, iI_bz, iI_ckt, Option.bind_some, iI_n, iI_lit, iI_neg, iI_add, iI_sub, iI_mul, iI_ltT, iI_ltF, iI_leT, iI_leF, iI_eqT, iI_eqF, iI_div, iI_cn, iI_cl, iI_in, Int.toNat_natCast, if_true, if_false, bq, not_false_eq_true]; done)) | (refine hd_b (v := ?_) ?_ ?_; rotate_left; focus (simp (disch := omega) only [qq_let, Bool.true_eq_false, iI_z0, iI_bz0, iI_bz1, iI_bz, iI_ckt, Option.bind_some, iI_n, iI_lit, iI_neg, iI_add, iI_sub, iI_mul, iI_ltT, iI_ltF, iI_leT, iI_leF, iI_eqT, iI_eqF, iI_div, iI_cn, iI_cl, iI_in, Int.toNat_natCast, if_true, if_false, bq, not_false_eq_true]; rfl)) | with_reducible rfl)
  rw [fn_M_go]
  simp only [qq_let]
  rw [iI_cn (show a < _ by omega), show bq b a = iI ((b a).val : Int) from rfl, hkf]
  simp only [Option.bind_some, bk_M_go_22]
  rw [iI_cn (show t < _ by omega), show bq b t = iI ((b t).val : Int) from rfl]
  by_cases c1 : kd (b a) = 1
  · rw [decide_eq_true c1] at m38
    by_cases c3 : (b t).val = 0
    · rw [show ((b t).val == 0) = true from by simp [c3]] at m38
      change bk_M_go_38 _ _ _ _ _ _ _ _ _ 1 0 = _ at m38
      repeat (first | with_reducible exact m38 | (refine hd_ck ?_ ?_; focus (simp (disch := omega) only [qq_let, Bool.true_eq_false, iI_z0, iI_bz0, iI_bz1, iI_bz, iI_ckt, Option.bind_some, iI_n, iI_lit, iI_neg, iI_add, iI_sub, iI_mul, iI_ltT, iI_ltF, iI_leT, iI_leF, iI_eqT, iI_eqF, iI_div, iI_cn, iI_cl, iI_in, Int.toNat_natCast, if_true, if_false, bq, not_false_eq_true]; done)) | (refine hd_T ?_ ?_; focus (simp (disch := omega) only [qq_let, Bool.true_eq_false, iI_z0, iI_bz0, iI_bz1, iI_bz, iI_ckt, Option.bind_some, iI_n, iI_lit, iI_neg, iI_add, iI_sub, iI_mul, iI_ltT, iI_ltF, iI_leT, iI_leF, iI_eqT, iI_eqF, iI_div, iI_cn, iI_cl, iI_in, Int.toNat_natCast, if_true, if_false, bq, not_false_eq_true]; done)) | (refine hd_F ?_ ?_; focus (simp (disch := omega) only [qq_let, Bool.true_eq_false, iI_z0, iI_bz0, iI_bz1, iI_bz, iI_ckt, Option.bind_some, iI_n, iI_lit, iI_neg, iI_add, iI_sub, iI_mul, iI_ltT, iI_ltF, iI_leT, iI_leF, iI_eqT, iI_eqF, iI_div, iI_cn, iI_cl, iI_in, Int.toNat_natCast, if_true, if_false, bq, not_false_eq_true]; done)) | (refine hd_b (v := ?_) ?_ ?_; rotate_left; focus (simp (disch := omega) only [qq_let, Bool.true_eq_false, iI_z0, iI_bz0, iI_bz1, iI_bz, iI_ckt, Option.bind_some, iI_n, iI_lit, iI_neg, iI_add, iI_sub, iI_mul, iI_ltT, iI_ltF, iI_leT, iI_leF, iI_eqT, iI_eqF, iI_div, iI_cn, iI_cl, iI_in, Int.toNat_natCast, if_true, if_false, bq, not_false_eq_true]; rfl)) | with_reducible rfl)
    · rw [show ((b t).val == 0) = false from by simp [c3]] at m38
      change bk_M_go_38 _ _ _ _ _ _ _ _ _ 1 1 = _ at m38
      repeat (first | with_reducible exact m38 | (refine hd_ck ?_ ?_; focus (simp (disch := omega) only [qq_let, Bool.true_eq_false, iI_z0, iI_bz0, iI_bz1, iI_bz, iI_ckt, Option.bind_some, iI_n, iI_lit, iI_neg, iI_add, iI_sub, iI_mul, iI_ltT, iI_ltF, iI_leT, iI_leF, iI_eqT, iI_eqF, iI_div, iI_cn, iI_cl, iI_in, Int.toNat_natCast, if_true, if_false, bq, not_false_eq_true]; done)) | (refine hd_T ?_ ?_; focus (simp (disch := omega) only [qq_let, Bool.true_eq_false, iI_z0, iI_bz0, iI_bz1, iI_bz, iI_ckt, Option.bind_some, iI_n, iI_lit, iI_neg, iI_add, iI_sub, iI_mul, iI_ltT, iI_ltF, iI_leT, iI_leF, iI_eqT, iI_eqF, iI_div, iI_cn, iI_cl, iI_in, Int.toNat_natCast, if_true, if_false, bq, not_false_eq_true]; done)) | (refine hd_F ?_ ?_; focus (simp (disch := omega) only [qq_let, Bool.true_eq_false, iI_z0, iI_bz0, iI_bz1, iI_bz, iI_ckt, Option.bind_some, iI_n, iI_lit, iI_neg, iI_add, iI_sub, iI_mul, iI_ltT, iI_ltF, iI_leT, iI_leF, iI_eqT, iI_eqF, iI_div, iI_cn, iI_cl, iI_in, Int.toNat_natCast, if_true, if_false, bq, not_false_eq_true]; done)) | (refine hd_b (v := ?_) ?_ ?_; rotate_left; focus (simp (disch := omega) only [qq_let, Bool.true_eq_false, iI_z0, iI_bz0, iI_bz1, iI_bz, iI_ckt, Option.bind_some, iI_n, iI_lit, iI_neg, iI_add, iI_sub, iI_mul, iI_ltT, iI_ltF, iI_leT, iI_leF, iI_eqT, iI_eqF, iI_div, iI_cn, iI_cl, iI_in, Int.toNat_natCast, if_true, if_false, bq, not_false_eq_true]; rfl)) | with_reducible rfl)
  · rw [decide_eq_false c1] at m38
    by_cases c3 : (b t).val = 0
    · rw [show ((b t).val == 0) = true from by simp [c3]] at m38
      change bk_M_go_38 _ _ _ _ _ _ _ _ _ 0 0 = _ at m38
      repeat (first | with_reducible exact m38 | (refine hd_ck ?_ ?_; focus (simp (disch := omega) only [qq_let, Bool.true_eq_false, iI_z0, iI_bz0, iI_bz1, iI_bz, iI_ckt, Option.bind_some, iI_n, iI_lit, iI_neg, iI_add, iI_sub, iI_mul, iI_ltT, iI_ltF, iI_leT, iI_leF, iI_eqT, iI_eqF, iI_div, iI_cn, iI_cl, iI_in, Int.toNat_natCast, if_true, if_false, bq, not_false_eq_true]; done)) | (refine hd_T ?_ ?_; focus (simp (disch := omega) only [qq_let, Bool.true_eq_false, iI_z0, iI_bz0, iI_bz1, iI_bz, iI_ckt, Option.bind_some, iI_n, iI_lit, iI_neg, iI_add, iI_sub, iI_mul, iI_ltT, iI_ltF, iI_leT, iI_leF, iI_eqT, iI_eqF, iI_div, iI_cn, iI_cl, iI_in, Int.toNat_natCast, if_true, if_false, bq, not_false_eq_true]; done)) | (refine hd_F ?_ ?_; focus (simp (disch := omega) only [qq_let, Bool.true_eq_false, iI_z0, iI_bz0, iI_bz1, iI_bz, iI_ckt, Option.bind_some, iI_n, iI_lit, iI_neg, iI_add, iI_sub, iI_mul, iI_ltT, iI_ltF, iI_leT, iI_leF, iI_eqT, iI_eqF, iI_div, iI_cn, iI_cl, iI_in, Int.toNat_natCast, if_true, if_false, bq, not_false_eq_true]; done)) | (refine hd_b (v := ?_) ?_ ?_; rotate_left; focus (simp (disch := omega) only [qq_let, Bool.true_eq_false, iI_z0, iI_bz0, iI_bz1, iI_bz, iI_ckt, Option.bind_some, iI_n, iI_lit, iI_neg, iI_add, iI_sub, iI_mul, iI_ltT, iI_ltF, iI_leT, iI_leF, iI_eqT, iI_eqF, iI_div, iI_cn, iI_cl, iI_in, Int.toNat_natCast, if_true, if_false, bq, not_false_eq_true]; rfl)) | with_reducible rfl)
    · rw [show ((b t).val == 0) = false from by simp [c3]] at m38
      change bk_M_go_38 _ _ _ _ _ _ _ _ _ 0 1 = _ at m38
      repeat (first | with_reducible exact m38 | (refine hd_ck ?_ ?_; focus (simp (disch := omega) only [qq_let, Bool.true_eq_false, iI_z0, iI_bz0, iI_bz1, iI_bz, iI_ckt, Option.bind_some, iI_n, iI_lit, iI_neg, iI_add, iI_sub, iI_mul, iI_ltT, iI_ltF, iI_leT, iI_leF, iI_eqT, iI_eqF, iI_div, iI_cn, iI_cl, iI_in, Int.toNat_natCast, if_true, if_false, bq, not_false_eq_true]; done)) | (refine hd_T ?_ ?_; focus (simp (disch := omega) only [qq_let, Bool.true_eq_false, iI_z0, iI_bz0, iI_bz1, iI_bz, iI_ckt, Option.bind_some, iI_n, iI_lit, iI_neg, iI_add, iI_sub, iI_mul, iI_ltT, iI_ltF, iI_leT, iI_leF, iI_eqT, iI_eqF, iI_div, iI_cn, iI_cl, iI_in, Int.toNat_natCast, if_true, if_false, bq, not_false_eq_true]; done)) | (refine hd_F ?_ ?_; focus (simp (disch := omega) only [qq_let, Bool.true_eq_false, iI_z0, iI_bz0, iI_bz1, iI_bz, iI_ckt, Option.bind_some, iI_n, iI_lit, iI_neg, iI_add, iI_sub, iI_mul, iI_ltT, iI_ltF, iI_leT, iI_leF, iI_eqT, iI_eqF, iI_div, iI_cn, iI_cl, iI_in, Int.toNat_natCast, if_true, if_false, bq, not_false_eq_true]; done)) | (refine hd_b (v := ?_) ?_ ?_; rotate_left; focus (simp (disch := omega) only [qq_let, Bool.true_eq_false, iI_z0, iI_bz0, iI_bz1, iI_bz, iI_ckt, Option.bind_some, iI_n, iI_lit, iI_neg, iI_add, iI_sub, iI_mul, iI_ltT, iI_ltF, iI_leT, iI_leF, iI_eqT, iI_eqF, iI_div, iI_cn, iI_cl, iI_in, Int.toNat_natCast, if_true, if_false, bq, not_false_eq_true]; rfl)) | with_reducible rfl)
