/-! takeBack undoes play -/
theorem gs_pass {b : Bd} {sd r pp a t p : Nat} {k : Nat → Nat} (h : pv b sd r pp k) (ha : a < 64) (ht : t < 64) (hg : gs b sd r pp (k sd) a t p = true) (hk : kd (b a) = 1) (hd : a % 8 ≠ t % 8) (h0 : (b t).val = 0) :
    (b (bst a t)).val = 1 + 6 * (1 - sd) ∧ a / 8 ≠ t / 8 := by
  obtain ⟨⟨hsd, hr, hpp⟩, -, hpw, -, hpe, -, -⟩ := id h
  obtain ⟨hof, -⟩ := gs_own hg
  obtain ⟨p1, p2⟩ := hpw a ha hk
  have hpv : (b a).val = 1 + 6 * sd := by have := kd_of (b a) sd hsd hof; omega
  have hre := pawn_re (t := t) hsd hpv p1 p2
  simp only [gs, hk, if_true, Bool.and_eq_true, pg, pg1, Bool.or_eq_true, stp1, far1, psb, beq_iff_eq, decide_eq_true_eq, Bool.not_eq_true', beq_eq_false_iff_ne] at hg
  obtain ⟨-, -, -, hg⟩ := hg
  rcases hg with hg | hg | hg | hg
  · exfalso
    have h1 := hg.1
    unfold nx at h1
    split at h1 <;> omega
  · exfalso
    have h1 := hg.2.1
    have h2 := hg.1
    unfold nx2 at h1
    by_cases cs : sd = 0
    · rw [if_pos cs] at h1; omega
    · rw [if_neg cs] at h1 h2; omega
  · exact absurd h0 hg.2
  · obtain ⟨q1, q2, q3, q4, -⟩ := hg
    have hb := (hpe q1).2
    have e : pbs sd pp = bst a t := by
      unfold pbs bst
      by_cases cs : sd = 0
      · rw [if_pos cs]; omega
      · rw [if_neg cs]; omega
    rw [e] at hb
    refine ⟨hb, ?_⟩
    have h1 := hre.mp q4
    unfold nx at h1
    by_cases cs : sd = 0
    · rw [if_pos cs] at h1; omega
    · rw [if_neg cs] at h1; omega
theorem gs_re {b : Bd} {sd r pp ks a t p : Nat} (hsd : sd < 2) (hg : gs b sd r pp ks a t p = true) (h0 : (b t).val ≠ 0) : re b a t = true := by
  simp only [gs, Bool.and_eq_true] at hg
  obtain ⟨-, -, hg⟩ := hg
  by_cases hk : kd (b a) = 1
  · rw [if_pos hk] at hg
    simp only [pg, pg1, Bool.and_eq_true, Bool.or_eq_true, stp1, far1, psb, beq_iff_eq] at hg
    rcases hg.2 with hg | hg | hg | hg
    · exact absurd hg.2 h0
    · exact absurd hg.2.2.2 h0
    · exact hg.1
    · exact absurd hg.2.2.2.2 h0
  · rw [if_neg hk] at hg
    simp only [Bool.and_eq_true, Bool.or_eq_true, cst, beq_iff_eq] at hg
    rcases hg.2 with hg | ⟨-, -, hg | hg⟩
    · exact hg
    · have h1 := hg.2
      simp only [csu, Bool.and_eq_true] at h1
      have := (fr_up hsd h1.2.1).2
      rw [← hg.1] at this
      exact absurd this h0
    · have h1 := hg.2
      simp only [csd, Bool.and_eq_true] at h1
      have := (fr_dn hsd h1.2.1).2.1
      rw [← hg.1] at this
      exact absurd this h0
theorem gs_king {b : Bd} {sd r pp a t p : Nat} {k : Nat → Nat} (h : pv b sd r pp k) (ha : a < 64) (ht : t < 64) (hg : gs b sd r pp (k sd) a t p = true) : (b t).val ≠ 6 + 6 * (1 - sd) := by
  intro hK
  have hsd := h.1.1
  have ho := pv_ok h (who := 1 - sd) (by omega)
  have hkt := ho.2.2 t ht hK
  have hre := gs_re hsd hg (by omega)
  have hn := h.2.2.2.2.2.2
  obtain ⟨hof, -⟩ := gs_own hg
  have : mh b sd t = true := by
    rw [mh, List.any_eq_true]
    exact ⟨a, by rw [List.mem_range'_1]; omega, by rw [mhf, hof, hre]; rfl⟩
  rw [hkt, hn] at this
  exact absurd this (by decide)
theorem mv_n {b : Bd} {sd a t p : Nat} (h : ¬ (kd (b a) = 6 ∧ isC a t = true)) (j : Nat) : mvb b sd a t p j = if j = a then 0 else if j = t then pcv b sd a p else if (kd (b a) = 1 ∧ a % 8 ≠ t % 8 ∧ (b t).val = 0) ∧ j = bst a t then 0 else b j := by
  rw [mvb, b3, if_neg h, b2]
  simp only [bU]
  by_cases ja : j = a
  · rw [if_pos ja, if_pos ja]
  · rw [if_neg ja, if_neg ja]
    by_cases jt : j = t
    · rw [if_pos jt, if_pos jt]
    · rw [if_neg jt, if_neg jt]
      unfold b1
      by_cases c : kd (b a) = 1 ∧ a % 8 ≠ t % 8 ∧ (b t).val = 0
      · rw [if_pos c]
        simp only [bU]
        by_cases jb : j = bst a t
        · rw [if_pos jb, if_pos ⟨c, jb⟩]
        · rw [if_neg jb, if_neg (fun hh => jb hh.2)]
      · rw [if_neg c, if_neg (fun hh => c hh.1)]
theorem mv_c {b : Bd} {sd a t p : Nat} (h : kd (b a) = 6 ∧ isC a t = true) (hca : cor a t ≠ a) (hct : cor a t ≠ t) (j : Nat) : mvb b sd a t p j = if j = cor a t then 0 else if j = (a + t) / 2 then b (cor a t) else if j = a then 0 else if j = t then pcv b sd a p else b j := by
  rw [mvb, b3, if_pos h, b2, show b1 b a t = b from if_neg (fun hh => by have := h.1; omega)]
  simp only [bU, hca, hct, if_false]
theorem pcv_0 (b : Bd) (sd a : Nat) : pcv b sd a 0 = b a := if_pos rfl
theorem p_takeBack {b : Bd} {sd r pp a t p : Nat} {k : Nat → Nat} (h : pv b sd r pp k) (ha : a < 64) (ht : t < 64) (hp : p < 6) (hg : gs b sd r pp (k sd) a t p = true) (rt ps : Int32) :
    fn_P_takeBack (iI ((1 - sd : Nat) : Int)) rt ps (bq (mvb b sd a t p)) (kq (kU b k sd a t)) (iI (cod a t p : Int)) (iI (bef (b t) r pp : Int)) = some (iI (sd : Int), iI (r : Int), iI ((pp : Int) - 1), bq b, kq k) := by
  obtain ⟨⟨hsd, hr, hpp⟩, -, -, -, -, -, -⟩ := id h
  obtain ⟨hof, hot⟩ := gs_own hg
  have hat := gs_ne hg
  have hka := kd_of (b a) sd hsd hof
  have h6 := kd_le (b a)
  obtain ⟨hkd, -⟩ := kd_own (b a) sd hsd hof
  have es : (1 : Int32) - iI ((1 - sd : Nat) : Int) = iI (sd : Int) := by
    show iI 1 - _ = _
    rw [iI_sub]; congr 1; omega
  have hbs : (iI (a : Int) / 8 * 8) + (iI (t : Int) - iI (t : Int) / 8 * 8) = iI (bst a t : Int) := by
    simp (disch := omega) only [qq_let, Bool.true_eq_false, iI_z0, iI_bz0, iI_bz1, iI_bz, iI_ckt, Option.bind_some, iI_n, iI_lit, iI_neg, iI_add, iI_sub, iI_mul, iI_ltT, iI_ltF, iI_leT, iI_leF, iI_eqT, iI_eqF, iI_div, iI_cn, iI_cl, iI_in, Int.toNat_natCast, if_true, if_false, bq, iI_md]
    congr 1
  have hbl : bst a t < 64 := by unfold bst; omega
  have hcas : kd (b a) = 6 ∧ isC a t = true → cor a t ≠ a ∧ cor a t ≠ t ∧ (a + t) / 2 ≠ a ∧ (a + t) / 2 ≠ t ∧ (a + t) / 2 ≠ cor a t ∧ (b t).val = 0 ∧ (b ((a + t) / 2)).val = 0 := by
    rintro ⟨c6, cc⟩
    obtain ⟨g1, g2, g3, g4⟩ := gs_cas2 hsd ha ht hg c6 cc
    have hq : hm sd = 4 + 56 * sd := rfl
    refine ⟨?_, ?_, ?_, ?_, ?_, g2, g3⟩ <;> omega
  have hmt : mvb b sd a t p t = pcv b sd a p := by
    by_cases c : kd (b a) = 6 ∧ isC a t = true
    · obtain ⟨q1, q2, q3, q4, q5, -, -⟩ := hcas c
      rw [mv_c c q1 q2, if_neg q2.symm, if_neg q4.symm, if_neg hat.symm, if_pos rfl]
    · rw [mv_n c, if_neg hat.symm, if_pos rfl]
  have m85 : bk_P_takeBack_85 (iI (cod a t p : Int)) (iI (bef (b t) r pp : Int)) (iI (sd : Int)) (iI (r : Int)) (iI ((pp : Int) - 1)) (bq (mvb b sd a t p)) (kq (kU b k sd a t)) (iI (a : Int)) (iI (t : Int)) (iI ((b t).val : Int)) (iI (a : Int)) (iI ((b a).val : Int)) = some (iI (sd : Int), iI (r : Int), iI ((pp : Int) - 1), bq b, kq k) := by
    have hX : ∀ Y : Bd, Y = bU (bU (mvb b sd a t p) a (b a)) t (b t) → Y a = b a := by
      intro Y hY
      rw [hY, bU_ne hat, bU_at]
    have hv : bq (bU (bU (mvb b sd a t p) a (b a)) t (b t)) a - 6 * iI (sd : Int) = iI (kd (b a) : Int) := by
      show iI ((bU (bU (mvb b sd a t p) a (b a)) t (b t) a).val : Int) - iI 6 * iI _ = _
      rw [hX _ rfl, iI_mul, iI_sub, hkd]
    have fin : ∀ Y : Bd, ((¬ (kd (b a) = 6 ∧ isC a t = true)) → Y = b) → ((kd (b a) = 6 ∧ isC a t = true) → bU (bU Y (cor a t) (Y ((a + t) / 2))) ((a + t) / 2) 0 = b) → bk_P_takeBack_156 (iI (cod a t p : Int)) (iI (bef (b t) r pp : Int)) (iI (sd : Int)) (iI (r : Int)) (iI ((pp : Int) - 1)) (bq Y) (kq (kU b k sd a t)) (iI (a : Int)) (iI (t : Int)) (iI (kd (b a) : Int)) = some (iI (sd : Int), iI (r : Int), iI ((pp : Int) - 1), bq b, kq k) := by
      intro Y hY1 hY2
      have hC := p_isC ha ht
      have hco := p_cor ha ht
      have hcl := cor_lt (t := t) ha
      have emid : (iI (a : Int) + iI (t : Int)) / 2 = iI (((a + t) / 2 : Nat) : Int) := by
        rw [iI_add]
        show iI _ / iI 2 = _
        rw [iI_div (by omega) (by omega) (by omega) (by omega)]; rfl
      have hsf := p_shift (b := Y) (c := (a + t) / 2) (m := cor a t) (by omega) hcl
      simp only [bk_P_takeBack_156, bk_P_takeBack_198, qq_let]
      rw [iI_cn (show sd < _ by omega), kq_up, emid]
      by_cases c6 : kd (b a) = 6
      · have hka2 : k sd = a := (((pv_ok h hsd).2.2 a ha (by omega))).symm
        have ek : (fun j => if j = sd then a else kU b k sd a t j) = k := by
          funext j
          by_cases c : j = sd
          · rw [if_pos c, c, hka2]
          · rw [if_neg c, kU, if_neg (fun hh => c hh.2)]
        rw [ek]
        cases cc : isC a t with
        | true =>
          rw [cc] at hC
          rw [hY2 ⟨c6, cc⟩] at hsf
          repeat (first | with_reducible exact hd_b hsf rfl | (refine hd_ck ?_ ?_; focus (simp (disch := omega) only [qq_let, Bool.true_eq_false, iI_z0, iI_bz0, iI_bz1, iI_bz, iI_ckt, Option.bind_some, iI_n, iI_lit, iI_neg, iI_add, iI_sub, iI_mul, iI_ltT, iI_ltF, iI_leT, iI_leF, iI_eqT, iI_eqF, iI_div, iI_cn, iI_cl, iI_in, Int.toNat_natCast, if_true, if_false, bq, hC, hco, not_false_eq_true]; done)) | (refine hd_T ?_ ?_; focus (simp (disch := omega) only [qq_let, Bool.true_eq_false, iI_z0, iI_bz0, iI_bz1, iI_bz, iI_ckt, Option.bind_some, iI_n, iI_lit, iI_neg, iI_add, iI_sub, iI_mul, iI_ltT, iI_ltF, iI_leT, iI_leF, iI_eqT, iI_eqF, iI_div, iI_cn, iI_cl, iI_in, Int.toNat_natCast, if_true, if_false, bq, hC, hco, not_false_eq_true]; done)) | (refine hd_F ?_ ?_; focus (simp (disch := omega) only [qq_let, Bool.true_eq_false, iI_z0, iI_bz0, iI_bz1, iI_bz, iI_ckt, Option.bind_some, iI_n, iI_lit, iI_neg, iI_add, iI_sub, iI_mul, iI_ltT, iI_ltF, iI_leT, iI_leF, iI_eqT, iI_eqF, iI_div, iI_cn, iI_cl, iI_in, Int.toNat_natCast, if_true, if_false, bq, hC, hco, not_false_eq_true]; done)) | (refine hd_b (v := ?_) ?_ ?_; rotate_left; focus (simp (disch := omega) only [qq_let, Bool.true_eq_false, iI_z0, iI_bz0, iI_bz1, iI_bz, iI_ckt, Option.bind_some, iI_n, iI_lit, iI_neg, iI_add, iI_sub, iI_mul, iI_ltT, iI_ltF, iI_leT, iI_leF, iI_eqT, iI_eqF, iI_div, iI_cn, iI_cl, iI_in, Int.toNat_natCast, if_true, if_false, bq, hC, hco, not_false_eq_true]; rfl)) | with_reducible rfl)
        | false =>
          rw [cc] at hC
          rw [hY1 (by rw [cc]; simp)]
          ((repeat (first | (refine hd_ck ?_ ?_; focus (simp (disch := omega) only [qq_let, Bool.true_eq_false, iI_z0, iI_bz0, iI_bz1, iI_bz, iI_ckt, Option.bind_some, iI_n, iI_lit, iI_neg, iI_add, iI_sub, iI_mul, iI_ltT, iI_ltF, iI_leT, iI_leF, iI_eqT, iI_eqF, iI_div, iI_cn, iI_cl, iI_in, Int.toNat_natCast, if_true, if_false, bq, hC, not_false_eq_true]; done)) | (refine hd_T ?_ ?_; focus (simp (disch := omega) only [qq_let, Bool.true_eq_false, iI_z0, iI_bz0, iI_bz1, iI_bz, iI_ckt, Option.bind_some, iI_n, iI_lit, iI_neg, iI_add, iI_sub, iI_mul, iI_ltT, iI_ltF, iI_leT, iI_leF, iI_eqT, iI_eqF, iI_div, iI_cn, iI_cl, iI_in, Int.toNat_natCast, if_true, if_false, bq, hC, not_false_eq_true]; done)) | (refine hd_F ?_ ?_; focus (simp (disch := omega) only [qq_let, Bool.true_eq_false, iI_z0, iI_bz0, iI_bz1, iI_bz, iI_ckt, Option.bind_some, iI_n, iI_lit, iI_neg, iI_add, iI_sub, iI_mul, iI_ltT, iI_ltF, iI_leT, iI_leF, iI_eqT, iI_eqF, iI_div, iI_cn, iI_cl, iI_in, Int.toNat_natCast, if_true, if_false, bq, hC, not_false_eq_true]; done)) | (refine hd_b (v := ?_) ?_ ?_; rotate_left; focus (simp (disch := omega) only [qq_let, Bool.true_eq_false, iI_z0, iI_bz0, iI_bz1, iI_bz, iI_ckt, Option.bind_some, iI_n, iI_lit, iI_neg, iI_add, iI_sub, iI_mul, iI_ltT, iI_ltF, iI_leT, iI_leF, iI_eqT, iI_eqF, iI_div, iI_cn, iI_cl, iI_in, Int.toNat_natCast, if_true, if_false, bq, hC, not_false_eq_true]; rfl)) | with_reducible rfl)); all_goals rfl)
      · have ek : kU b k sd a t = k := by
          funext j
          rw [kU, if_neg (fun hh => c6 hh.1)]
        rw [hY1 (fun hh => c6 hh.1), ek]
        ((repeat (first | (refine hd_ck ?_ ?_; focus (simp (disch := omega) only [qq_let, Bool.true_eq_false, iI_z0, iI_bz0, iI_bz1, iI_bz, iI_ckt, Option.bind_some, iI_n, iI_lit, iI_neg, iI_add, iI_sub, iI_mul, iI_ltT, iI_ltF, iI_leT, iI_leF, iI_eqT, iI_eqF, iI_div, iI_cn, iI_cl, iI_in, Int.toNat_natCast, if_true, if_false, bq, not_false_eq_true]; done)) | (refine hd_T ?_ ?_; focus (simp (disch := omega) only [qq_let, Bool.true_eq_false, iI_z0, iI_bz0, iI_bz1, iI_bz, iI_ckt, Option.bind_some, iI_n, iI_lit, iI_neg, iI_add, iI_sub, iI_mul, iI_ltT, iI_ltF, iI_leT, iI_leF, iI_eqT, iI_eqF, iI_div, iI_cn, iI_cl, iI_in, Int.toNat_natCast, if_true, if_false, bq, not_false_eq_true]; done)) | (refine hd_F ?_ ?_; focus (simp (disch := omega) only [qq_let, Bool.true_eq_false, iI_z0, iI_bz0, iI_bz1, iI_bz, iI_ckt, Option.bind_some, iI_n, iI_lit, iI_neg, iI_add, iI_sub, iI_mul, iI_ltT, iI_ltF, iI_leT, iI_leF, iI_eqT, iI_eqF, iI_div, iI_cn, iI_cl, iI_in, Int.toNat_natCast, if_true, if_false, bq, not_false_eq_true]; done)) | (refine hd_b (v := ?_) ?_ ?_; rotate_left; focus (simp (disch := omega) only [qq_let, Bool.true_eq_false, iI_z0, iI_bz0, iI_bz1, iI_bz, iI_ckt, Option.bind_some, iI_n, iI_lit, iI_neg, iI_add, iI_sub, iI_mul, iI_ltT, iI_ltF, iI_leT, iI_leF, iI_eqT, iI_eqF, iI_div, iI_cn, iI_cl, iI_in, Int.toNat_natCast, if_true, if_false, bq, not_false_eq_true]; rfl)) | with_reducible rfl)); all_goals rfl)
    simp only [bk_P_takeBack_85, qq_let]
    rw [iI_cn (show a < _ by omega), iI_cn (show t < _ by omega), bq_up, bq_up, hv]
    simp only [fn_P_besideOf, Option.bind_some, hbs]
    rw [iI_cn (show bst a t < _ by omega)]
    by_cases c1 : kd (b a) = 1
    · have hnc : ¬ (kd (b a) = 6 ∧ isC a t = true) := fun hh => by omega
      by_cases c2 : a % 8 ≠ t % 8 ∧ (b t).val = 0
      · obtain ⟨g1, g2⟩ := gs_pass h ha ht hg c1 c2.1 c2.2
        have hba : bst a t ≠ a := by unfold bst; omega
        have hbt : bst a t ≠ t := by unfold bst; omega
        have e1 : (1 : Int32) + 6 * (1 - iI (sd : Int)) = iI ((b (bst a t)).val : Int) := by
          rw [g1]
          show iI 1 + iI 6 * (iI 1 - iI _) = _
          rw [iI_sub, iI_mul, iI_add]; congr 1; omega
        rw [e1, bq_up]
        have f := fin (bU (bU (bU (mvb b sd a t p) a (b a)) t (b t)) (bst a t) (b (bst a t))) (fun _ => by
          funext j
          simp only [bU, mv_n hnc]
          by_cases jb : j = bst a t
          · rw [if_pos jb, jb]
          · rw [if_neg jb]
            by_cases jt : j = t
            · rw [if_pos jt, jt]
            · rw [if_neg jt]
              by_cases ja : j = a
              · rw [if_pos ja, ja]
              · rw [if_neg ja, if_neg ja, if_neg jt, if_neg (fun hh => jb hh.2)]) (fun hh => absurd hh hnc)
        repeat (first | with_reducible exact f | (refine hd_ck ?_ ?_; focus (simp (disch := omega) only [qq_let, Bool.true_eq_false, iI_z0, iI_bz0, iI_bz1, iI_bz, iI_ckt, Option.bind_some, iI_n, iI_lit, iI_neg, iI_add, iI_sub, iI_mul, iI_ltT, iI_ltF, iI_leT, iI_leF, iI_eqT, iI_eqF, iI_div, iI_cn, iI_cl, iI_in, Int.toNat_natCast, if_true, if_false, bq, iI_md, not_false_eq_true]; done)) | (refine hd_T ?_ ?_; focus (simp (disch := omega) only [qq_let, Bool.true_eq_false, iI_z0, iI_bz0, iI_bz1, iI_bz, iI_ckt, Option.bind_some, iI_n, iI_lit, iI_neg, iI_add, iI_sub, iI_mul, iI_ltT, iI_ltF, iI_leT, iI_leF, iI_eqT, iI_eqF, iI_div, iI_cn, iI_cl, iI_in, Int.toNat_natCast, if_true, if_false, bq, iI_md, not_false_eq_true]; done)) | (refine hd_F ?_ ?_; focus (simp (disch := omega) only [qq_let, Bool.true_eq_false, iI_z0, iI_bz0, iI_bz1, iI_bz, iI_ckt, Option.bind_some, iI_n, iI_lit, iI_neg, iI_add, iI_sub, iI_mul, iI_ltT, iI_ltF, iI_leT, iI_leF, iI_eqT, iI_eqF, iI_div, iI_cn, iI_cl, iI_in, Int.toNat_natCast, if_true, if_false, bq, iI_md, not_false_eq_true]; done)) | (refine hd_b (v := ?_) ?_ ?_; rotate_left; focus (simp (disch := omega) only [qq_let, Bool.true_eq_false, iI_z0, iI_bz0, iI_bz1, iI_bz, iI_ckt, Option.bind_some, iI_n, iI_lit, iI_neg, iI_add, iI_sub, iI_mul, iI_ltT, iI_ltF, iI_leT, iI_leF, iI_eqT, iI_eqF, iI_div, iI_cn, iI_cl, iI_in, Int.toNat_natCast, if_true, if_false, bq, iI_md, not_false_eq_true]; rfl)) | with_reducible rfl)
      · have f := fin (bU (bU (mvb b sd a t p) a (b a)) t (b t)) (fun _ => by
          funext j
          simp only [bU, mv_n hnc]
          by_cases jt : j = t
          · rw [if_pos jt, jt]
          · rw [if_neg jt]
            by_cases ja : j = a
            · rw [if_pos ja, ja]
            · rw [if_neg ja, if_neg ja, if_neg jt, if_neg (fun hh => c2 hh.1.2)]) (fun hh => absurd hh hnc)
        by_cases c3 : a % 8 = t % 8
        · repeat (first | with_reducible exact f | (refine hd_ck ?_ ?_; focus (simp (disch := omega) only [qq_let, Bool.true_eq_false, iI_z0, iI_bz0, iI_bz1, iI_bz, iI_ckt, Option.bind_some, iI_n, iI_lit, iI_neg, iI_add, iI_sub, iI_mul, iI_ltT, iI_ltF, iI_leT, iI_leF, iI_eqT, iI_eqF, iI_div, iI_cn, iI_cl, iI_in, Int.toNat_natCast, if_true, if_false, bq, iI_md, not_false_eq_true]; done)) | (refine hd_T ?_ ?_; focus (simp (disch := omega) only [qq_let, Bool.true_eq_false, iI_z0, iI_bz0, iI_bz1, iI_bz, iI_ckt, Option.bind_some, iI_n, iI_lit, iI_neg, iI_add, iI_sub, iI_mul, iI_ltT, iI_ltF, iI_leT, iI_leF, iI_eqT, iI_eqF, iI_div, iI_cn, iI_cl, iI_in, Int.toNat_natCast, if_true, if_false, bq, iI_md, not_false_eq_true]; done)) | (refine hd_F ?_ ?_; focus (simp (disch := omega) only [qq_let, Bool.true_eq_false, iI_z0, iI_bz0, iI_bz1, iI_bz, iI_ckt, Option.bind_some, iI_n, iI_lit, iI_neg, iI_add, iI_sub, iI_mul, iI_ltT, iI_ltF, iI_leT, iI_leF, iI_eqT, iI_eqF, iI_div, iI_cn, iI_cl, iI_in, Int.toNat_natCast, if_true, if_false, bq, iI_md, not_false_eq_true]; done)) | (refine hd_b (v := ?_) ?_ ?_; rotate_left; focus (simp (disch := omega) only [qq_let, Bool.true_eq_false, iI_z0, iI_bz0, iI_bz1, iI_bz, iI_ckt, Option.bind_some, iI_n, iI_lit, iI_neg, iI_add, iI_sub, iI_mul, iI_ltT, iI_ltF, iI_leT, iI_leF, iI_eqT, iI_eqF, iI_div, iI_cn, iI_cl, iI_in, Int.toNat_natCast, if_true, if_false, bq, iI_md, not_false_eq_true]; rfl)) | with_reducible rfl)
        · repeat (first | with_reducible exact f | (refine hd_ck ?_ ?_; focus (simp (disch := omega) only [qq_let, Bool.true_eq_false, iI_z0, iI_bz0, iI_bz1, iI_bz, iI_ckt, Option.bind_some, iI_n, iI_lit, iI_neg, iI_add, iI_sub, iI_mul, iI_ltT, iI_ltF, iI_leT, iI_leF, iI_eqT, iI_eqF, iI_div, iI_cn, iI_cl, iI_in, Int.toNat_natCast, if_true, if_false, bq, iI_md, not_false_eq_true]; done)) | (refine hd_T ?_ ?_; focus (simp (disch := omega) only [qq_let, Bool.true_eq_false, iI_z0, iI_bz0, iI_bz1, iI_bz, iI_ckt, Option.bind_some, iI_n, iI_lit, iI_neg, iI_add, iI_sub, iI_mul, iI_ltT, iI_ltF, iI_leT, iI_leF, iI_eqT, iI_eqF, iI_div, iI_cn, iI_cl, iI_in, Int.toNat_natCast, if_true, if_false, bq, iI_md, not_false_eq_true]; done)) | (refine hd_F ?_ ?_; focus (simp (disch := omega) only [qq_let, Bool.true_eq_false, iI_z0, iI_bz0, iI_bz1, iI_bz, iI_ckt, Option.bind_some, iI_n, iI_lit, iI_neg, iI_add, iI_sub, iI_mul, iI_ltT, iI_ltF, iI_leT, iI_leF, iI_eqT, iI_eqF, iI_div, iI_cn, iI_cl, iI_in, Int.toNat_natCast, if_true, if_false, bq, iI_md, not_false_eq_true]; done)) | (refine hd_b (v := ?_) ?_ ?_; rotate_left; focus (simp (disch := omega) only [qq_let, Bool.true_eq_false, iI_z0, iI_bz0, iI_bz1, iI_bz, iI_ckt, Option.bind_some, iI_n, iI_lit, iI_neg, iI_add, iI_sub, iI_mul, iI_ltT, iI_ltF, iI_leT, iI_leF, iI_eqT, iI_eqF, iI_div, iI_cn, iI_cl, iI_in, Int.toNat_natCast, if_true, if_false, bq, iI_md, not_false_eq_true]; rfl)) | with_reducible rfl)
    · have f := fin (bU (bU (mvb b sd a t p) a (b a)) t (b t)) (fun hnc => by
          funext j
          simp only [bU, mv_n hnc]
          by_cases jt : j = t
          · rw [if_pos jt, jt]
          · rw [if_neg jt]
            by_cases ja : j = a
            · rw [if_pos ja, ja]
            · rw [if_neg ja, if_neg ja, if_neg jt, if_neg (fun hh => c1 hh.1.1)]) (fun hc => by
          obtain ⟨q1, q2, q3, q4, q5, q6, q7⟩ := hcas hc
          have z0 : b ((a + t) / 2) = 0 := Fin.ext q7
          funext j
          simp only [bU, mv_c hc q1 q2]
          by_cases jm : j = (a + t) / 2
          · rw [if_pos jm, jm, z0]
          · rw [if_neg jm]
            by_cases jc : j = cor a t
            · rw [if_pos jc, jc, if_neg q4, if_neg q3, if_neg q5, if_pos trivial]
            · rw [if_neg jc]
              by_cases jt : j = t
              · rw [if_pos jt, jt]
              · rw [if_neg jt]
                by_cases ja : j = a
                · rw [if_pos ja, ja]
                · rw [if_neg ja, if_neg jc, if_neg jm, if_neg ja, if_neg jt])
      repeat (first | with_reducible exact f | (refine hd_ck ?_ ?_; focus (simp (disch := omega) only [qq_let, Bool.true_eq_false, iI_z0, iI_bz0, iI_bz1, iI_bz, iI_ckt, Option.bind_some, iI_n, iI_lit, iI_neg, iI_add, iI_sub, iI_mul, iI_ltT, iI_ltF, iI_leT, iI_leF, iI_eqT, iI_eqF, iI_div, iI_cn, iI_cl, iI_in, Int.toNat_natCast, if_true, if_false, bq, not_false_eq_true]; done)) | (refine hd_T ?_ ?_; focus (simp (disch := omega) only [qq_let, Bool.true_eq_false, iI_z0, iI_bz0, iI_bz1, iI_bz, iI_ckt, Option.bind_some, iI_n, iI_lit, iI_neg, iI_add, iI_sub, iI_mul, iI_ltT, iI_ltF, iI_leT, iI_leF, iI_eqT, iI_eqF, iI_div, iI_cn, iI_cl, iI_in, Int.toNat_natCast, if_true, if_false, bq, not_false_eq_true]; done)) | (refine hd_F ?_ ?_; focus (simp (disch := omega) only [qq_let, Bool.true_eq_false, iI_z0, iI_bz0, iI_bz1, iI_bz, iI_ckt, Option.bind_some, iI_n, iI_lit, iI_neg, iI_add, iI_sub, iI_mul, iI_ltT, iI_ltF, iI_leT, iI_leF, iI_eqT, iI_eqF, iI_div, iI_cn, iI_cl, iI_in, Int.toNat_natCast, if_true, if_false, bq, not_false_eq_true]; done)) | (refine hd_b (v := ?_) ?_ ?_; rotate_left; focus (simp (disch := omega) only [qq_let, Bool.true_eq_false, iI_z0, iI_bz0, iI_bz1, iI_bz, iI_ckt, Option.bind_some, iI_n, iI_lit, iI_neg, iI_add, iI_sub, iI_mul, iI_ltT, iI_ltF, iI_leT, iI_leF, iI_eqT, iI_eqF, iI_div, iI_cn, iI_cl, iI_in, Int.toNat_natCast, if_true, if_false, bq, not_false_eq_true]; rfl)) | with_reducible rfl)
  rw [fn_P_takeBack]
  simp only [qq_let, cod_a ha ht hp, cod_t ha ht hp, cod_p ha ht hp, bef_x (b t) hr hpp, bef_r (b t) hr hpp, bef_p (b t) hr hpp, es]
  rw [iI_cn (show t < _ by omega)]
  by_cases c0 : p = 0
  · have e : bq (mvb b sd a t p) t = iI ((b a).val : Int) := by
      show iI ((mvb b sd a t p t).val : Int) = _
      rw [hmt, pcv, if_pos c0]
    rw [e]
    repeat (first | with_reducible exact m85 | (refine hd_ck ?_ ?_; focus (simp (disch := omega) only [qq_let, Bool.true_eq_false, iI_z0, iI_bz0, iI_bz1, iI_bz, iI_ckt, Option.bind_some, iI_n, iI_lit, iI_neg, iI_add, iI_sub, iI_mul, iI_ltT, iI_ltF, iI_leT, iI_leF, iI_eqT, iI_eqF, iI_div, iI_cn, iI_cl, iI_in, Int.toNat_natCast, if_true, if_false, bq, not_false_eq_true]; done)) | (refine hd_T ?_ ?_; focus (simp (disch := omega) only [qq_let, Bool.true_eq_false, iI_z0, iI_bz0, iI_bz1, iI_bz, iI_ckt, Option.bind_some, iI_n, iI_lit, iI_neg, iI_add, iI_sub, iI_mul, iI_ltT, iI_ltF, iI_leT, iI_leF, iI_eqT, iI_eqF, iI_div, iI_cn, iI_cl, iI_in, Int.toNat_natCast, if_true, if_false, bq, not_false_eq_true]; done)) | (refine hd_F ?_ ?_; focus (simp (disch := omega) only [qq_let, Bool.true_eq_false, iI_z0, iI_bz0, iI_bz1, iI_bz, iI_ckt, Option.bind_some, iI_n, iI_lit, iI_neg, iI_add, iI_sub, iI_mul, iI_ltT, iI_ltF, iI_leT, iI_leF, iI_eqT, iI_eqF, iI_div, iI_cn, iI_cl, iI_in, Int.toNat_natCast, if_true, if_false, bq, not_false_eq_true]; done)) | (refine hd_b (v := ?_) ?_ ?_; rotate_left; focus (simp (disch := omega) only [qq_let, Bool.true_eq_false, iI_z0, iI_bz0, iI_bz1, iI_bz, iI_ckt, Option.bind_some, iI_n, iI_lit, iI_neg, iI_add, iI_sub, iI_mul, iI_ltT, iI_ltF, iI_leT, iI_leF, iI_eqT, iI_eqF, iI_div, iI_cn, iI_cl, iI_in, Int.toNat_natCast, if_true, if_false, bq, not_false_eq_true]; rfl)) | with_reducible rfl)
  · have c1 : kd (b a) = 1 := by
      by_cases c1 : kd (b a) = 1
      · exact c1
      · exact absurd (gs_p hg c1) c0
    have e : (1 : Int32) + 6 * iI (sd : Int) = iI ((b a).val : Int) := by
      rw [hka, c1]
      show iI 1 + iI 6 * iI _ = _
      rw [iI_mul, iI_add]; rfl
    rw [e]
    repeat (first | with_reducible exact m85 | (refine hd_ck ?_ ?_; focus (simp (disch := omega) only [qq_let, Bool.true_eq_false, iI_z0, iI_bz0, iI_bz1, iI_bz, iI_ckt, Option.bind_some, iI_n, iI_lit, iI_neg, iI_add, iI_sub, iI_mul, iI_ltT, iI_ltF, iI_leT, iI_leF, iI_eqT, iI_eqF, iI_div, iI_cn, iI_cl, iI_in, Int.toNat_natCast, if_true, if_false, bq, not_false_eq_true]; done)) | (refine hd_T ?_ ?_; focus (simp (disch := omega) only [qq_let, Bool.true_eq_false, iI_z0, iI_bz0, iI_bz1, iI_bz, iI_ckt, Option.bind_some, iI_n, iI_lit, iI_neg, iI_add, iI_sub, iI_mul, iI_ltT, iI_ltF, iI_leT, iI_leF, iI_eqT, iI_eqF, iI_div, iI_cn, iI_cl, iI_in, Int.toNat_natCast, if_true, if_false, bq, not_false_eq_true]; done)) | (refine hd_F ?_ ?_; focus (simp (disch := omega) only [qq_let, Bool.true_eq_false, iI_z0, iI_bz0, iI_bz1, iI_bz, iI_ckt, Option.bind_some, iI_n, iI_lit, iI_neg, iI_add, iI_sub, iI_mul, iI_ltT, iI_ltF, iI_leT, iI_leF, iI_eqT, iI_eqF, iI_div, iI_cn, iI_cl, iI_in, Int.toNat_natCast, if_true, if_false, bq, not_false_eq_true]; done)) | (refine hd_b (v := ?_) ?_ ?_; rotate_left; focus (simp (disch := omega) only [qq_let, Bool.true_eq_false, iI_z0, iI_bz0, iI_bz1, iI_bz, iI_ckt, Option.bind_some, iI_n, iI_lit, iI_neg, iI_add, iI_sub, iI_mul, iI_ltT, iI_ltF, iI_leT, iI_leF, iI_eqT, iI_eqF, iI_div, iI_cn, iI_cl, iI_in, Int.toNat_natCast, if_true, if_false, bq, not_false_eq_true]; rfl)) | with_reducible rfl)
