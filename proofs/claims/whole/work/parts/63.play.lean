/-! play and go: one board -/
def bst (a t : Nat) : Nat := a / 8 * 8 + t % 8
def b1 (b : Bd) (a t : Nat) : Bd := if kd (b a) = 1 ∧ a % 8 ≠ t % 8 ∧ (b t).val = 0 then bU b (bst a t) 0 else b
def pcv (b : Bd) (sd a p : Nat) : Fin 13 := if p = 0 then b a else Fin.ofNat 13 (p + 6 * sd)
def b2 (b : Bd) (sd a t p : Nat) : Bd := bU (bU (b1 b a t) t (pcv b sd a p)) a 0
def cor (a t : Nat) : Nat := a / 8 * 8 + (if t ≤ a then 0 else 7)
def isC (a t : Nat) : Bool := t == a + 2 || a == t + 2
def b3 (b : Bd) (a t : Nat) (x : Bd) : Bd := if kd (b a) = 6 ∧ isC a t = true then bU (bU x ((a + t) / 2) (x (cor a t))) (cor a t) 0 else x
/-- the board after a move -/
def mvb (b : Bd) (sd a t p : Nat) : Bd := b3 b a t (b2 b sd a t p)
def kU (b : Bd) (k : Nat → Nat) (sd a t : Nat) : Nat → Nat := fun j => if kd (b a) = 6 ∧ j = sd then t else k j
def ppn (b : Bd) (a t : Nat) : Nat := if kd (b a) = 1 ∧ (t = a + 16 ∨ a = t + 16) then a % 8 + 1 else 0
theorem b1_a {b : Bd} {a t : Nat} : b1 b a t a = b a := by
  unfold b1
  split
  · rename_i h
    unfold bU bst
    rw [if_neg (by omega)]
  · rfl
theorem bU_at (b : Bd) (i : Nat) (v : Fin 13) : bU b i v i = v := by simp [bU]
theorem bU_ne {b : Bd} {i j : Nat} {v : Fin 13} (h : j ≠ i) : bU b i v j = b j := by simp [bU, h]
theorem bq_u0 (b : Bd) (i : Nat) : upd (bq b) i 0 = bq (bU b i 0) := bq_up b i 0
theorem pcv_v {b : Bd} {sd a p : Nat} (hp : p ≤ 5) (hsd : sd < 2) (h : p ≠ 0) : iI (p : Int) + 6 * iI (sd : Int) = iI ((pcv b sd a p).val : Int) := by
  have e : (pcv b sd a p).val = p + 6 * sd := by
    rw [pcv, if_neg h]
    show (p + 6 * sd) % 13 = _
    omega
  rw [e]
  show iI _ + iI 6 * iI _ = _
  rw [iI_mul, iI_add]; rfl
theorem kq_up (k : Nat → Nat) (i v : Nat) : upd (kq k) i (iI (v : Int)) = kq (fun j => if j = i then v else k j) := by
  funext j
  simp only [upd, kq]
  split <;> rfl
theorem ab16 {a t : Nat} (ha : a < 64) (ht : t < 64) (n : Nat) (hn : 1 ≤ n) (hn2 : n < 100) : ((if (0 : Int32) ≤ (iI (t : Int) - iI (a : Int)) then (iI (t : Int) - iI (a : Int)) else 0 - (iI (t : Int) - iI (a : Int))) = iI (n : Int)) = (t = a + n ∨ a = t + n) := by
  rw [iI_sub]
  by_cases c : a ≤ t
  · rw [if_pos (show (0 : Int32) ≤ iI ((t : Int) - (a : Int)) from by
      show iI 0 ≤ iI _
      rw [iI_le (by omega) (by omega) (by omega) (by omega)]; omega), iI_eq (by omega) (by omega) (by omega) (by omega)]
    apply propext; omega
  · rw [if_neg (show ¬ (0 : Int32) ≤ iI ((t : Int) - (a : Int)) from by
      show ¬ iI 0 ≤ iI _
      rw [iI_le (by omega) (by omega) (by omega) (by omega)]; omega)]
    show (iI 0 - iI _ = _) = _
    rw [iI_sub, iI_eq (by omega) (by omega) (by omega) (by omega)]
    apply propext; omega
theorem p_isC {a t : Nat} (ha : a < 64) (ht : t < 64) : fn_P_isCastling (iI (a : Int)) (iI (t : Int)) = some (ge_z (isC a t)) := by
  have e := ab16 ha ht 2 (by omega) (by omega)
  rw [fn_P_isCastling]
  cases c : isC a t with
  | true =>
    simp only [isC, Bool.or_eq_true, beq_iff_eq] at c
    rw [if_pos (by show _ = iI ((2 : Nat) : Int); rw [e]; exact c)]; rfl
  | false =>
    simp only [isC, Bool.or_eq_false_iff, beq_eq_false_iff_ne] at c
    rw [if_neg (by show ¬ _ = iI ((2 : Nat) : Int); rw [e]; omega)]; rfl
theorem p_cor {a t : Nat} (ha : a < 64) (ht : t < 64) : fn_P_castlingCorner (iI (a : Int)) (iI (t : Int)) = some (iI (cor a t : Int)) := by
  rw [fn_P_castlingCorner]
  by_cases c : t ≤ a
  · repeat (first | (refine hd_ck ?_ ?_; focus (simp (disch := omega) only [qq_let, Bool.true_eq_false, iI_z0, iI_bz0, iI_bz1, iI_bz, iI_ckt, Option.bind_some, iI_n, iI_lit, iI_neg, iI_add, iI_sub, iI_mul, iI_ltT, iI_ltF, iI_leT, iI_leF, iI_eqT, iI_eqF, iI_div, iI_cn, iI_cl, iI_in, Int.toNat_natCast, if_true, if_false, bq, not_false_eq_true]; done)) | (refine hd_T ?_ ?_; focus (simp (disch := omega) only [qq_let, Bool.true_eq_false, iI_z0, iI_bz0, iI_bz1, iI_bz, iI_ckt, Option.bind_some, iI_n, iI_lit, iI_neg, iI_add, iI_sub, iI_mul, iI_ltT, iI_ltF, iI_leT, iI_leF, iI_eqT, iI_eqF, iI_div, iI_cn, iI_cl, iI_in, Int.toNat_natCast, if_true, if_false, bq, not_false_eq_true]; done)) | (refine hd_F ?_ ?_; focus (simp (disch := omega) only [qq_let, Bool.true_eq_false, iI_z0, iI_bz0, iI_bz1, iI_bz, iI_ckt, Option.bind_some, iI_n, iI_lit, iI_neg, iI_add, iI_sub, iI_mul, iI_ltT, iI_ltF, iI_leT, iI_leF, iI_eqT, iI_eqF, iI_div, iI_cn, iI_cl, iI_in, Int.toNat_natCast, if_true, if_false, bq, not_false_eq_true]; done)) | (refine hd_b (v := ?_) ?_ ?_; rotate_left; focus (simp (disch := omega) only [qq_let, Bool.true_eq_false, iI_z0, iI_bz0, iI_bz1, iI_bz, iI_ckt, Option.bind_some, iI_n, iI_lit, iI_neg, iI_add, iI_sub, iI_mul, iI_ltT, iI_ltF, iI_leT, iI_leF, iI_eqT, iI_eqF, iI_div, iI_cn, iI_cl, iI_in, Int.toNat_natCast, if_true, if_false, bq, not_false_eq_true]; rfl)) | with_reducible rfl)
    show some (iI (a : Int) / 8 * 8 + 0) = _
    simp (disch := omega) only [qq_let, Bool.true_eq_false, iI_z0, iI_bz0, iI_bz1, iI_bz, iI_ckt, Option.bind_some, iI_n, iI_lit, iI_neg, iI_add, iI_sub, iI_mul, iI_ltT, iI_ltF, iI_leT, iI_leF, iI_eqT, iI_eqF, iI_div, iI_cn, iI_cl, iI_in, Int.toNat_natCast, if_true, if_false, bq]
    rw [cor, if_pos c]
    congr 2
  · repeat (first | (refine hd_ck ?_ ?_; focus (simp (disch := omega) only [qq_let, Bool.true_eq_false, iI_z0, iI_bz0, iI_bz1, iI_bz, iI_ckt, Option.bind_some, iI_n, iI_lit, iI_neg, iI_add, iI_sub, iI_mul, iI_ltT, iI_ltF, iI_leT, iI_leF, iI_eqT, iI_eqF, iI_div, iI_cn, iI_cl, iI_in, Int.toNat_natCast, if_true, if_false, bq, not_false_eq_true]; done)) | (refine hd_T ?_ ?_; focus (simp (disch := omega) only [qq_let, Bool.true_eq_false, iI_z0, iI_bz0, iI_bz1, iI_bz, iI_ckt, Option.bind_some, iI_n, iI_lit, iI_neg, iI_add, iI_sub, iI_mul, iI_ltT, iI_ltF, iI_leT, iI_leF, iI_eqT, iI_eqF, iI_div, iI_cn, iI_cl, iI_in, Int.toNat_natCast, if_true, if_false, bq, not_false_eq_true]; done)) | (refine hd_F ?_ ?_; focus (simp (disch := omega) only [qq_let, Bool.true_eq_false, iI_z0, iI_bz0, iI_bz1, iI_bz, iI_ckt, Option.bind_some, iI_n, iI_lit, iI_neg, iI_add, iI_sub, iI_mul, iI_ltT, iI_ltF, iI_leT, iI_leF, iI_eqT, iI_eqF, iI_div, iI_cn, iI_cl, iI_in, Int.toNat_natCast, if_true, if_false, bq, not_false_eq_true]; done)) | (refine hd_b (v := ?_) ?_ ?_; rotate_left; focus (simp (disch := omega) only [qq_let, Bool.true_eq_false, iI_z0, iI_bz0, iI_bz1, iI_bz, iI_ckt, Option.bind_some, iI_n, iI_lit, iI_neg, iI_add, iI_sub, iI_mul, iI_ltT, iI_ltF, iI_leT, iI_leF, iI_eqT, iI_eqF, iI_div, iI_cn, iI_cl, iI_in, Int.toNat_natCast, if_true, if_false, bq, not_false_eq_true]; rfl)) | with_reducible rfl)
    show some (iI (a : Int) / 8 * 8 + 7) = _
    simp (disch := omega) only [qq_let, Bool.true_eq_false, iI_z0, iI_bz0, iI_bz1, iI_bz, iI_ckt, Option.bind_some, iI_n, iI_lit, iI_neg, iI_add, iI_sub, iI_mul, iI_ltT, iI_ltF, iI_leT, iI_leF, iI_eqT, iI_eqF, iI_div, iI_cn, iI_cl, iI_in, Int.toNat_natCast, if_true, if_false, bq]
    rw [cor, if_neg c]
    congr 2
theorem cor_lt {a t : Nat} (ha : a < 64) : cor a t < 64 := by unfold cor; split <;> omega
theorem p_shift {b : Bd} {c m : Nat} (hc : c < 64) (hm : m < 64) : fn_P_shift (bq b) (iI (c : Int)) (iI (m : Int)) = some (bq (bU (bU b m (b c)) c 0)) := by
  rw [fn_P_shift]
  repeat (first | (refine hd_ck ?_ ?_; focus (simp (disch := omega) only [qq_let, Bool.true_eq_false, iI_z0, iI_bz0, iI_bz1, iI_bz, iI_ckt, Option.bind_some, iI_n, iI_lit, iI_neg, iI_add, iI_sub, iI_mul, iI_ltT, iI_ltF, iI_leT, iI_leF, iI_eqT, iI_eqF, iI_div, iI_cn, iI_cl, iI_in, Int.toNat_natCast, if_true, if_false, bq, not_false_eq_true]; done)) | (refine hd_T ?_ ?_; focus (simp (disch := omega) only [qq_let, Bool.true_eq_false, iI_z0, iI_bz0, iI_bz1, iI_bz, iI_ckt, Option.bind_some, iI_n, iI_lit, iI_neg, iI_add, iI_sub, iI_mul, iI_ltT, iI_ltF, iI_leT, iI_leF, iI_eqT, iI_eqF, iI_div, iI_cn, iI_cl, iI_in, Int.toNat_natCast, if_true, if_false, bq, not_false_eq_true]; done)) | (refine hd_F ?_ ?_; focus (simp (disch := omega) only [qq_let, Bool.true_eq_false, iI_z0, iI_bz0, iI_bz1, iI_bz, iI_ckt, Option.bind_some, iI_n, iI_lit, iI_neg, iI_add, iI_sub, iI_mul, iI_ltT, iI_ltF, iI_leT, iI_leF, iI_eqT, iI_eqF, iI_div, iI_cn, iI_cl, iI_in, Int.toNat_natCast, if_true, if_false, bq, not_false_eq_true]; done)) | (refine hd_b (v := ?_) ?_ ?_; rotate_left; focus (simp (disch := omega) only [qq_let, Bool.true_eq_false, iI_z0, iI_bz0, iI_bz1, iI_bz, iI_ckt, Option.bind_some, iI_n, iI_lit, iI_neg, iI_add, iI_sub, iI_mul, iI_ltT, iI_ltF, iI_leT, iI_leF, iI_eqT, iI_eqF, iI_div, iI_cn, iI_cl, iI_in, Int.toNat_natCast, if_true, if_false, bq, not_false_eq_true]; rfl)) | with_reducible rfl)
  simp only [qq_let]
  rw [iI_cn (by omega), iI_cn (by omega)]
  show some (upd (upd (bq b) m (iI ((b c).val : Int))) c 0) = _
  rw [bq_up, bq_u0]
theorem p_173 {b x : Bd} {sd r pp a t : Nat} {kg : Nat → Int32} (hsd : sd < 2) (hr : r < 16) (ha : a < 64) (ht : t < 64) (c bf : Int32) (ps : Int32) : bk_P_play_173 c (iI (sd : Int)) (iI (r : Int)) ps (bq x) kg (iI (a : Int)) (iI (t : Int)) bf (iI (kd (b a) : Int)) = some (bf, iI ((1 - sd : Nat) : Int), iI (rr r a t : Int), iI ((ppn b a t : Int) - 1), bq x, kg) := by
  have h6 := kd_le (b a)
  have h1 := p_tied a ha
  have h2 := p_tied t ht
  have e := ab16 ha ht 16 (by omega) (by omega)
  have es : (1 : Int32) - iI (sd : Int) = iI ((1 - sd : Nat) : Int) := by
    show iI 1 - _ = _
    rw [iI_sub]; exact iI_mi (h := 1) (by omega)
  have emd : iI (a : Int) - iI (a : Int) / 8 * 8 = iI (((a % 8 + 1 : Nat) : Int) - 1) := by
    simp (disch := omega) only [qq_let, Bool.true_eq_false, iI_z0, iI_bz0, iI_bz1, iI_bz, iI_ckt, Option.bind_some, iI_n, iI_lit, iI_neg, iI_add, iI_sub, iI_mul, iI_ltT, iI_ltF, iI_leT, iI_leF, iI_eqT, iI_eqF, iI_div, iI_cn, iI_cl, iI_in, Int.toNat_natCast, if_true, if_false, bq, iI_md]
  rw [bk_P_play_173, h1]
  simp only [Option.bind_some]
  rw [h2]
  simp only [Option.bind_some, qq_let, rr_e hr ha ht, bk_P_play_218, bk_P_play_219, es, emd]
  by_cases c1 : kd (b a) = 1
  · rw [if_pos (by simp (disch := omega) only [qq_let, Bool.true_eq_false, iI_z0, iI_bz0, iI_bz1, iI_bz, iI_ckt, Option.bind_some, iI_n, iI_lit, iI_neg, iI_add, iI_sub, iI_mul, iI_ltT, iI_ltF, iI_leT, iI_leF, iI_eqT, iI_eqF, iI_div, iI_cn, iI_cl, iI_in, Int.toNat_natCast, if_true, if_false, bq])]
    by_cases c2 : t = a + 16 ∨ a = t + 16
    · rw [if_pos (by show _ = iI ((16 : Nat) : Int); rw [e]; exact c2), ppn, if_pos ⟨c1, c2⟩]
    · rw [if_neg (by show ¬ _ = iI ((16 : Nat) : Int); rw [e]; exact c2), ppn, if_neg (fun h => c2 h.2)]
      rfl
  · rw [if_neg (by simp (disch := omega) only [qq_let, Bool.true_eq_false, iI_z0, iI_bz0, iI_bz1, iI_bz, iI_ckt, Option.bind_some, iI_n, iI_lit, iI_neg, iI_add, iI_sub, iI_mul, iI_ltT, iI_ltF, iI_leT, iI_leF, iI_eqT, iI_eqF, iI_div, iI_cn, iI_cl, iI_in, Int.toNat_natCast, if_true, if_false, bq, not_false_eq_true]), ppn, if_neg (fun h => c1 h.1)]
    rfl
theorem p_126 {b x : Bd} {sd r pp a t : Nat} {k : Nat → Nat} (v : Fin 13) (hsd : sd < 2) (hr : r < 16) (ha : a < 64) (ht : t < 64) (c bf : Int32) (ps : Int32) : bk_P_play_126 c (iI (sd : Int)) (iI (r : Int)) ps (bq x) (kq k) (iI (a : Int)) (iI (t : Int)) bf (iI (kd (b a) : Int)) (iI (t : Int)) (iI (v.val : Int)) = some (bf, iI ((1 - sd : Nat) : Int), iI (rr r a t : Int), iI ((ppn b a t : Int) - 1), bq (b3 b a t (bU (bU x t v) a 0)), kq (kU b k sd a t)) := by
  have h6 := kd_le (b a)
  have hC := p_isC ha ht
  have hco := p_cor ha ht
  have hcl := cor_lt (t := t) ha
  have hsf := p_shift (b := bU (bU x t v) a 0) (c := cor a t) (m := (a + t) / 2) hcl (by omega)
  have emid : (iI (a : Int) + iI (t : Int)) / 2 = iI (((a + t) / 2 : Nat) : Int) := by
    rw [iI_add]
    show iI _ / iI 2 = _
    rw [iI_div (by omega) (by omega) (by omega) (by omega)]; rfl
  rw [bk_P_play_126]
  simp only [qq_let]
  rw [iI_cn (show t < _ by omega), iI_cn (show a < _ by omega), iI_cn (show sd < _ by omega), bq_up, bq_u0, kq_up, emid]
  by_cases c6 : kd (b a) = 6
  · have ek : kU b k sd a t = fun j => if j = sd then t else k j := by
      funext j
      simp [kU, c6]
    rw [ek]
    cases cc : isC a t with
    | true =>
      rw [cc] at hC
      have eb : b3 b a t (bU (bU x t v) a 0) = bU (bU (bU (bU x t v) a 0) ((a + t) / 2) (bU (bU x t v) a 0 (cor a t))) (cor a t) 0 := by
        rw [b3, if_pos ⟨c6, cc⟩]
      rw [eb]
      have m173 := p_173 (b := b) (x := bU (bU (bU (bU x t v) a 0) ((a + t) / 2) (bU (bU x t v) a 0 (cor a t))) (cor a t) 0) (sd := sd) (r := r) (pp := pp) (a := a) (t := t) (kg := kq (fun j => if j = sd then t else k j)) hsd hr ha ht c bf ps
      repeat (first | with_reducible exact hd_b hsf m173 | (refine hd_ck ?_ ?_; focus (simp (disch := omega) only [qq_let, Bool.true_eq_false, iI_z0, iI_bz0, iI_bz1, iI_bz, iI_ckt, Option.bind_some, iI_n, iI_lit, iI_neg, iI_add, iI_sub, iI_mul, iI_ltT, iI_ltF, iI_leT, iI_leF, iI_eqT, iI_eqF, iI_div, iI_cn, iI_cl, iI_in, Int.toNat_natCast, if_true, if_false, bq, hC, hco, not_false_eq_true]; done)) | (refine hd_T ?_ ?_; focus (simp (disch := omega) only [qq_let, Bool.true_eq_false, iI_z0, iI_bz0, iI_bz1, iI_bz, iI_ckt, Option.bind_some, iI_n, iI_lit, iI_neg, iI_add, iI_sub, iI_mul, iI_ltT, iI_ltF, iI_leT, iI_leF, iI_eqT, iI_eqF, iI_div, iI_cn, iI_cl, iI_in, Int.toNat_natCast, if_true, if_false, bq, hC, hco, not_false_eq_true]; done)) | (refine hd_F ?_ ?_; focus (simp (disch := omega) only [qq_let, Bool.true_eq_false, iI_z0, iI_bz0, iI_bz1, iI_bz, iI_ckt, Option.bind_some, iI_n, iI_lit, iI_neg, iI_add, iI_sub, iI_mul, iI_ltT, iI_ltF, iI_leT, iI_leF, iI_eqT, iI_eqF, iI_div, iI_cn, iI_cl, iI_in, Int.toNat_natCast, if_true, if_false, bq, hC, hco, not_false_eq_true]; done)) | (refine hd_b (v := ?_) ?_ ?_; rotate_left; focus (simp (disch := omega) only [qq_let, Bool.true_eq_false, iI_z0, iI_bz0, iI_bz1, iI_bz, iI_ckt, Option.bind_some, iI_n, iI_lit, iI_neg, iI_add, iI_sub, iI_mul, iI_ltT, iI_ltF, iI_leT, iI_leF, iI_eqT, iI_eqF, iI_div, iI_cn, iI_cl, iI_in, Int.toNat_natCast, if_true, if_false, bq, hC, hco, not_false_eq_true]; rfl)) | with_reducible rfl)
    | false =>
      rw [cc] at hC
      have eb : b3 b a t (bU (bU x t v) a 0) = bU (bU x t v) a 0 := by
        rw [b3, if_neg (by rw [cc]; simp)]
      rw [eb]
      have m173 := p_173 (b := b) (x := bU (bU x t v) a 0) (sd := sd) (r := r) (pp := pp) (a := a) (t := t) (kg := kq (fun j => if j = sd then t else k j)) hsd hr ha ht c bf ps
      repeat (first | with_reducible exact m173 | (refine hd_ck ?_ ?_; focus (simp (disch := omega) only [qq_let, Bool.true_eq_false, iI_z0, iI_bz0, iI_bz1, iI_bz, iI_ckt, Option.bind_some, iI_n, iI_lit, iI_neg, iI_add, iI_sub, iI_mul, iI_ltT, iI_ltF, iI_leT, iI_leF, iI_eqT, iI_eqF, iI_div, iI_cn, iI_cl, iI_in, Int.toNat_natCast, if_true, if_false, bq, hC, not_false_eq_true]; done)) | (refine hd_T ?_ ?_; focus (simp (disch := omega) only [qq_let, Bool.true_eq_false, iI_z0, iI_bz0, iI_bz1, iI_bz, iI_ckt, Option.bind_some, iI_n, iI_lit, iI_neg, iI_add, iI_sub, iI_mul, iI_ltT, iI_ltF, iI_leT, iI_leF, iI_eqT, iI_eqF, iI_div, iI_cn, iI_cl, iI_in, Int.toNat_natCast, if_true, if_false, bq, hC, not_false_eq_true]; done)) | (refine hd_F ?_ ?_; focus (simp (disch := omega) only [qq_let, Bool.true_eq_false, iI_z0, iI_bz0, iI_bz1, iI_bz, iI_ckt, Option.bind_some, iI_n, iI_lit, iI_neg, iI_add, iI_sub, iI_mul, iI_ltT, iI_ltF, iI_leT, iI_leF, iI_eqT, iI_eqF, iI_div, iI_cn, iI_cl, iI_in, Int.toNat_natCast, if_true, if_false, bq, hC, not_false_eq_true]; done)) | (refine hd_b (v := ?_) ?_ ?_; rotate_left; focus (simp (disch := omega) only [qq_let, Bool.true_eq_false, iI_z0, iI_bz0, iI_bz1, iI_bz, iI_ckt, Option.bind_some, iI_n, iI_lit, iI_neg, iI_add, iI_sub, iI_mul, iI_ltT, iI_ltF, iI_leT, iI_leF, iI_eqT, iI_eqF, iI_div, iI_cn, iI_cl, iI_in, Int.toNat_natCast, if_true, if_false, bq, hC, not_false_eq_true]; rfl)) | with_reducible rfl)
  · have ek : kU b k sd a t = k := by
      funext j
      simp [kU, c6]
    have eb : b3 b a t (bU (bU x t v) a 0) = bU (bU x t v) a 0 := by
      rw [b3, if_neg (fun h => c6 h.1)]
    rw [ek, eb]
    have m173 := p_173 (b := b) (x := bU (bU x t v) a 0) (sd := sd) (r := r) (pp := pp) (a := a) (t := t) (kg := kq k) hsd hr ha ht c bf ps
    repeat (first | with_reducible exact m173 | (refine hd_ck ?_ ?_; focus (simp (disch := omega) only [qq_let, Bool.true_eq_false, iI_z0, iI_bz0, iI_bz1, iI_bz, iI_ckt, Option.bind_some, iI_n, iI_lit, iI_neg, iI_add, iI_sub, iI_mul, iI_ltT, iI_ltF, iI_leT, iI_leF, iI_eqT, iI_eqF, iI_div, iI_cn, iI_cl, iI_in, Int.toNat_natCast, if_true, if_false, bq, not_false_eq_true]; done)) | (refine hd_T ?_ ?_; focus (simp (disch := omega) only [qq_let, Bool.true_eq_false, iI_z0, iI_bz0, iI_bz1, iI_bz, iI_ckt, Option.bind_some, iI_n, iI_lit, iI_neg, iI_add, iI_sub, iI_mul, iI_ltT, iI_ltF, iI_leT, iI_leF, iI_eqT, iI_eqF, iI_div, iI_cn, iI_cl, iI_in, Int.toNat_natCast, if_true, if_false, bq, not_false_eq_true]; done)) | (refine hd_F ?_ ?_; focus (simp (disch := omega) only [qq_let, Bool.true_eq_false, iI_z0, iI_bz0, iI_bz1, iI_bz, iI_ckt, Option.bind_some, iI_n, iI_lit, iI_neg, iI_add, iI_sub, iI_mul, iI_ltT, iI_ltF, iI_leT, iI_leF, iI_eqT, iI_eqF, iI_div, iI_cn, iI_cl, iI_in, Int.toNat_natCast, if_true, if_false, bq, not_false_eq_true]; done)) | (refine hd_b (v := ?_) ?_ ?_; rotate_left; focus (simp (disch := omega) only [qq_let, Bool.true_eq_false, iI_z0, iI_bz0, iI_bz1, iI_bz, iI_ckt, Option.bind_some, iI_n, iI_lit, iI_neg, iI_add, iI_sub, iI_mul, iI_ltT, iI_ltF, iI_leT, iI_leF, iI_eqT, iI_eqF, iI_div, iI_cn, iI_cl, iI_in, Int.toNat_natCast, if_true, if_false, bq, not_false_eq_true]; rfl)) | with_reducible rfl)
theorem p_play {b : Bd} {sd r pp a t p : Nat} {k : Nat → Nat} (hsd : sd < 2) (hr : r < 16) (hpp : pp < 9) (ha : a < 64) (ht : t < 64) (hp : p < 6) (hof : isOf (b a) sd = true) :
    fn_P_play (iI (sd : Int)) (iI (r : Int)) (iI ((pp : Int) - 1)) (bq b) (kq k) (iI (cod a t p : Int)) = some (iI (bef (b t) r pp : Int), iI ((1 - sd : Nat) : Int), iI (rr r a t : Int), iI ((ppn b a t : Int) - 1), bq (mvb b sd a t p), kq (kU b k sd a t)) := by
  have h6 := kd_le (b a)
  obtain ⟨hkd, -⟩ := kd_own (b a) sd hsd hof
  have hv : bq b a - 6 * iI (sd : Int) = iI (kd (b a) : Int) := by
    show iI _ - iI 6 * iI _ = _
    rw [iI_mul, iI_sub, hkd]
  have hbf := bef_e (b t) r hr pp hpp
  have hbs : (iI (a : Int) / 8 * 8) + (iI (t : Int) - iI (t : Int) / 8 * 8) = iI (bst a t : Int) := by
    simp (disch := omega) only [qq_let, Bool.true_eq_false, iI_z0, iI_bz0, iI_bz1, iI_bz, iI_ckt, Option.bind_some, iI_n, iI_lit, iI_neg, iI_add, iI_sub, iI_mul, iI_ltT, iI_ltF, iI_leT, iI_leF, iI_eqT, iI_eqF, iI_div, iI_cn, iI_cl, iI_in, Int.toNat_natCast, if_true, if_false, bq, iI_md]
    congr 1
  have hbl : bst a t < 64 := by unfold bst; omega
  have m97 : ∀ x : Bd, x a = b a → bk_P_play_97 (iI (cod a t p : Int)) (iI (sd : Int)) (iI (r : Int)) (iI ((pp : Int) - 1)) (bq x) (kq k) (iI (a : Int)) (iI (t : Int)) (iI (p : Int)) (iI (bef (b t) r pp : Int)) (iI (kd (b a) : Int)) = some (iI (bef (b t) r pp : Int), iI ((1 - sd : Nat) : Int), iI (rr r a t : Int), iI ((ppn b a t : Int) - 1), bq (b3 b a t (bU (bU x t (pcv b sd a p)) a 0)), kq (kU b k sd a t)) := by
    intro x hx
    have m126 := p_126 (b := b) (x := x) (sd := sd) (r := r) (pp := pp) (a := a) (t := t) (k := k) (pcv b sd a p) hsd hr ha ht (iI (cod a t p : Int)) (iI (bef (b t) r pp : Int)) (iI ((pp : Int) - 1))
    rw [bk_P_play_97, iI_cn (show a < _ by omega)]
    by_cases c0 : p = 0
    · have ex : bq x a = iI ((pcv b sd a p).val : Int) := by
        rw [pcv, if_pos c0]
        show iI ((x a).val : Int) = _
        rw [hx]
      rw [ex]
      repeat (first | with_reducible exact m126 | (refine hd_ck ?_ ?_; focus (simp (disch := omega) only [qq_let, Bool.true_eq_false, iI_z0, iI_bz0, iI_bz1, iI_bz, iI_ckt, Option.bind_some, iI_n, iI_lit, iI_neg, iI_add, iI_sub, iI_mul, iI_ltT, iI_ltF, iI_leT, iI_leF, iI_eqT, iI_eqF, iI_div, iI_cn, iI_cl, iI_in, Int.toNat_natCast, if_true, if_false, bq, not_false_eq_true]; done)) | (refine hd_T ?_ ?_; focus (simp (disch := omega) only [qq_let, Bool.true_eq_false, iI_z0, iI_bz0, iI_bz1, iI_bz, iI_ckt, Option.bind_some, iI_n, iI_lit, iI_neg, iI_add, iI_sub, iI_mul, iI_ltT, iI_ltF, iI_leT, iI_leF, iI_eqT, iI_eqF, iI_div, iI_cn, iI_cl, iI_in, Int.toNat_natCast, if_true, if_false, bq, not_false_eq_true]; done)) | (refine hd_F ?_ ?_; focus (simp (disch := omega) only [qq_let, Bool.true_eq_false, iI_z0, iI_bz0, iI_bz1, iI_bz, iI_ckt, Option.bind_some, iI_n, iI_lit, iI_neg, iI_add, iI_sub, iI_mul, iI_ltT, iI_ltF, iI_leT, iI_leF, iI_eqT, iI_eqF, iI_div, iI_cn, iI_cl, iI_in, Int.toNat_natCast, if_true, if_false, bq, not_false_eq_true]; done)) | (refine hd_b (v := ?_) ?_ ?_; rotate_left; focus (simp (disch := omega) only [qq_let, Bool.true_eq_false, iI_z0, iI_bz0, iI_bz1, iI_bz, iI_ckt, Option.bind_some, iI_n, iI_lit, iI_neg, iI_add, iI_sub, iI_mul, iI_ltT, iI_ltF, iI_leT, iI_leF, iI_eqT, iI_eqF, iI_div, iI_cn, iI_cl, iI_in, Int.toNat_natCast, if_true, if_false, bq, not_false_eq_true]; rfl)) | with_reducible rfl)
    · rw [pcv_v (b := b) (a := a) (by omega) hsd c0]
      repeat (first | with_reducible exact m126 | (refine hd_ck ?_ ?_; focus (simp (disch := omega) only [qq_let, Bool.true_eq_false, iI_z0, iI_bz0, iI_bz1, iI_bz, iI_ckt, Option.bind_some, iI_n, iI_lit, iI_neg, iI_add, iI_sub, iI_mul, iI_ltT, iI_ltF, iI_leT, iI_leF, iI_eqT, iI_eqF, iI_div, iI_cn, iI_cl, iI_in, Int.toNat_natCast, if_true, if_false, bq, not_false_eq_true]; done)) | (refine hd_T ?_ ?_; focus (simp (disch := omega) only [qq_let, Bool.true_eq_false, iI_z0, iI_bz0, iI_bz1, iI_bz, iI_ckt, Option.bind_some, iI_n, iI_lit, iI_neg, iI_add, iI_sub, iI_mul, iI_ltT, iI_ltF, iI_leT, iI_leF, iI_eqT, iI_eqF, iI_div, iI_cn, iI_cl, iI_in, Int.toNat_natCast, if_true, if_false, bq, not_false_eq_true]; done)) | (refine hd_F ?_ ?_; focus (simp (disch := omega) only [qq_let, Bool.true_eq_false, iI_z0, iI_bz0, iI_bz1, iI_bz, iI_ckt, Option.bind_some, iI_n, iI_lit, iI_neg, iI_add, iI_sub, iI_mul, iI_ltT, iI_ltF, iI_leT, iI_leF, iI_eqT, iI_eqF, iI_div, iI_cn, iI_cl, iI_in, Int.toNat_natCast, if_true, if_false, bq, not_false_eq_true]; done)) | (refine hd_b (v := ?_) ?_ ?_; rotate_left; focus (simp (disch := omega) only [qq_let, Bool.true_eq_false, iI_z0, iI_bz0, iI_bz1, iI_bz, iI_ckt, Option.bind_some, iI_n, iI_lit, iI_neg, iI_add, iI_sub, iI_mul, iI_ltT, iI_ltF, iI_leT, iI_leF, iI_eqT, iI_eqF, iI_div, iI_cn, iI_cl, iI_in, Int.toNat_natCast, if_true, if_false, bq, not_false_eq_true]; rfl)) | with_reducible rfl)
  have e1 : fn_P_play (iI (sd : Int)) (iI (r : Int)) (iI ((pp : Int) - 1)) (bq b) (kq k) (iI (cod a t p : Int)) = (if iI (kd (b a) : Int) = 1 then (if (iI (a : Int) - iI (a : Int) / 8 * 8) = (iI (t : Int) - iI (t : Int) / 8 * 8) then (bk_P_play_97 (iI (cod a t p : Int)) (iI (sd : Int)) (iI (r : Int)) (iI ((pp : Int) - 1)) (bq b) (kq k) (iI (a : Int)) (iI (t : Int)) (iI (p : Int)) (iI (bef (b t) r pp : Int)) (iI (kd (b a) : Int))) else (qq_ck (qq_in (iI (t : Int)) 64) <| if (bq b t) = 0 then (qq_ck (qq_in (iI (bst a t : Int)) 64) <| bk_P_play_97 (iI (cod a t p : Int)) (iI (sd : Int)) (iI (r : Int)) (iI ((pp : Int) - 1)) (upd (bq b) (bst a t) 0) (kq k) (iI (a : Int)) (iI (t : Int)) (iI (p : Int)) (iI (bef (b t) r pp : Int)) (iI (kd (b a) : Int))) else (bk_P_play_97 (iI (cod a t p : Int)) (iI (sd : Int)) (iI (r : Int)) (iI ((pp : Int) - 1)) (bq b) (kq k) (iI (a : Int)) (iI (t : Int)) (iI (p : Int)) (iI (bef (b t) r pp : Int)) (iI (kd (b a) : Int))))) else (bk_P_play_97 (iI (cod a t p : Int)) (iI (sd : Int)) (iI (r : Int)) (iI ((pp : Int) - 1)) (bq b) (kq k) (iI (a : Int)) (iI (t : Int)) (iI (p : Int)) (iI (bef (b t) r pp : Int)) (iI (kd (b a) : Int)))) := by
    rw [fn_P_play]
    simp only [qq_let, cod_a ha ht hp, cod_t ha ht hp, cod_p ha ht hp, fn_P_besideOf, Option.bind_some, hbs]
    rw [iI_cn (show t < _ by omega), iI_cn (show a < _ by omega), iI_cn (show bst a t < _ by omega), hv]
    rw [show bq b t = iI ((b t).val : Int) from rfl, hbf, iI_in (by omega) (by omega) (by omega), iI_in (by omega) (by omega) (by omega)]
    rfl
  rw [e1, mvb, b2]
  by_cases c1 : kd (b a) = 1
  · by_cases c2 : a % 8 = t % 8
    · rw [show b1 b a t = b from if_neg (fun h => h.2.1 c2)]
      repeat (first | with_reducible exact m97 b rfl | (refine hd_ck ?_ ?_; focus (simp (disch := omega) only [qq_let, Bool.true_eq_false, iI_z0, iI_bz0, iI_bz1, iI_bz, iI_ckt, Option.bind_some, iI_n, iI_lit, iI_neg, iI_add, iI_sub, iI_mul, iI_ltT, iI_ltF, iI_leT, iI_leF, iI_eqT, iI_eqF, iI_div, iI_cn, iI_cl, iI_in, Int.toNat_natCast, if_true, if_false, bq, iI_md, not_false_eq_true]; done)) | (refine hd_T ?_ ?_; focus (simp (disch := omega) only [qq_let, Bool.true_eq_false, iI_z0, iI_bz0, iI_bz1, iI_bz, iI_ckt, Option.bind_some, iI_n, iI_lit, iI_neg, iI_add, iI_sub, iI_mul, iI_ltT, iI_ltF, iI_leT, iI_leF, iI_eqT, iI_eqF, iI_div, iI_cn, iI_cl, iI_in, Int.toNat_natCast, if_true, if_false, bq, iI_md, not_false_eq_true]; done)) | (refine hd_F ?_ ?_; focus (simp (disch := omega) only [qq_let, Bool.true_eq_false, iI_z0, iI_bz0, iI_bz1, iI_bz, iI_ckt, Option.bind_some, iI_n, iI_lit, iI_neg, iI_add, iI_sub, iI_mul, iI_ltT, iI_ltF, iI_leT, iI_leF, iI_eqT, iI_eqF, iI_div, iI_cn, iI_cl, iI_in, Int.toNat_natCast, if_true, if_false, bq, iI_md, not_false_eq_true]; done)) | (refine hd_b (v := ?_) ?_ ?_; rotate_left; focus (simp (disch := omega) only [qq_let, Bool.true_eq_false, iI_z0, iI_bz0, iI_bz1, iI_bz, iI_ckt, Option.bind_some, iI_n, iI_lit, iI_neg, iI_add, iI_sub, iI_mul, iI_ltT, iI_ltF, iI_leT, iI_leF, iI_eqT, iI_eqF, iI_div, iI_cn, iI_cl, iI_in, Int.toNat_natCast, if_true, if_false, bq, iI_md, not_false_eq_true]; rfl)) | with_reducible rfl)
    · by_cases c3 : (b t).val = 0
      · have eb : b1 b a t = bU b (bst a t) 0 := if_pos ⟨c1, c2, c3⟩
        have hx : bU b (bst a t) 0 a = b a := by rw [← eb]; exact b1_a
        rw [eb, bq_u0]
        repeat (first | with_reducible exact m97 _ hx | (refine hd_ck ?_ ?_; focus (simp (disch := omega) only [qq_let, Bool.true_eq_false, iI_z0, iI_bz0, iI_bz1, iI_bz, iI_ckt, Option.bind_some, iI_n, iI_lit, iI_neg, iI_add, iI_sub, iI_mul, iI_ltT, iI_ltF, iI_leT, iI_leF, iI_eqT, iI_eqF, iI_div, iI_cn, iI_cl, iI_in, Int.toNat_natCast, if_true, if_false, bq, iI_md, not_false_eq_true]; done)) | (refine hd_T ?_ ?_; focus (simp (disch := omega) only [qq_let, Bool.true_eq_false, iI_z0, iI_bz0, iI_bz1, iI_bz, iI_ckt, Option.bind_some, iI_n, iI_lit, iI_neg, iI_add, iI_sub, iI_mul, iI_ltT, iI_ltF, iI_leT, iI_leF, iI_eqT, iI_eqF, iI_div, iI_cn, iI_cl, iI_in, Int.toNat_natCast, if_true, if_false, bq, iI_md, not_false_eq_true]; done)) | (refine hd_F ?_ ?_; focus (simp (disch := omega) only [qq_let, Bool.true_eq_false, iI_z0, iI_bz0, iI_bz1, iI_bz, iI_ckt, Option.bind_some, iI_n, iI_lit, iI_neg, iI_add, iI_sub, iI_mul, iI_ltT, iI_ltF, iI_leT, iI_leF, iI_eqT, iI_eqF, iI_div, iI_cn, iI_cl, iI_in, Int.toNat_natCast, if_true, if_false, bq, iI_md, not_false_eq_true]; done)) | (refine hd_b (v := ?_) ?_ ?_; rotate_left; focus (simp (disch := omega) only [qq_let, Bool.true_eq_false, iI_z0, iI_bz0, iI_bz1, iI_bz, iI_ckt, Option.bind_some, iI_n, iI_lit, iI_neg, iI_add, iI_sub, iI_mul, iI_ltT, iI_ltF, iI_leT, iI_leF, iI_eqT, iI_eqF, iI_div, iI_cn, iI_cl, iI_in, Int.toNat_natCast, if_true, if_false, bq, iI_md, not_false_eq_true]; rfl)) | with_reducible rfl)
      · rw [show b1 b a t = b from if_neg (fun h => c3 h.2.2)]
        repeat (first | with_reducible exact m97 b rfl | (refine hd_ck ?_ ?_; focus (simp (disch := omega) only [qq_let, Bool.true_eq_false, iI_z0, iI_bz0, iI_bz1, iI_bz, iI_ckt, Option.bind_some, iI_n, iI_lit, iI_neg, iI_add, iI_sub, iI_mul, iI_ltT, iI_ltF, iI_leT, iI_leF, iI_eqT, iI_eqF, iI_div, iI_cn, iI_cl, iI_in, Int.toNat_natCast, if_true, if_false, bq, iI_md, not_false_eq_true]; done)) | (refine hd_T ?_ ?_; focus (simp (disch := omega) only [qq_let, Bool.true_eq_false, iI_z0, iI_bz0, iI_bz1, iI_bz, iI_ckt, Option.bind_some, iI_n, iI_lit, iI_neg, iI_add, iI_sub, iI_mul, iI_ltT, iI_ltF, iI_leT, iI_leF, iI_eqT, iI_eqF, iI_div, iI_cn, iI_cl, iI_in, Int.toNat_natCast, if_true, if_false, bq, iI_md, not_false_eq_true]; done)) | (refine hd_F ?_ ?_; focus (simp (disch := omega) only [qq_let, Bool.true_eq_false, iI_z0, iI_bz0, iI_bz1, iI_bz, iI_ckt, Option.bind_some, iI_n, iI_lit, iI_neg, iI_add, iI_sub, iI_mul, iI_ltT, iI_ltF, iI_leT, iI_leF, iI_eqT, iI_eqF, iI_div, iI_cn, iI_cl, iI_in, Int.toNat_natCast, if_true, if_false, bq, iI_md, not_false_eq_true]; done)) | (refine hd_b (v := ?_) ?_ ?_; rotate_left; focus (simp (disch := omega) only [qq_let, Bool.true_eq_false, iI_z0, iI_bz0, iI_bz1, iI_bz, iI_ckt, Option.bind_some, iI_n, iI_lit, iI_neg, iI_add, iI_sub, iI_mul, iI_ltT, iI_ltF, iI_leT, iI_leF, iI_eqT, iI_eqF, iI_div, iI_cn, iI_cl, iI_in, Int.toNat_natCast, if_true, if_false, bq, iI_md, not_false_eq_true]; rfl)) | with_reducible rfl)
  · rw [show b1 b a t = b from if_neg (fun h => c1 h.1)]
    repeat (first | with_reducible exact m97 b rfl | (refine hd_ck ?_ ?_; focus (simp (disch := omega) only [qq_let, Bool.true_eq_false, iI_z0, iI_bz0, iI_bz1, iI_bz, iI_ckt, Option.bind_some, iI_n, iI_lit, iI_neg, iI_add, iI_sub, iI_mul, iI_ltT, iI_ltF, iI_leT, iI_leF, iI_eqT, iI_eqF, iI_div, iI_cn, iI_cl, iI_in, Int.toNat_natCast, if_true, if_false, bq, not_false_eq_true]; done)) | (refine hd_T ?_ ?_; focus (simp (disch := omega) only [qq_let, Bool.true_eq_false, iI_z0, iI_bz0, iI_bz1, iI_bz, iI_ckt, Option.bind_some, iI_n, iI_lit, iI_neg, iI_add, iI_sub, iI_mul, iI_ltT, iI_ltF, iI_leT, iI_leF, iI_eqT, iI_eqF, iI_div, iI_cn, iI_cl, iI_in, Int.toNat_natCast, if_true, if_false, bq, not_false_eq_true]; done)) | (refine hd_F ?_ ?_; focus (simp (disch := omega) only [qq_let, Bool.true_eq_false, iI_z0, iI_bz0, iI_bz1, iI_bz, iI_ckt, Option.bind_some, iI_n, iI_lit, iI_neg, iI_add, iI_sub, iI_mul, iI_ltT, iI_ltF, iI_leT, iI_leF, iI_eqT, iI_eqF, iI_div, iI_cn, iI_cl, iI_in, Int.toNat_natCast, if_true, if_false, bq, not_false_eq_true]; done)) | (refine hd_b (v := ?_) ?_ ?_; rotate_left; focus (simp (disch := omega) only [qq_let, Bool.true_eq_false, iI_z0, iI_bz0, iI_bz1, iI_bz, iI_ckt, Option.bind_some, iI_n, iI_lit, iI_neg, iI_add, iI_sub, iI_mul, iI_ltT, iI_ltF, iI_leT, iI_leF, iI_eqT, iI_eqF, iI_div, iI_cn, iI_cl, iI_in, Int.toNat_natCast, if_true, if_false, bq, not_false_eq_true]; rfl)) | with_reducible rfl)
