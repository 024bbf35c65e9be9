/-! the class's isHitBy and the model's isHit are one -/
theorem ge_wd_f4 : ∀ w, w < 8 → ∀ a, a < 64 → ∀ d, d < 8 → (1 ≤ d ∧ d ≤ ge_st w a) → (((ge_at w a d / 8 : Nat) : Int) - ((a / 8 : Nat) : Int) = (d : Int) * ge_wr w) := by decide +kernel
theorem ge_op2 : ∀ w, w < 8 → ge_op (ge_op w) = w := by decide
theorem ge_wr_r : ∀ w, w < 8 → ge_wr w ≤ 1 ∧ -1 ≤ ge_wr w := by decide
def gk (p : Fin 13) (w d : Nat) : Bool := match kd p with
  | 1 => d == 1 && (decide (4 ≤ w) && ge_wr w == (if p.val ≤ 6 then 1 else -1))
  | 3 => decide (4 ≤ w)
  | 4 => decide (w < 4)
  | 5 => true
  | 6 => d == 1
  | _ => false
theorem ge_co_gk : ∀ p : Fin 13, ∀ who, who < 2 → ∀ w, w < 8 → ∀ d, d < 8 → ge_co p.val who w d = (isOf p who && gk p (ge_op w) d) := by decide +kernel
def rw1 (b : Bd) (a s : Nat) : Bool := match ge_wd a s with
  | some (w, d) => gk (b a) w d && ry b w a d
  | none => false
theorem re_wd {b : Bd} {a s : Nat} (ha : a < 64) (hs : s < 64) (hk : kd (b a) ≠ 2) : re b a s = rw1 b a s := by
  have h6 := kd_le (b a)
  have hc : kd (b a) = 0 ∨ kd (b a) = 1 ∨ kd (b a) = 3 ∨ kd (b a) = 4 ∨ kd (b a) = 5 ∨ kd (b a) = 6 := by omega
  unfold rw1
  cases hw : ge_wd a s with
  | none =>
    obtain ⟨n1, n2⟩ := ge_wd_no a ha s hs hw
    have e1 : sti a s = false := by
      cases h : sti a s with
      | false => rfl
      | true =>
        simp only [sti, Bool.and_eq_true, Bool.not_eq_true', Bool.or_eq_true, beq_iff_eq, beq_eq_false_iff_ne] at h
        exact absurd h n1
    have e2 : sli a s = false := by
      cases h : sli a s with
      | false => rfl
      | true =>
        simp only [sli, Bool.and_eq_true, Bool.not_eq_true', beq_iff_eq, beq_eq_false_iff_ne] at h
        exact absurd h n2
    simp only [re, rk, e1, e2]
    rcases hc with h | h | h | h | h | h <;> simp only [h]
    · have : ¬ (ge_fi a s = 1 ∧ ((s / 8 : Nat) : Int) - ((a / 8 : Nat) : Int) = (if (b a).val ≤ 6 then 1 else -1)) := by
        rintro ⟨q1, q2⟩
        apply n2
        unfold ge_fi ge_ra at *
        split at q2 <;> omega
      cases hx : (ge_fi a s == 1 && ((s / 8 : Nat) : Int) - ((a / 8 : Nat) : Int) == (if (b a).val ≤ 6 then 1 else -1)) with
      | false => rfl
      | true =>
        rw [Bool.and_eq_true, beq_iff_eq, beq_iff_eq] at hx
        exact absurd hx this
    · rfl
    · rfl
    · rfl
    · cases hx : (decide (ge_fi a s < 2) && (decide (ge_ra a s < 2) && !(a == s))) with
      | false => rfl
      | true =>
        simp only [Bool.and_eq_true, Bool.not_eq_true', decide_eq_true_eq, beq_eq_false_iff_ne] at hx
        obtain ⟨q1, q2, q3⟩ := hx
        exfalso
        have : ge_fi a s = 0 ∨ ge_ra a s = 0 ∨ ge_fi a s = ge_ra a s := by omega
        rcases this with q | q | q
        · exact n1 ⟨q3, Or.inl q⟩
        · exact n1 ⟨q3, Or.inr q⟩
        · exact n2 ⟨q3, q⟩
  | some x =>
    obtain ⟨w, d⟩ := x
    obtain ⟨hw8, hd1, hd8, hst, rfl⟩ := ge_wd_of hw
    obtain ⟨q1, q2, q3, -, q5⟩ := ge_wd_fr w hw8 a ha d hd8 hd1 hst
    have q4 := ge_wd_f4 w hw8 a ha d hd8 ⟨hd1, hst⟩
    have e1 : sti a (ge_at w a d) = decide (w < 4) := by
      rw [Bool.eq_iff_iff]
      simp only [sti, Bool.and_eq_true, Bool.not_eq_true', Bool.or_eq_true, beq_iff_eq, beq_eq_false_iff_ne, decide_eq_true_eq]
      exact ⟨fun h => q2.mp h.2, fun h => ⟨fun e => q1 e.symm, q2.mpr h⟩⟩
    have e2 : sli a (ge_at w a d) = decide (4 ≤ w) := by
      rw [Bool.eq_iff_iff]
      simp only [sli, Bool.and_eq_true, Bool.not_eq_true', beq_iff_eq, beq_eq_false_iff_ne, decide_eq_true_eq]
      exact ⟨fun h => q3.mp h.2, fun h => ⟨fun e => q1 e.symm, q3.mpr h⟩⟩
    have e3 : fr b a (ge_at w a d) = ry b w a d := by simp only [fr, hw]
    simp only [re, rk, e1, e2, e3, gk]
    rcases hc with h | h | h | h | h | h <;> simp only [h]
    · simp
    · rw [Bool.eq_iff_iff]
      simp only [Bool.and_eq_true, beq_iff_eq, decide_eq_true_eq]
      rw [q4]
      have hr := ge_wr_r w hw8
      constructor
      · rintro ⟨r1, r2⟩
        have hd : d = 1 := by
          by_cases hz : ge_wr w = 0
          · rw [hz] at r2; split at r2 <;> omega
          · have hz' : ge_wr w = 1 ∨ ge_wr w = -1 := by omega
            rcases hz' with hz' | hz' <;> rw [hz'] at r2 <;> split at r2 <;> omega
        subst hd
        refine ⟨⟨rfl, ?_, ?_⟩, rfl⟩
        · apply q3.mp
          unfold ge_ra
          rw [q4]
          split at r2 <;> omega
        · omega
      · rintro ⟨⟨rfl, r2, r3⟩, -⟩
        have := q3.mpr r2
        constructor
        · omega
        · omega
    · have : (decide (w < 4) || decide (4 ≤ w)) = true := by simp; omega
      rw [this]
    · rw [Bool.eq_iff_iff]
      simp only [Bool.and_eq_true, Bool.not_eq_true', beq_iff_eq, decide_eq_true_eq, beq_eq_false_iff_ne]
      constructor
      · rintro ⟨r1, r2, r3⟩
        have : d = 1 := by omega
        subst this
        exact ⟨rfl, rfl⟩
      · rintro ⟨rfl, -⟩
        exact ⟨by omega, by omega, fun e => q1 e.symm⟩
theorem hw_iff (b : Bd) (who w s : Nat) : ∀ (k d : Nat), hh_w (fun j => (b j).val) who w s k d = true ↔ ∃ e, d ≤ e ∧ e < d + k ∧ (∀ f, d ≤ f → f < e → (b (ge_at w s f)).val = 0) ∧ (b (ge_at w s e)).val ≠ 0 ∧ ge_co (b (ge_at w s e)).val who w e = true := by
  intro k
  induction k with
  | zero =>
    intro d
    simp only [hh_w, Bool.false_eq_true, false_iff]
    rintro ⟨e, h1, h2, -⟩
    omega
  | succ k ih =>
    intro d
    simp only [hh_w]
    by_cases c : (b (ge_at w s d)).val = 0
    · rw [if_pos c, ih]
      constructor
      · rintro ⟨e, h1, h2, h3, h4⟩
        refine ⟨e, by omega, by omega, fun f f1 f2 => ?_, h4⟩
        by_cases c2 : f = d
        · rw [c2]; exact c
        · exact h3 f (by omega) f2
      · rintro ⟨e, h1, h2, h3, h4⟩
        by_cases c2 : e = d
        · rw [c2] at h4; exact absurd c h4.1
        · exact ⟨e, by omega, by omega, fun f f1 f2 => h3 f (by omega) f2, h4⟩
    · rw [if_neg c]
      constructor
      · intro h
        exact ⟨d, by omega, by omega, fun f f1 f2 => by omega, c, h⟩
      · rintro ⟨e, h1, h2, h3, h4⟩
        by_cases c2 : e = d
        · rw [c2] at h4; exact h4.2
        · exact absurd (h3 d (by omega) (by omega)) c
theorem ge_jk : ∀ a, a < 64 → ∀ s, s < 64 → (ge_fi a s * ge_ra a s == 2) = (List.range' 0 8).any (fun j => ge_jin j s && ge_jt j s == a) := by decide +kernel
theorem isOf_kd2 : ∀ p : Fin 13, ∀ who, who < 2 → ((isOf p who = true ∧ kd p = 2) ↔ p.val = 2 + 6 * who) := by decide
theorem isOf_0 : ∀ p : Fin 13, ∀ who, who < 2 → isOf p who = true → p.val ≠ 0 := by decide
theorem ge_wd_op {w s d : Nat} (hw : w < 8) (hs : s < 64) (h1 : 1 ≤ d) (h8 : d < 8) (h2 : d ≤ ge_st w s) : ge_wd (ge_at w s d) s = some (ge_op w, d) := by
  have l := ge_at_lt w hw s hs d h8 h2
  have hq := ge_opp w hw s hs d h8 h2 d (by omega)
  rw [Nat.sub_self] at hq
  have h0 : ge_at w s 0 = s := by simp [ge_at]
  rw [h0] at hq
  have := ge_wd_in (ge_op w) (ge_opp1 w hw).1 (ge_at w s d) l d h8 h1 (ge_opp2 w hw s hs d h8 h2)
  rw [hq] at this
  exact this
theorem ry_op {b : Bd} {w s d : Nat} (hw : w < 8) (hs : s < 64) (h8 : d < 8) (h2 : d ≤ ge_st w s) : ry b (ge_op w) (ge_at w s d) d = ry b w s d := by
  rw [Bool.eq_iff_iff, ry_iff, ry_iff]
  constructor
  · intro h e h3 h4
    have := h (d - e) (by omega) (by omega)
    rw [ge_opp w hw s hs d h8 h2 (d - e) (by omega), show d - (d - e) = e by omega] at this
    exact this
  · intro h e h3 h4
    rw [ge_opp w hw s hs d h8 h2 e (by omega)]
    exact h (d - e) (by omega) (by omega)
theorem hit_eq {b : Bd} {who s : Nat} (hwho : who < 2) (hs : s < 64) : hh_b (fun j => (b j).val) who s = mh b who s := by
  rw [Bool.eq_iff_iff]
  simp only [hh_b, mh, Bool.or_eq_true, List.any_eq_true, List.mem_range'_1]
  constructor
  · rintro (⟨w, hw, h⟩ | ⟨j, hj, h⟩)
    · rw [hh_way, hw_iff] at h
      obtain ⟨e, h1, h2, h3, h4, h5⟩ := h
      have hw8 : w < 8 := by omega
      have h7 := ge_st_le w hw8 s hs
      have l := ge_at_lt w hw8 s hs e (by omega) (by omega)
      refine ⟨ge_at w s e, by omega, ?_⟩
      rw [ge_co_gk _ _ hwho w hw8 e (by omega), Bool.and_eq_true] at h5
      have hk : kd (b (ge_at w s e)) ≠ 2 := by
        intro hk
        have := h5.2
        simp [gk, hk] at this
      rw [mhf, re_wd l hs hk, rw1, ge_wd_op hw8 hs (by omega) (by omega) (by omega)]
      simp only [Bool.and_eq_true]
      refine ⟨h5.1, h5.2, ?_⟩
      rw [ry_op hw8 hs (by omega) (by omega), ry_iff]
      exact h3
    · simp only [hh_j, Bool.and_eq_true, beq_iff_eq] at h
      have l := ge_jt_lt j (by omega) s hs h.1
      refine ⟨ge_jt j s, by omega, ?_⟩
      have hk := (isOf_kd2 (b (ge_jt j s)) who hwho).mpr h.2
      simp only [mhf, hk.1, Bool.true_and, re, rk, hk.2]
      rw [ge_jk _ l s hs, List.any_eq_true]
      exact ⟨j, by rw [List.mem_range'_1]; omega, by simp [h.1]⟩
  · rintro ⟨a, ha, h⟩
    have ha64 : a < 64 := by omega
    rw [mhf, Bool.and_eq_true] at h
    by_cases hk : kd (b a) = 2
    · right
      have h2 := h.2
      simp only [re, rk, hk] at h2
      rw [ge_jk a ha64 s hs, List.any_eq_true] at h2
      obtain ⟨j, hj, h3⟩ := h2
      rw [List.mem_range'_1] at hj
      rw [Bool.and_eq_true, beq_iff_eq] at h3
      refine ⟨j, hj, ?_⟩
      rw [hh_j, h3.1, h3.2, (isOf_kd2 (b a) who hwho).mp ⟨h.1, hk⟩]
      simp
    · left
      have h2 := h.2
      rw [re_wd ha64 hs hk, rw1] at h2
      cases hwd : ge_wd a s with
      | none => simp [hwd] at h2
      | some x =>
        obtain ⟨w, d⟩ := x
        rw [hwd] at h2
        simp only [Bool.and_eq_true] at h2
        obtain ⟨hw8, hd1, hd8, hst, hat⟩ := ge_wd_of hwd
        have o1 := (ge_opp1 w hw8).1
        have o2 := ge_opp2 w hw8 a ha64 d hd8 hst
        have o3 := ge_opp w hw8 a ha64 d hd8 hst d (by omega)
        have o4 := ry_op (b := b) hw8 ha64 hd8 hst
        rw [Nat.sub_self, show ge_at w a 0 = a from by simp [ge_at], hat] at o3
        rw [hat] at o2 o4
        refine ⟨ge_op w, by omega, ?_⟩
        rw [hh_way, hw_iff]
        refine ⟨d, hd1, by omega, ?_, ?_, ?_⟩
        · rw [h2.2] at o4
          exact (ry_iff _ _ _ _).mp o4
        · rw [o3]; exact isOf_0 _ _ hwho h.1
        · rw [ge_co_gk _ _ hwho _ o1 d hd8, o3, ge_op2 w hw8, h.1, h2.1]
          rfl
theorem p_isHitBy {b : Bd} {who s : Nat} (hwho : who < 2) (hs : s < 64) : fn_P_isHitBy (bq b) (iI (who : Int)) (iI (s : Int)) = some (ge_z (mh b who s)) := by
  have := hb_P (b := fun j => (b j).val) hwho hs (fun j _ => by omega)
  rw [hit_eq hwho hs, iI_n, iI_n] at this
  rw [bq_nI]
  exact this
