/-! what becomes of a position by a move: it stays a position -/
theorem val_inj {p q : Fin 13} (h : p.val = q.val) : p = q := Fin.ext h
theorem isOf_val : ∀ p : Fin 13, ∀ who : Nat, who < 2 → (isOf p who = true ↔ (1 + 6 * who ≤ p.val ∧ p.val ≤ 6 + 6 * who)) := by decide +kernel
theorem kd_val : ∀ p : Fin 13, p.val = kd p ∨ p.val = kd p + 6 := by decide +kernel
theorem kd_c : ∀ p : Fin 13, kd p = (if p.val ≤ 6 then p.val else p.val - 6) := by decide +kernel
theorem kd_pw (p : Fin 13) : kd p = 1 ↔ (p.val = 1 ∨ p.val = 7) := by rw [kd_c]; split <;> omega
theorem gs_pc {b : Bd} {sd r pp ks a t p : Nat} (hg : gs b sd r pp ks a t p = true) : p = 0 ∨ (kd (b a) = 1 ∧ 2 ≤ p ∧ p ≤ 5 ∧ t / 8 = (if sd = 0 then 7 else 0)) := by
  by_cases hk : kd (b a) = 1
  · simp only [gs, hk, if_true, pg, Bool.and_eq_true, fit] at hg
    by_cases h : t / 8 = (if sd = 0 then 7 else 0)
    · rw [if_pos h] at hg
      simp only [Bool.and_eq_true, decide_eq_true_eq] at hg
      exact Or.inr ⟨hk, hg.2.2.1.1, hg.2.2.1.2, h⟩
    · rw [if_neg h] at hg
      simp only [beq_iff_eq] at hg
      exact Or.inl hg.2.2.1
  · exact Or.inl (gs_p hg hk)
theorem gs_fit {b : Bd} {sd r pp ks a t p : Nat} (hg : gs b sd r pp ks a t p = true) (hk : kd (b a) = 1) (h0 : p = 0) : t / 8 ≠ (if sd = 0 then 7 else 0) := by
  intro h
  simp only [gs, hk, if_true, pg, Bool.and_eq_true, fit] at hg
  rw [if_pos h] at hg
  simp only [Bool.and_eq_true, decide_eq_true_eq] at hg
  omega
theorem pcv_v0 {b : Bd} {sd r pp ks a t p : Nat} (hsd : sd < 2) (hg : gs b sd r pp ks a t p = true) : (pcv b sd a p).val = (if p = 0 then kd (b a) else p) + 6 * sd := by
  have hof := (gs_own hg).1
  have hv := kd_of (b a) sd hsd hof
  rcases gs_pc hg with h | ⟨hk, h2, h5, -⟩
  · rw [pcv, if_pos h, if_pos h, hv]
  · rw [pcv, if_neg (by omega), if_neg (by omega)]
    show (p + 6 * sd) % 13 = _
    exact Nat.mod_eq_of_lt (by omega)
theorem cas_all {b : Bd} {sd r pp a t p : Nat} {k : Nat → Nat} (h : pv b sd r pp k) (ha : a < 64) (ht : t < 64) (hg : gs b sd r pp (k sd) a t p = true) (hc : kd (b a) = 6 ∧ isC a t = true) :
    ((a = hm sd ∧ (b t).val = 0 ∧ (b ((a + t) / 2)).val = 0) ∧ ((b (cor a t)).val = 4 + 6 * sd ∧ (b a).val = 6 + 6 * sd)) ∧ ((t = hm sd + 2 ∧ (a + t) / 2 = hm sd + 1 ∧ cor a t = hm sd + 3) ∨ (t = hm sd - 2 ∧ (a + t) / 2 = hm sd - 1 ∧ cor a t = hm sd - 4)) := by
  have hsd := h.1.1
  obtain ⟨h1, h2, h3, h4⟩ := gs_cas2 hsd ha ht hg hc.1 hc.2
  have hr := h.2.2.2.1 sd hsd
  rcases h4 with ⟨q1, q2, q3, q4⟩ | ⟨q1, q2, q3, q4⟩
  · have q := hr.1 q4
    exact ⟨⟨⟨h1, h2, h3⟩, by rw [q3]; exact q.2, by rw [h1]; exact q.1⟩, Or.inl ⟨q1, q2, q3⟩⟩
  · have q := hr.2 q4
    exact ⟨⟨⟨h1, h2, h3⟩, by rw [q3]; exact q.2, by rw [h1]; exact q.1⟩, Or.inr ⟨q1, q2, q3⟩⟩
/-- the board after a move, the castling case with the squares named -/
theorem mv_cas {b : Bd} {sd r pp a t p : Nat} {k : Nat → Nat} (h : pv b sd r pp k) (ha : a < 64) (ht : t < 64) (hg : gs b sd r pp (k sd) a t p = true) (hc : kd (b a) = 6 ∧ isC a t = true) (j : Nat) :
    (mvb b sd a t p j).val = if j = cor a t then 0 else if j = (a + t) / 2 then 4 + 6 * sd else if j = a then 0 else if j = t then 6 + 6 * sd else (b j).val := by
  obtain ⟨⟨⟨h1, h2, h3⟩, h4, h5⟩, h6⟩ := cas_all h ha ht hg hc
  have hh : hm sd = 4 + 56 * sd := rfl
  rw [mv_c hc (by omega) (by omega)]
  have hp : p = 0 := gs_p hg (by omega)
  subst hp
  rw [pcv_0]
  split
  · rfl
  · split
    · exact h4
    · split
      · rfl
      · split
        · exact h5
        · rfl
theorem mv_nor {b : Bd} {sd r pp a t p : Nat} {k : Nat → Nat} (h : pv b sd r pp k) (hg : gs b sd r pp (k sd) a t p = true) (hc : ¬ (kd (b a) = 6 ∧ isC a t = true)) (j : Nat) :
    (mvb b sd a t p j).val = if j = a then 0 else if j = t then (if p = 0 then kd (b a) else p) + 6 * sd else if (kd (b a) = 1 ∧ a % 8 ≠ t % 8 ∧ (b t).val = 0) ∧ j = bst a t then 0 else (b j).val := by
  rw [mv_n hc]
  split
  · rfl
  · split
    · exact pcv_v0 h.1.1 hg
    · split
      · rfl
      · rfl
theorem mv_ok {b : Bd} {sd r pp a t p : Nat} {k : Nat → Nat} (h : pv b sd r pp k) (ha : a < 64) (ht : t < 64) (hg : gs b sd r pp (k sd) a t p = true) {who : Nat} (hw : who < 2) : ok1 (mvb b sd a t p) who (kU b k sd a t who) := by
  have hsd := h.1.1
  obtain ⟨o1, o2, o3⟩ := pv_ok h hw
  obtain ⟨s1, s2, s3⟩ := pv_ok h hsd
  have hof := (gs_own hg).1
  have hne := gs_ne hg
  have hka := kd_of (b a) sd hsd hof
  have h6 := kd_le (b a)
  have hk1 := (kd_own (b a) sd hsd hof).2
  have hgk := gs_king h ha ht hg
  have hgo := (gs_own hg).2
  by_cases hc : kd (b a) = 6 ∧ isC a t = true
  · have hv := mv_cas h ha ht hg hc
    obtain ⟨⟨⟨h1, h2, h3⟩, h4, h5⟩, hq⟩ := cas_all h ha ht hg hc
    have hh : hm sd = 4 + 56 * sd := rfl
    have e := s3 a ha h5
    refine ⟨?_, ?_, ?_⟩
    · rw [kU]; split <;> assumption
    · by_cases hs : who = sd
      · have ku : kU b k sd a t who = t := if_pos ⟨hc.1, hs⟩
        rw [hv, ku, if_neg (by omega), if_neg (by omega), if_neg (by omega), if_pos rfl, hs]
      · have ku : kU b k sd a t who = k who := if_neg (fun z => hs z.2)
        rw [hv, ku]
        have n1 : k who ≠ cor a t := fun z => by rw [z] at o2; omega
        have n2 : k who ≠ (a + t) / 2 := fun z => by rw [z] at o2; omega
        have n3 : k who ≠ a := fun z => by rw [z] at o2; omega
        have n4 : k who ≠ t := fun z => by rw [z] at o2; omega
        rw [if_neg n1, if_neg n2, if_neg n3, if_neg n4, o2]
    · intro j hj hx
      rw [hv] at hx
      rw [kU]
      split at hx
      · omega
      · split at hx
        · omega
        · split at hx
          · omega
          · split at hx
            · rename_i q1 q2 q3 q4
              rw [if_pos ⟨hc.1, by omega⟩, q4]
            · rename_i q1 q2 q3 q4
              have e2 := o3 j hj hx
              rw [if_neg (fun z => by rw [z.2] at e2; omega), e2]
  · have hv := mv_nor h hg hc
    refine ⟨?_, ?_, ?_⟩
    · rw [kU]; split <;> assumption
    · by_cases hs : kd (b a) = 6 ∧ who = sd
      · have hp := gs_p hg (by omega)
        have ku : kU b k sd a t who = t := if_pos hs
        rw [hv, ku, if_neg (by omega), if_pos rfl, if_pos hp, hs.1, hs.2]
      · have ku : kU b k sd a t who = k who := if_neg hs
        rw [hv, ku]
        have n1 : k who ≠ a := fun z => by rw [z] at o2; exact hs ⟨by omega, by omega⟩
        have n2 : k who ≠ t := fun z => by
          rw [z] at o2
          by_cases hq : who = sd
          · rw [hq] at o2
            have := (king_kd (b t) sd hsd o2).1
            rw [this] at hgo
            exact absurd hgo (by decide)
          · exact hgk (by rw [o2]; omega)
        rw [if_neg n1, if_neg n2, if_neg, o2]
        rintro ⟨⟨z1, z2, z3⟩, z4⟩
        have := (gs_pass h ha ht hg z1 z2 z3).1
        rw [← z4] at this
        omega
    · intro j hj hx
      rw [hv] at hx
      rw [kU]
      split at hx
      · omega
      · split at hx
        · rename_i q1 q2
          rcases gs_pc hg with hp | ⟨hp1, hp2, hp3, -⟩
          · rw [if_pos hp] at hx
            rw [if_pos ⟨by omega, by omega⟩, q2]
          · rw [if_neg (by omega)] at hx
            omega
        · split at hx
          · omega
          · rename_i q1 q2 q3
            have e2 := o3 j hj hx
            by_cases hs : kd (b a) = 6 ∧ who = sd
            · exfalso
              obtain ⟨hs1, hs2⟩ := hs
              subst hs2
              have e := s3 a ha (by omega)
              omega
            · rw [if_neg hs, e2]
theorem cnt_sp (f : Nat → Bool) {i : Nat} (h : i < 64) : ((List.range' 0 64).filter f).length = ((List.range' 0 i).filter f).length + (if f i = true then 1 else 0) + ((List.range' (i + 1) (63 - i)).filter f).length := by
  have e : List.range' 0 64 = List.range' 0 i ++ (i :: List.range' (i + 1) (63 - i)) := by
    rw [← List.range'_succ, show 63 - i + 1 = 64 - i by omega]
    have := @List.range'_append 0 i (64 - i) 1
    rw [show 0 + 1 * i = i by omega, show i + (64 - i) = 64 by omega] at this
    exact this.symm
  rw [e, List.filter_append, List.filter_cons, List.length_append]
  split
  · rw [List.length_cons]; omega
  · omega
theorem cnt_up (b : Bd) {i : Nat} (v : Fin 13) (who : Nat) (h : i < 64) : cnt (bU b i v) who + (if isOf (b i) who = true then 1 else 0) = cnt b who + (if isOf v who = true then 1 else 0) := by
  rw [cnt, cnt, cnt_sp _ h, cnt_sp (fun a => isOf (b a) who) h]
  have e1 : (List.range' 0 i).filter (fun a => isOf (bU b i v a) who) = (List.range' 0 i).filter (fun a => isOf (b a) who) := by
    apply List.filter_congr
    intro x hx
    rw [List.mem_range'_1] at hx
    rw [bU_ne (by omega)]
  have e2 : (List.range' (i + 1) (63 - i)).filter (fun a => isOf (bU b i v a) who) = (List.range' (i + 1) (63 - i)).filter (fun a => isOf (b a) who) := by
    apply List.filter_congr
    intro x hx
    rw [List.mem_range'_1] at hx
    rw [bU_ne (by omega)]
  rw [e1, e2, bU_at]
  omega
theorem isOf_no : ∀ who : Nat, who < 2 → isOf 0 who = false := by decide
theorem cnt_0 (b : Bd) {i : Nat} {who : Nat} (hw : who < 2) (h : i < 64) : cnt (bU b i 0) who + (if isOf (b i) who = true then 1 else 0) = cnt b who := by
  have := cnt_up b 0 who h
  rw [isOf_no who hw] at this
  exact this
theorem cnt_b3 (b x : Bd) {a t who : Nat} (hw : who < 2) (ha : a < 64) (ht : t < 64) (h : isC a t = true) : cnt (b3 b a t x) who ≤ cnt x who := by
  rw [b3]
  split
  · have hm : (a + t) / 2 < 64 := by omega
    have hcr : cor a t < 64 := cor_lt ha
    have hne : cor a t ≠ (a + t) / 2 ∨ cor a t = (a + t) / 2 := by omega
    have q1 := cnt_0 (bU x ((a + t) / 2) (x (cor a t))) hw hcr
    have q2 := cnt_up x (x (cor a t)) who hm
    rcases hne with hne | hne
    · rw [bU_ne hne] at q1
      (try split at q1) <;> (try split at q2) <;> (try split at q2) <;> omega
    · rw [← hne] at q1 q2 ⊢
      rw [bU_at] at q1
      omega
  · exact Nat.le_refl _
theorem mv_cnt {b : Bd} {sd r pp a t p : Nat} {k : Nat → Nat} (h : pv b sd r pp k) (ha : a < 64) (ht : t < 64) (hg : gs b sd r pp (k sd) a t p = true) {who : Nat} (hw : who < 2) : cnt (mvb b sd a t p) who ≤ cnt b who := by
  have hsd := h.1.1
  have hof := (gs_own hg).1
  have hne := gs_ne hg
  have c1 : cnt (b1 b a t) who ≤ cnt b who := by
    rw [b1]
    split
    · have := cnt_0 b (i := bst a t) hw (by rw [bst]; omega)
      omega
    · exact Nat.le_refl _
  have c2 : cnt (b2 b sd a t p) who ≤ cnt (b1 b a t) who := by
    rw [b2]
    have q1 := cnt_0 (bU (b1 b a t) t (pcv b sd a p)) hw ha
    have q2 := cnt_up (b1 b a t) (pcv b sd a p) who ht
    rw [bU_ne hne, b1_a] at q1
    by_cases hs : who = sd
    · subst hs
      rw [if_pos hof] at q1
      (try split at q2) <;> (try split at q2) <;> omega
    · have hn : isOf (pcv b sd a p) who = false := by
        have hv := pcv_v0 hsd hg
        have h6 := kd_le (b a)
        have hk1 := (kd_own (b a) sd hsd hof).2
        have hpp := gs_pc hg
        cases hx : isOf (pcv b sd a p) who with
        | false => rfl
        | true =>
          have := (isOf_val _ who hw).mp hx
          split at hv <;> omega
      rw [hn] at q2
      have q3 : cnt (bU (b1 b a t) t (pcv b sd a p)) who + _ = cnt (b1 b a t) who := q2
      omega
  refine Nat.le_trans ?_ (Nat.le_trans c2 c1)
  rw [mvb]
  by_cases hc : isC a t = true
  · exact cnt_b3 b _ hw ha ht hc
  · rw [b3, if_neg (fun z => hc z.2)]
    exact Nat.le_refl _
theorem gs_pwn {b : Bd} {sd r pp a t p : Nat} {k : Nat → Nat} (h : pv b sd r pp k) (ha : a < 64) (hg : gs b sd r pp (k sd) a t p = true) (hk : kd (b a) = 1) :
    (t = nx sd a ∧ (b t).val = 0) ∨ (a / 8 = (if sd = 0 then 1 else 6) ∧ t = nx2 sd a ∧ (b (nx sd a)).val = 0 ∧ (b t).val = 0) ∨ (0 < a % 8 ∧ t = nx sd a - 1) ∨ (a % 8 < 7 ∧ t = nx sd a + 1) := by
  have hsd := h.1.1
  have hof := (gs_own hg).1
  have hka := kd_of (b a) sd hsd hof
  have hpw := h.2.2.1 a ha hk
  have hre := @pawn_re b sd a t hsd (by omega) hpw.1 hpw.2
  simp only [gs, hk, if_true, pg, pg1, stp1, far1, psb, Bool.and_eq_true, Bool.or_eq_true, beq_iff_eq, decide_eq_true_eq] at hg
  rcases hg.2.2.2 with q | q | q | q
  · exact Or.inl q
  · exact Or.inr (Or.inl ⟨q.1, q.2.1, q.2.2⟩)
  · exact Or.inr (Or.inr (hre.mp q.1))
  · exact Or.inr (Or.inr (hre.mp q.2.2.2.1))
theorem tie_hm : ∀ who : Nat, who < 2 → (tie (hm who)).testBit (2 * who) = true ∧ (tie (hm who)).testBit (2 * who + 1) = true ∧ (tie (hm who + 3)).testBit (2 * who) = true ∧ (tie (hm who - 4)).testBit (2 * who + 1) = true := by decide
theorem rr_and {r a t i : Nat} (hr : r < 16) (ha : a < 64) (ht : t < 64) (hi : i < 4) (h : (rr r a t).testBit i = true) : r.testBit i = true ∧ (tie a).testBit i = false ∧ (tie t).testBit i = false := by
  rw [rr_bit hr ha ht hi] at h
  simp only [Bool.and_eq_true, Bool.not_eq_true', Bool.or_eq_false_iff] at h
  exact h
theorem mv_keep {b : Bd} {sd r pp a t p : Nat} {k : Nat → Nat} (h : pv b sd r pp k) (ha : a < 64) (ht : t < 64) (hg : gs b sd r pp (k sd) a t p = true) {j : Nat} (hja : j ≠ a) (hjt : j ≠ t) (hp : (b j).val ≠ 1 + 6 * (1 - sd)) (hc : a = hm sd → j ≠ hm sd + 1 ∧ j ≠ hm sd - 1 ∧ j ≠ hm sd + 3 ∧ j ≠ hm sd - 4) : (mvb b sd a t p j).val = (b j).val := by
  by_cases hcc : kd (b a) = 6 ∧ isC a t = true
  · obtain ⟨⟨⟨h1, h2, h3⟩, h4, h5⟩, hq⟩ := cas_all h ha ht hg hcc
    have := hc h1
    rw [mv_cas h ha ht hg hcc, if_neg (by omega), if_neg (by omega), if_neg hja, if_neg hjt]
  · rw [mv_nor h hg hcc, if_neg hja, if_neg hjt, if_neg]
    rintro ⟨⟨z1, z2, z3⟩, z4⟩
    have := (gs_pass h ha ht hg z1 z2 z3).1
    rw [← z4] at this
    exact hp this
theorem pv_next {b : Bd} {sd r pp a t p : Nat} {k : Nat → Nat} (h : pv b sd r pp k) (ha : a < 64) (ht : t < 64) (hg : gs b sd r pp (k sd) a t p = true) (hs : mh (mvb b sd a t p) (1 - sd) (kU b k sd a t sd) = false) :
    pv (mvb b sd a t p) (1 - sd) (rr r a t) (ppn b a t) (kU b k sd a t) := by
  have hsd := h.1.1
  have hof := (gs_own hg).1
  have hne := gs_ne hg
  have hka := kd_of (b a) sd hsd hof
  have h6 := kd_le (b a)
  have hh0 : hm sd = 4 + 56 * sd := rfl
  refine ⟨⟨by omega, rr_lt h.1.2.1, ?_⟩, ⟨mv_ok h ha ht hg (by omega), mv_ok h ha ht hg (by omega)⟩, ?_, ?_, ?_, ?_, ?_⟩
  · rw [ppn]; split <;> omega
  · intro j hj hx
    by_cases hcc : kd (b a) = 6 ∧ isC a t = true
    · have hv := mv_cas h ha ht hg hcc j
      rw [kd_pw] at hx
      rw [hv] at hx
      split at hx
      · omega
      · split at hx
        · omega
        · split at hx
          · omega
          · split at hx
            · omega
            · exact h.2.2.1 j hj ((kd_pw _).mpr hx)
    · have hv := mv_nor h hg hcc j
      rw [kd_pw] at hx
      rw [hv] at hx
      split at hx
      · omega
      · split at hx
        · rename_i q1 q2
          subst q2
          rcases gs_pc hg with hp | ⟨hp1, hp2, hp3, -⟩
          · rw [if_pos hp] at hx
            have hk : kd (b a) = 1 := by omega
            have hf := gs_fit hg hk hp
            have hpw := h.2.2.1 a ha hk
            have hm := gs_pwn h ha hg hk
            simp only [nx, nx2] at hm
            by_cases h0 : sd = 0
            · simp only [h0, if_true] at hm hf; omega
            · simp only [h0, if_false] at hm hf; omega
          · rw [if_neg (by omega)] at hx
            omega
        · split at hx
          · omega
          · exact h.2.2.1 j hj ((kd_pw _).mpr hx)
  · intro who hw
    have hR := h.2.2.2.1 who hw
    have hT := tie_hm who hw
    have hh : hm who = 4 + 56 * who := rfl
    constructor
    · intro hb
      obtain ⟨q1, q2, q3⟩ := rr_and h.1.2.1 ha ht (by omega) hb
      have hr := hR.1 q1
      have na : ∀ s, (tie s).testBit (2 * who) = true → s ≠ a ∧ s ≠ t := fun s z => ⟨fun e => by rw [e, q2] at z; exact absurd z (by decide), fun e => by rw [e, q3] at z; exact absurd z (by decide)⟩
      have n1 := na _ hT.1
      have n2 := na _ hT.2.2.1
      rw [mv_keep h ha ht hg n1.1 n1.2 (by omega) (by omega), mv_keep h ha ht hg n2.1 n2.2 (by omega) (by omega)]
      exact hr
    · intro hb
      obtain ⟨q1, q2, q3⟩ := rr_and h.1.2.1 ha ht (by omega) hb
      have hr := hR.2 q1
      have na : ∀ s, (tie s).testBit (2 * who + 1) = true → s ≠ a ∧ s ≠ t := fun s z => ⟨fun e => by rw [e, q2] at z; exact absurd z (by decide), fun e => by rw [e, q3] at z; exact absurd z (by decide)⟩
      have n1 := na _ hT.2.1
      have n2 := na _ hT.2.2.2
      rw [mv_keep h ha ht hg n1.1 n1.2 (by omega) (by omega), mv_keep h ha ht hg n2.1 n2.2 (by omega) (by omega)]
      exact hr
  · intro hp1
    rw [ppn] at hp1 ⊢
    split at hp1
    · rename_i hd
      rw [if_pos hd]
      have hpw := h.2.2.1 a ha hd.1
      have hcc : ¬ (kd (b a) = 6 ∧ isC a t = true) := by omega
      have hv := mv_nor h hg hcc
      have hm := gs_pwn h ha hg hd.1
      have e0 : (b (nx sd a)).val = 0 ∧ a / 8 = (if sd = 0 then 1 else 6) ∧ t = nx2 sd a := by
        have hnn : nx sd a = if sd = 0 then a + 8 else a - 8 := rfl
        rcases hm with q | q | q | q
        · split at hnn <;> omega
        · exact ⟨q.2.2.1, q.1, q.2.1⟩
        · split at hnn <;> omega
        · split at hnn <;> omega
      have e1 : ptg (1 - sd) (a % 8 + 1) = nx sd a := by
        have hnn := e0.2.1
        rcases (show sd = 0 ∨ sd = 1 by omega) with hz | hz
        · rw [hz] at hnn ⊢
          show a % 8 + 1 - 1 + 8 * 2 = a + 8
          have hnn : a / 8 = 1 := hnn
          omega
        · rw [hz] at hnn ⊢
          show a % 8 + 1 - 1 + 8 * 5 = a - 8
          have hnn : a / 8 = 6 := hnn
          omega
      have e2 : pbs (1 - sd) (a % 8 + 1) = t := by
        have hnn := e0.2.1
        rw [e0.2.2]
        rcases (show sd = 0 ∨ sd = 1 by omega) with hz | hz
        · rw [hz] at hnn ⊢
          show a % 8 + 1 - 1 + 8 * 3 = a + 16
          have hnn : a / 8 = 1 := hnn
          omega
        · rw [hz] at hnn ⊢
          show a % 8 + 1 - 1 + 8 * 4 = a - 16
          have hnn : a / 8 = 6 := hnn
          omega
      have hp0 : p = 0 := by
        rcases gs_pc hg with hp | ⟨hp1, hp2, hp3, hp4⟩
        · exact hp
        · have q := e0.2.1
          have q2 := e0.2.2
          rw [nx2] at q2
          by_cases hz : sd = 0
          · simp only [hz, if_true] at q q2 hp4; omega
          · simp only [hz, if_false] at q q2 hp4; omega
      rw [e1, e2, hv, hv]
      have n1 : nx sd a ≠ a := by rw [nx]; split <;> omega
      have n2 : nx sd a ≠ t := by
        have hnn := e0.2.1
        rw [e0.2.2]
        rcases (show sd = 0 ∨ sd = 1 by omega) with hz | hz
        · rw [hz]
          show a + 8 ≠ a + 16
          omega
        · rw [hz] at hnn ⊢
          show a - 8 ≠ a - 16
          have hnn : a / 8 = 6 := hnn
          omega
      constructor
      · rw [if_neg n1, if_neg n2]
        split
        · rfl
        · exact e0.1
      · rw [if_neg (Ne.symm hne), if_pos rfl, if_pos hp0, hd.1]
        omega
    · omega
  · intro who hw
    exact Nat.le_trans (mv_cnt h ha ht hg hw) (h.2.2.2.2.2.1 who hw)
  · rw [show 1 - (1 - sd) = sd by omega]
    exact hs
