/-! isHitBy: along the ways, then by jumps -/
theorem pz_ck {β : Type} (k : Option β) : qq_ck true k = k := rfl
theorem pz_in {j n : Nat} (h : j < n) (hn : n < 2 ^ 31) : qq_in (nI j) n = true := by
  have h1 : (nI j).toNatClampNeg = j := nI_clamp (by omega)
  have h2 : (0 : Int32) ≤ nI j := nI_pos' (by omega)
  simp [qq_in, h1, h2, h]
theorem pz_cl {j : Nat} (h : j < 2 ^ 31) : (nI j).toNatClampNeg = j := nI_clamp h
theorem pz_eq {a b : Nat} (ha : a < 2 ^ 31) (hb : b < 2 ^ 31) : nI a = nI b ↔ a = b := nI_eq ha hb
def hh_w (b : Nat → Nat) (who w s : Nat) : Nat → Nat → Bool
  | 0, _ => false
  | k + 1, d => if b (ge_at w s d) = 0 then hh_w b who w s k (d + 1) else ge_co (b (ge_at w s d)) who w d
theorem hb_24 {b : Nat → Nat} {who w s : Nat} (hwho : who < 2) (hw : w < 8) (hs : s < 64) (hb : ∀ j, j < 64 → b j < 13) (k2 : Int32 → Option Int32) : ∀ (k d n : Nat), d + k = ge_st w s → k + 2 ≤ n →
    lo_P_isHitBy_24 (fun j => nI (b j)) (nI who) (nI s) k2 n (nI w) (nI (ge_st w s)) (nI (ge_at w s d)) 1 (nI (d + 1)) = if hh_w b who w s k (d + 1) = true then some 1 else k2 (nI (w + 1)) := by
  have hst := ge_st_le w hw s hs
  intro k
  induction k with
  | zero =>
    intro d n hd hn
    obtain ⟨n, rfl⟩ : ∃ m, n = m + 1 := ⟨n - 1, by omega⟩
    rw [lo_P_isHitBy_24_s, if_pos (nI_lt (by omega) (by omega)), bk_P_isHitBy_98]
    simp only [qq_let, nI_1, hh_w]
    rfl
  | succ k ih =>
    intro d n hd hn
    obtain ⟨n, rfl⟩ : ∃ m, n = m + 1 := ⟨n - 1, by omega⟩
    have hat := ge_at_lt w hw s hs (d + 1) (by omega) (by omega)
    have hbq := hb _ hat
    rw [lo_P_isHitBy_24_s, if_neg (nI_nlt (by omega) (by omega)), if_neg (by decide), pz_in hw (by decide), pz_ck]
    simp only [qq_let]
    rw [ge_at_s w hw s hs d (by omega) (by omega), pz_in hat (by decide), pz_ck, pz_cl (by omega)]
    by_cases h0 : b (ge_at w s (d + 1)) = 0
    · rw [if_pos (by rw [h0]; rfl), bk_P_isHitBy_61, if_neg (by decide), bk_P_isHitBy_92]
      simp only [qq_let, nI_1]
      rw [ih (d + 1) n (by omega) (by omega)]
      simp only [hh_w, h0, if_true]
    · rw [if_neg (nI_ne0 (by omega) (by omega)), bk_P_isHitBy_61, if_pos rfl, pz_in hat (by decide), pz_ck, pz_cl (by omega), ge_comes _ hbq who hwho w hw (d + 1) (by omega)]
      simp only [Option.bind_some, hh_w, h0, if_false]
      cases hco : ge_co (b (ge_at w s (d + 1))) who w (d + 1) with
      | true => simp only [ge_z, if_true]; rw [if_neg (by decide)]
      | false =>
        obtain ⟨n, rfl⟩ : ∃ m, n = m + 1 := ⟨n - 1, by omega⟩
        simp only [ge_z, Bool.false_eq_true, if_false, if_true]
        rw [bk_P_isHitBy_92]
        simp only [qq_let, nI_1]
        rw [lo_P_isHitBy_24_s]
        by_cases h1 : nI (ge_st w s) < nI (d + 1 + 1)
        · rw [if_pos h1, bk_P_isHitBy_98]
          simp only [qq_let, nI_1]
        · rw [if_neg h1, if_pos rfl, bk_P_isHitBy_98]
          simp only [qq_let, nI_1]
def hh_j (b : Nat → Nat) (who s j : Nat) : Bool := ge_jin j s && (b (ge_jt j s) == 2 + 6 * who)
theorem hb_114 {b : Nat → Nat} {who s : Nat} (hwho : who < 2) (hs : s < 64) (hb : ∀ j, j < 64 → b j < 13) : ∀ (k j n : Nat), j + k = 8 → k + 1 ≤ n →
    lo_P_isHitBy_114 (fun j => nI (b j)) (nI who) (nI s) n (nI (2 + 6 * who)) (nI j) = some (ge_z ((List.range' j k).any (hh_j b who s))) := by
  intro k
  induction k with
  | zero =>
    intro j n hj hn
    obtain ⟨n, rfl⟩ : ∃ m, n = m + 1 := ⟨n - 1, by omega⟩
    rw [lo_P_isHitBy_114_s, if_pos (show (8 : Int32) ≤ nI j from nI_le (a := 8) (b := j) (by omega) (by omega))]
    rfl
  | succ k ih =>
    intro j n hj hn
    obtain ⟨n, rfl⟩ : ∃ m, n = m + 1 := ⟨n - 1, by omega⟩
    rw [lo_P_isHitBy_114_s, if_neg (show ¬ (8 : Int32) ≤ nI j from nI_ge (a := j) (b := 8) (by omega) (by omega)), ge_jump j (by omega) s hs]
    simp only [Option.bind_some, List.range'_succ, List.any_cons]
    have hgo : bk_P_isHitBy_148 (fun j => nI (b j)) (nI who) (nI s) (lo_P_isHitBy_114 (fun j => nI (b j)) (nI who) (nI s) n) (nI (2 + 6 * who)) (nI j) = some (ge_z ((List.range' (j + 1) k).any (hh_j b who s))) := by
      rw [bk_P_isHitBy_148]
      simp only [qq_let, nI_1]
      exact ih (j + 1) n (by omega) (by omega)
    cases hin : ge_jin j s with
    | false =>
      have h1 : hh_j b who s j = false := by simp [hh_j, hin]
      rw [h1]
      simp only [Bool.false_eq_true, if_false, if_true, Bool.false_or]
      exact hgo
    | true =>
      have hlt := ge_jt_lt j (by omega) s hs hin
      have hbq := hb _ hlt
      simp only [if_true]
      rw [if_neg (by
        intro h
        have h1 := congrArg Int32.toInt h
        rw [nI_toInt (by omega)] at h1
        have h2 : (-1 : Int32).toInt = -1 := by decide
        rw [h2] at h1
        omega), pz_in hlt (by decide), pz_ck, pz_cl (by omega)]
      by_cases h0 : b (ge_jt j s) = 2 + 6 * who
      · have h1 : hh_j b who s j = true := by simp [hh_j, hin, h0]
        rw [h1, if_pos (by rw [h0])]
        rfl
      · have h1 : hh_j b who s j = false := by simp [hh_j, hin, h0]
        rw [h1, if_neg (fun h => h0 ((nI_eq (by omega) (by omega)).mp h))]
        simp only [Bool.false_or]
        exact hgo
/-- a square is hit: along one of the eight ways, or by a jump -/
def hh_way (b : Nat → Nat) (who s w : Nat) : Bool := hh_w b who w s (ge_st w s) 1
def hh_b (b : Nat → Nat) (who s : Nat) : Bool := (List.range' 0 8).any (hh_way b who s) || (List.range' 0 8).any (hh_j b who s)
theorem hb_2 {b : Nat → Nat} {who s : Nat} (hwho : who < 2) (hs : s < 64) (hb : ∀ j, j < 64 → b j < 13) : ∀ (k w n : Nat), w + k = 8 → k + 1 ≤ n →
    lo_P_isHitBy_2 (fun j => nI (b j)) (nI who) (nI s) n (nI w) = some (ge_z ((List.range' w k).any (hh_way b who s) || (List.range' 0 8).any (hh_j b who s))) := by
  intro k
  induction k with
  | zero =>
    intro w n hw hn
    obtain ⟨n, rfl⟩ : ∃ m, n = m + 1 := ⟨n - 1, by omega⟩
    rw [lo_P_isHitBy_2_s, if_pos (show (8 : Int32) ≤ nI w from nI_le (a := 8) (b := w) (by omega) (by omega))]
    simp only [qq_let]
    have e : (2 : Int32) + 6 * nI who = nI (2 + 6 * who) := by
      rw [show (6 : Int32) = nI 6 from rfl, show (2 : Int32) = nI 2 from rfl, pk_mul, nI_add]
    rw [e, show (0 : Int32) = nI 0 from rfl, hb_114 hwho hs hb 8 0 qq_FU (by omega) (by decide)]
    simp only [List.range'_zero, List.any_nil, Bool.false_or]
  | succ k ih =>
    intro w n hw hn
    obtain ⟨n, rfl⟩ : ∃ m, n = m + 1 := ⟨n - 1, by omega⟩
    have hst := ge_st_le w (by omega) s hs
    have hfu : qq_FU = 1000 := rfl
    rw [lo_P_isHitBy_2_s, if_neg (show ¬ (8 : Int32) ≤ nI w from nI_ge (a := w) (b := 8) (by omega) (by omega)), ge_steps w (by omega) s hs]
    simp only [Option.bind_some]
    have h24 := hb_24 (b := b) (who := who) (w := w) (s := s) hwho (by omega) hs hb (lo_P_isHitBy_2 (fun j => nI (b j)) (nI who) (nI s) n) (ge_st w s) 0 qq_FU (by omega) (by omega)
    rw [show ge_at w s 0 = s from by simp [ge_at]] at h24
    rw [show (1 : Int32) = nI (0 + 1) from rfl] at h24 ⊢
    rw [h24]
    simp only [List.range'_succ, List.any_cons]
    cases hwy : hh_w b who w s (ge_st w s) (0 + 1) with
    | true =>
      have h1 : hh_way b who s w = true := hwy
      rw [h1]
      rfl
    | false =>
      have h1 : hh_way b who s w = false := hwy
      rw [h1, ih (w + 1) n (by omega) (by omega)]
      simp only [Bool.false_eq_true, if_false, Bool.false_or]
      rfl
theorem hb_P {b : Nat → Nat} {who s : Nat} (hwho : who < 2) (hs : s < 64) (hb : ∀ j, j < 64 → b j < 13) : fn_P_isHitBy (fun j => nI (b j)) (nI who) (nI s) = some (ge_z (hh_b b who s)) := by
  rw [fn_P_isHitBy, show (0 : Int32) = nI 0 from rfl]
  exact hb_2 hwho hs hb 8 0 qq_FU (by omega) (by decide)
