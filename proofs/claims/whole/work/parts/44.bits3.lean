/-! sets of squares as bits: the lowest, the rest, all in rising order -/
theorem sb_land {j a m n k : Nat} (ha : a < 2 ^ j) (hm : m < 2 ^ j) : (a + 2 ^ j * n) &&& (m + 2 ^ j * k) = (a &&& m) + 2 ^ j * (n &&& k) := by
  have hp : 0 < 2 ^ j := Nat.two_pow_pos j
  have h1 : ((a + 2 ^ j * n) &&& (m + 2 ^ j * k)) % 2 ^ j = ((a + 2 ^ j * n) % 2 ^ j) &&& ((m + 2 ^ j * k) % 2 ^ j) := Nat.and_mod_two_pow
  have h2 : ((a + 2 ^ j * n) &&& (m + 2 ^ j * k)) / 2 ^ j = ((a + 2 ^ j * n) / 2 ^ j) &&& ((m + 2 ^ j * k) / 2 ^ j) := Nat.and_div_two_pow
  rw [Nat.add_mul_mod_self_left, Nat.add_mul_mod_self_left, Nat.mod_eq_of_lt ha, Nat.mod_eq_of_lt hm] at h1
  rw [Nat.add_mul_div_left _ _ hp, Nat.add_mul_div_left _ _ hp, Nat.div_eq_of_lt ha, Nat.div_eq_of_lt hm, Nat.zero_add, Nat.zero_add] at h2
  rw [← h1, ← h2, Nat.mod_add_div]
theorem sb_comp {n k : Nat} (h : k < 2 ^ n) : k &&& (2 ^ n - (k + 1)) = 0 := by
  apply Nat.eq_of_testBit_eq
  intro i
  rw [Nat.testBit_and, Nat.testBit_two_pow_sub_succ h, Nat.zero_testBit]
  cases k.testBit i <;> simp
theorem sb_neg {t : Nat} (h0 : 0 < t) (h : t < 2 ^ 64) : -lN t = lN (2 ^ 64 - t) := by
  apply wb_inj
  rw [Int64.toBitVec_neg, wb_tb, wb_tb]
  apply BitVec.eq_of_toNat_eq
  rw [BitVec.toNat_neg, BitVec.toNat_ofNat, BitVec.toNat_ofNat, Nat.mod_eq_of_lt h]
theorem sb_low {s k t : Nat} (hs : s < 64) (ht : t = 2 ^ s + 2 ^ (s + 1) * k) (h : t < 2 ^ 64) : lN t &&& -lN t = lN (2 ^ s) ∧ lN t &&& (lN t - 1) = lN (2 ^ (s + 1) * k) := by
  have hp : 0 < 2 ^ s := Nat.two_pow_pos s
  have hd : 2 ^ (s + 1) = 2 * 2 ^ s := by rw [Nat.pow_succ]; omega
  have h0 : 0 < t := by omega
  have h64 : (2 : Nat) ^ 64 = 2 ^ (s + 1) * 2 ^ (63 - s) := by rw [← Nat.pow_add]; congr 1; omega
  have hk : k < 2 ^ (63 - s) := by
    apply Nat.lt_of_mul_lt_mul_left (a := 2 ^ (s + 1))
    rw [← h64]
    omega
  constructor
  · rw [sb_neg h0 h, wb_and h (by omega)]
    congr 1
    have e : 2 ^ 64 - t = 2 ^ s + 2 ^ (s + 1) * (2 ^ (63 - s) - (k + 1)) := by
      rw [Nat.mul_sub, ← h64, Nat.mul_add, ht]
      have : 2 ^ (s + 1) * k + 2 ^ (s + 1) * 1 ≤ 2 ^ 64 := by
        rw [← Nat.mul_add, h64]
        exact Nat.mul_le_mul_left _ hk
      omega
    rw [e, ht, sb_land (by omega) (by omega), sb_comp hk, Nat.and_self]
    omega
  · rw [show lN t - 1 = lN (t - 1) from lN_sub (b := 1) (by omega), wb_and h (by omega)]
    congr 1
    have e : t - 1 = (2 ^ s - 1) + 2 ^ (s + 1) * k := by omega
    rw [e, ht, sb_land (by omega) (by omega), Nat.and_self, Nat.and_two_pow_sub_one_eq_mod, Nat.mod_self, Nat.zero_add]
def sb_l (t : Nat) : List Nat := (List.range 64).filter (fun j => t.testBit j)
def sb_n : List Nat → Nat
  | [] => 0
  | s :: r => 2 ^ s + sb_n r
theorem sb_app (a b : List Nat) : sb_n (a ++ b) = sb_n a + sb_n b := by
  induction a with
  | nil => simp [sb_n]
  | cons s r ih => simp only [List.cons_append, sb_n, ih]; omega
theorem sb_fl (t n : Nat) : sb_n ((List.range n).filter (fun j => t.testBit j)) = t % 2 ^ n := by
  induction n with
  | zero => simp [sb_n, Nat.mod_one]
  | succ n ih =>
    rw [List.range_succ, List.filter_append, sb_app, ih, Nat.pow_succ, Nat.mod_mul]
    have hb := Nat.testBit_eq_decide_div_mod_eq (x := t) (i := n)
    cases h : t.testBit n with
    | true =>
      rw [h] at hb
      have h1 : t / 2 ^ n % 2 = 1 := of_decide_eq_true hb.symm
      simp [h, sb_n, h1]
    | false =>
      rw [h] at hb
      have h1 : ¬ t / 2 ^ n % 2 = 1 := of_decide_eq_false hb.symm
      have h2 : t / 2 ^ n % 2 = 0 := by omega
      simp [h, sb_n, h2]
theorem sb_all {t : Nat} (h : t < 2 ^ 64) : sb_n (sb_l t) = t := by
  rw [sb_l, sb_fl, Nat.mod_eq_of_lt h]
theorem sb_cnt (t n : Nat) : bc_c t n = ((List.range n).filter (fun j => t.testBit j)).length := by
  induction n with
  | zero => rfl
  | succ n ih =>
    rw [List.range_succ, List.filter_append, List.length_append, ← ih]
    show bc_c t n + t / 2 ^ n % 2 = _
    have hb := Nat.testBit_eq_decide_div_mod_eq (x := t) (i := n)
    cases h : t.testBit n with
    | true =>
      rw [h] at hb
      have h1 : t / 2 ^ n % 2 = 1 := of_decide_eq_true hb.symm
      simp [h, h1]
    | false =>
      rw [h] at hb
      have h1 : ¬ t / 2 ^ n % 2 = 1 := of_decide_eq_false hb.symm
      have h2 : t / 2 ^ n % 2 = 0 := by omega
      simp [h, h2]
theorem sb_asc (t : Nat) : (sb_l t).Pairwise (· < ·) := List.Pairwise.filter _ List.pairwise_lt_range
theorem sb_lt {t x : Nat} (h : x ∈ sb_l t) : x < 64 := List.mem_range.mp (List.mem_filter.mp h).1
theorem sb_dvd {s : Nat} : ∀ (r : List Nat), (∀ x ∈ r, s < x) → ∃ k, sb_n r = 2 ^ (s + 1) * k
  | [], _ => ⟨0, rfl⟩
  | x :: r, h => by
    obtain ⟨k, hk⟩ := sb_dvd r (fun y hy => h y (List.mem_cons_of_mem _ hy))
    have hx := h x List.mem_cons_self
    refine ⟨2 ^ (x - (s + 1)) + k, ?_⟩
    show 2 ^ x + sb_n r = _
    rw [hk, Nat.mul_add, ← Nat.pow_add]
    congr 2
    omega
theorem sb_pcpow : ∀ s, s < 64 → bc_c (2 ^ s - 1) 64 = s := by decide +kernel
/-- lowestOf, and what is left behind it, of a set given by its rising list -/
theorem sb_step {s : Nat} {r : List Nat} (hs : s < 64) (hr : ∀ x ∈ r, s < x) (h : sb_n (s :: r) < 2 ^ 64) : fn_P_lowestOf (lN (sb_n (s :: r))) = some (nI s) ∧ lN (sb_n (s :: r)) &&& (lN (sb_n (s :: r)) - 1) = lN (sb_n r) := by
  obtain ⟨k, hk⟩ := sb_dvd r hr
  have e : sb_n (s :: r) = 2 ^ s + 2 ^ (s + 1) * k := by show 2 ^ s + sb_n r = _; rw [hk]
  obtain ⟨h1, h2⟩ := sb_low hs e h
  refine ⟨?_, by rw [h2, hk]⟩
  have hp : 0 < 2 ^ s := Nat.two_pow_pos s
  have hb : 2 ^ s < 2 ^ 64 := wb_lt2 hs
  rw [fn_P_lowestOf, h1, show lN (2 ^ s) - (1 : Int64) = lN (2 ^ s - 1) from lN_sub (b := 1) (by omega), bc_fn _ (by omega), sb_pcpow s hs]
  show some (nI s - nI s / nI 64 * nI 64) = _
  rw [pk_rem (by omega) (by omega) (by omega), Nat.mod_eq_of_lt hs]
