/-! codes and befores: packed and unpacked -/
theorem ib_tb (n : Nat) : (nI n).toBitVec = BitVec.ofNat 32 n := rfl
theorem ib_and {a b : Nat} (ha : a < 2 ^ 32) (hb : b < 2 ^ 32) : nI a &&& nI b = nI (a &&& b) := by
  apply Int32.toBitVec_inj.mp
  rw [Int32.toBitVec_and, ib_tb, ib_tb, ib_tb]
  apply BitVec.eq_of_toNat_eq
  rw [BitVec.toNat_and, BitVec.toNat_ofNat, BitVec.toNat_ofNat, BitVec.toNat_ofNat, Nat.mod_eq_of_lt ha, Nat.mod_eq_of_lt hb, Nat.mod_eq_of_lt (Nat.and_lt_two_pow _ hb)]
theorem ib_sm : ∀ k, k < 32 → (BitVec.ofNat 32 k).smod 32 = BitVec.ofNat 32 k := by decide +kernel
theorem ib_shr {n k : Nat} (hn : n < 2 ^ 31) (hk : k < 32) : nI n >>> nI k = nI (n / 2 ^ k) := by
  apply Int32.toBitVec_inj.mp
  rw [Int32.toBitVec_shiftRight, ib_tb, ib_tb, ib_tb, ib_sm k hk]
  have hm : (BitVec.ofNat 32 n).msb = false := by
    rw [BitVec.msb_eq_decide, BitVec.toNat_ofNat, Nat.mod_eq_of_lt (by omega)]
    simp; omega
  apply BitVec.eq_of_toNat_eq
  rw [BitVec.sshiftRight_eq', BitVec.sshiftRight_eq_of_msb_false hm, BitVec.toNat_ushiftRight, BitVec.toNat_ofNat, BitVec.toNat_ofNat, BitVec.toNat_ofNat, Nat.mod_eq_of_lt (show n < 2 ^ 32 by omega), Nat.mod_eq_of_lt (show k < 2 ^ 32 by omega), Nat.shiftRight_eq_div_pow, Nat.mod_eq_of_lt]
  exact Nat.lt_of_le_of_lt (Nat.div_le_self _ _) (by omega)
theorem ib_63 {n : Nat} (hn : n < 2 ^ 31) : iI (n : Int) &&& 63 = iI ((n % 64 : Nat) : Int) := by
  rw [← iI_n, ← iI_n, show (63 : Int32) = nI 63 from rfl, ib_and (by omega) (by decide), show 63 = 2 ^ 6 - 1 from rfl, Nat.and_two_pow_sub_one_eq_mod]
theorem ib_15 {n : Nat} (hn : n < 2 ^ 31) : iI (n : Int) &&& 15 = iI ((n % 16 : Nat) : Int) := by
  rw [← iI_n, ← iI_n, show (15 : Int32) = nI 15 from rfl, ib_and (by omega) (by decide), show 15 = 2 ^ 4 - 1 from rfl, Nat.and_two_pow_sub_one_eq_mod]
theorem ib_s {n k : Nat} (hn : n < 2 ^ 31) (hk : k < 32) : iI (n : Int) >>> iI (k : Int) = iI ((n / 2 ^ k : Nat) : Int) := by
  rw [← iI_n, ← iI_n, ← iI_n, ib_shr hn hk]
theorem cod_a {a t p : Nat} (ha : a < 64) (ht : t < 64) (hp : p < 6) : iI (cod a t p : Int) &&& 63 = iI (a : Int) := by
  rw [ib_63 (by unfold cod; omega), show cod a t p % 64 = a by unfold cod; omega]
theorem cod_t {a t p : Nat} (ha : a < 64) (ht : t < 64) (hp : p < 6) : (iI (cod a t p : Int) >>> ((6 : Int32) &&& 31)) &&& 63 = iI (t : Int) := by
  rw [show ((6 : Int32) &&& 31) = iI ((6 : Nat) : Int) from rfl, ib_s (by unfold cod; omega) (by decide), ib_63 (by unfold cod; omega), show cod a t p / 2 ^ 6 % 64 = t by unfold cod; omega]
theorem cod_p {a t p : Nat} (ha : a < 64) (ht : t < 64) (hp : p < 6) : iI (cod a t p : Int) >>> ((12 : Int32) &&& 31) = iI (p : Int) := by
  rw [show ((12 : Int32) &&& 31) = iI ((12 : Nat) : Int) from rfl, ib_s (by unfold cod; omega) (by decide), show cod a t p / 2 ^ 12 = p by unfold cod; omega]
/-- what takeBack needs beside the code -/
def bef (x : Fin 13) (r pp : Nat) : Nat := x.val + 16 * r + 256 * pp
theorem bef_e : ∀ x : Fin 13, ∀ r : Nat, r < 16 → ∀ pp : Nat, pp < 9 → (iI (x.val : Int) ||| (iI (r : Int) <<< ((4 : Int32) &&& 31))) ||| ((iI ((pp : Int) - 1) + 1) <<< ((8 : Int32) &&& 31)) = iI (bef x r pp : Int) := by decide +kernel
theorem bef_x (x : Fin 13) {r pp : Nat} (hr : r < 16) (hp : pp < 9) : iI (bef x r pp : Int) &&& 15 = iI (x.val : Int) := by
  rw [ib_15 (by unfold bef; omega), show bef x r pp % 16 = x.val by unfold bef; omega]
theorem bef_r (x : Fin 13) {r pp : Nat} (hr : r < 16) (hp : pp < 9) : (iI (bef x r pp : Int) >>> ((4 : Int32) &&& 31)) &&& 15 = iI (r : Int) := by
  rw [show ((4 : Int32) &&& 31) = iI ((4 : Nat) : Int) from rfl, ib_s (by unfold bef; omega) (by decide), ib_15 (by unfold bef; omega), show bef x r pp / 2 ^ 4 % 16 = r by unfold bef; omega]
theorem bef_p (x : Fin 13) {r pp : Nat} (hr : r < 16) (hp : pp < 9) : (iI (bef x r pp : Int) >>> ((8 : Int32) &&& 31)) - 1 = iI ((pp : Int) - 1) := by
  rw [show ((8 : Int32) &&& 31) = iI ((8 : Nat) : Int) from rfl, ib_s (by unfold bef; omega) (by decide), show bef x r pp / 2 ^ 8 = pp by unfold bef; omega]
  show iI _ - iI 1 = _
  rw [iI_sub]
def tie (s : Nat) : Nat := if s = 0 then 2 else if s = 4 then 3 else if s = 7 then 1 else if s = 56 then 8 else if s = 60 then 12 else if s = 63 then 4 else 0
theorem p_tied : ∀ s : Nat, s < 64 → fn_P_rightsTiedTo (iI (s : Int)) = some (iI (tie s : Int)) := by decide +kernel
theorem m_tied : ∀ s : Nat, s < 64 → fn_M_rightsOf (iI (s : Int)) = some (iI (tie s : Int)) := by decide +kernel
theorem tie_lt : ∀ s : Nat, s < 64 → tie s < 16 := by decide
/-- the rights left -/
def rr (r a t : Nat) : Nat := r &&& (15 ^^^ (tie a ||| tie t))
theorem rr_e' : ∀ r : Nat, r < 16 → ∀ x : Nat, x < 16 → ∀ y : Nat, y < 16 → iI (r : Int) &&& ((iI (x : Int) ||| iI (y : Int)) ^^^ (-1)) = iI ((r &&& (15 ^^^ (x ||| y)) : Nat) : Int) := by decide +kernel
theorem rr_e {r a t : Nat} (hr : r < 16) (ha : a < 64) (ht : t < 64) : iI (r : Int) &&& ((iI (tie a : Int) ||| iI (tie t : Int)) ^^^ (-1)) = iI (rr r a t : Int) := rr_e' r hr _ (tie_lt a ha) _ (tie_lt t ht)
theorem rr_lt {r a t : Nat} (hr : r < 16) : rr r a t < 16 := by
  have h : rr r a t ≤ r := Nat.and_le_left
  omega
theorem rr_bit' : ∀ r : Nat, r < 16 → ∀ x : Nat, x < 16 → ∀ i : Nat, i < 4 → (r &&& (15 ^^^ x)).testBit i = (r.testBit i && !x.testBit i) := by decide +kernel
theorem rr_bit {r a t i : Nat} (hr : r < 16) (ha : a < 64) (ht : t < 64) (hi : i < 4) : (rr r a t).testBit i = (r.testBit i && !((tie a).testBit i || (tie t).testBit i)) := by
  have h : tie a ||| tie t < 2 ^ 4 := Nat.or_lt_two_pow (tie_lt a ha) (tie_lt t ht)
  rw [rr, rr_bit' r hr _ h i hi, Nat.testBit_or]
