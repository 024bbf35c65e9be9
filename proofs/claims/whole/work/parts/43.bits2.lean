/-! ===== lN n to 2^64: shifts, and, or, masks, one bit ===== -/
theorem wb_tb (n : Nat) : (lN n).toBitVec = BitVec.ofNat 64 n := rfl
theorem wb_inj {a b : Int64} (h : a.toBitVec = b.toBitVec) : a = b := Int64.toBitVec_inj.mp h
theorem wb_tn {n : Nat} (h : n < 2 ^ 64) : (lN n).toBitVec.toNat = n := by rw [wb_tb, BitVec.toNat_ofNat, Nat.mod_eq_of_lt h]
theorem wb_of (x : Int64) : ∃ n, n < 2 ^ 64 ∧ x = lN n := ⟨x.toBitVec.toNat, x.toBitVec.isLt, wb_inj (by rw [wb_tb]; simp)⟩
theorem wb_of32 (x : Int32) : ∃ n, n < 2 ^ 32 ∧ x = nI n := ⟨x.toBitVec.toNat, x.toBitVec.isLt, Int32.toBitVec_inj.mp (by show _ = BitVec.ofNat 32 _; simp)⟩
theorem wb_c : ∀ k, k < 64 → ((nI k).toInt64 &&& 63) = lN k := by decide +kernel
theorem wb_cu : ∀ k, k < 64 → ((nI k).toInt64.toUInt64 &&& Int64.toUInt64 63) = UInt64.ofNat k := by decide +kernel
theorem wb_sm : ∀ k, k < 64 → (BitVec.ofNat 64 k).smod 64 = BitVec.ofNat 64 k := by decide +kernel
theorem wb_pw {a b : Nat} (h : a ≤ b) : 2 ^ b = 2 ^ a * 2 ^ (b - a) := by rw [← Nat.pow_add]; congr 1; omega
theorem wb_lt2 {a b : Nat} (h : a < b) : 2 ^ a < 2 ^ b := Nat.pow_lt_pow_right (by decide) h
theorem wb_mod (n : Nat) : lN n = lN (n % 2 ^ 64) := wb_inj (by rw [wb_tb, wb_tb]; apply BitVec.eq_of_toNat_eq; rw [BitVec.toNat_ofNat, BitVec.toNat_ofNat, Nat.mod_mod])
theorem wb_shr {n k : Nat} (hn : n < 2 ^ 64) (hk : k < 64) : ((lN n).toUInt64 >>> ((nI k).toInt64.toUInt64 &&& Int64.toUInt64 63)).toInt64 = lN (n / 2 ^ k) := by
  rw [wb_cu k hk]
  apply wb_inj
  apply BitVec.eq_of_toNat_eq
  show ((lN n).toUInt64 >>> UInt64.ofNat k).toNat = (BitVec.ofNat 64 _).toNat
  have h1 : (UInt64.ofNat k).toNat = k := by
    show (BitVec.ofNat 64 k).toNat = k
    rw [BitVec.toNat_ofNat, Nat.mod_eq_of_lt (by omega)]
  have h2 : (lN n).toUInt64.toNat = n := wb_tn hn
  rw [UInt64.toNat_shiftRight, h1, h2, Nat.mod_eq_of_lt hk, Nat.shiftRight_eq_div_pow, BitVec.toNat_ofNat, Nat.mod_eq_of_lt (Nat.lt_of_le_of_lt (Nat.div_le_self _ _) hn)]
theorem wb_shl (n : Nat) {k : Nat} (hk : k < 64) : lN n <<< ((nI k).toInt64 &&& 63) = lN (n * 2 ^ k) := by
  rw [wb_c k hk]
  apply wb_inj
  rw [Int64.toBitVec_shiftLeft, wb_tb, wb_tb, wb_tb, wb_sm k hk]
  apply BitVec.eq_of_toNat_eq
  rw [BitVec.shiftLeft_eq', BitVec.toNat_shiftLeft, BitVec.toNat_ofNat, BitVec.toNat_ofNat, BitVec.toNat_ofNat, Nat.mod_eq_of_lt (show k < 2 ^ 64 by omega), Nat.shiftLeft_eq, Nat.mul_mod, Nat.mod_mod, ← Nat.mul_mod]
theorem wb_and {a b : Nat} (ha : a < 2 ^ 64) (hb : b < 2 ^ 64) : lN a &&& lN b = lN (a &&& b) := by
  apply wb_inj
  rw [Int64.toBitVec_and, wb_tb, wb_tb, wb_tb]
  apply BitVec.eq_of_toNat_eq
  rw [BitVec.toNat_and, BitVec.toNat_ofNat, BitVec.toNat_ofNat, BitVec.toNat_ofNat, Nat.mod_eq_of_lt ha, Nat.mod_eq_of_lt hb, Nat.mod_eq_of_lt (Nat.and_lt_two_pow _ hb)]
theorem wb_or {a b : Nat} (ha : a < 2 ^ 64) (hb : b < 2 ^ 64) : lN a ||| lN b = lN (a ||| b) := by
  apply wb_inj
  rw [Int64.toBitVec_or, wb_tb, wb_tb, wb_tb]
  apply BitVec.eq_of_toNat_eq
  rw [BitVec.toNat_or, BitVec.toNat_ofNat, BitVec.toNat_ofNat, BitVec.toNat_ofNat, Nat.mod_eq_of_lt ha, Nat.mod_eq_of_lt hb, Nat.mod_eq_of_lt (Nat.or_lt_two_pow ha hb)]
theorem wb_mask {n k : Nat} (hn : n < 2 ^ 64) (hk : k < 64) : lN n &&& lN (2 ^ k - 1) = lN (n % 2 ^ k) := by
  rw [wb_and hn (by have := wb_lt2 hk; omega), Nat.and_two_pow_sub_one_eq_mod]
theorem wb_a1 {n : Nat} (hn : n < 2 ^ 64) : lN n &&& 1 = lN (n % 2) := wb_mask (k := 1) hn (by decide)
theorem wb_bit {n k : Nat} (hn : n < 2 ^ 64) (hk : k < 64) : ((lN n).toUInt64 >>> ((nI k).toInt64.toUInt64 &&& Int64.toUInt64 63)).toInt64 &&& 1 = lN (n / 2 ^ k % 2) := by
  rw [wb_shr hn hk, wb_a1 (Nat.lt_of_le_of_lt (Nat.div_le_self _ _) hn)]
theorem bc_bound (n x : Nat) : bc_2 n (bc_1 n x) ≤ 68 * bc_m 1 n := by
  induction n generalizing x with
  | zero => simp [bc_2, bc_m]
  | succ n ih =>
    have e : x = x % 256 + 256 * (x / 256) := by omega
    have h := (bc_k2 (x % 256) (by omega)).1
    have h2 := ih (x / 256)
    rw [e, bc_s1 n _ _ (by omega), bc_s2 n _ _ (bc_k1 _ (by omega)).1]
    show _ ≤ 68 * (1 + 256 * bc_m 1 n)
    omega
theorem bc_vb (n x : Nat) : bc_v n x ≤ 8 * bc_m 1 n := by
  induction n generalizing x with
  | zero => simp [bc_v, bc_3, bc_m]
  | succ n ih =>
    have h := bc_k3 (x % 256) (by omega)
    have h2 := ih (x / 256)
    rw [bc_s]
    show bc_p (x % 256) + _ ≤ 8 * (1 + 256 * bc_m 1 n)
    unfold bc_p
    omega
theorem bc_add (x m k : Nat) : bc_c x (m + k) = bc_c x m + bc_c (x / 2 ^ m) k := by
  induction k with
  | zero => rfl
  | succ k ih =>
    show bc_c x (m + k) + (x / 2 ^ (m + k)) % 2 = bc_c x m + (bc_c (x / 2 ^ m) k + (x / 2 ^ m / 2 ^ k) % 2)
    rw [ih, Nat.div_div_eq_div_mul, ← Nat.pow_add]
    omega
theorem bc_low (x : Nat) : bc_c (x % 256) 8 = bc_c x 8 := by
  simp only [bc_c]
  omega
theorem bc_8 (x n : Nat) : bc_c x (8 + n) = bc_p (x % 256) + bc_c (x / 256) n := by
  rw [bc_add, ← bc_low, bc_pc _ (by omega)]
theorem bc_sum (x : Nat) : (let v3 := bc_v 8 x; let v4 := v3 + v3 / 256; let v5 := v4 + v4 / 65536; (v5 + v5 / 4294967296) % 128) = bc_c x 64 := by
  rw [show 64 = 8 + (8 + (8 + (8 + (8 + (8 + (8 + (8 + 0))))))) from rfl]
  simp only [bc_8]
  have hp : ∀ y, bc_p (y % 256) < 9 := fun y => bc_k3 (y % 256) (by omega)
  have z : ∀ y, bc_v 0 y = 0 := fun y => by simp [bc_v, bc_3, bc_m]
  rw [show bc_v 8 x = bc_v (7 + 1) x from rfl, bc_s, show (7 : Nat) = 6 + 1 from rfl, bc_s, show (6 : Nat) = 5 + 1 from rfl, bc_s, show (5 : Nat) = 4 + 1 from rfl, bc_s, show (4 : Nat) = 3 + 1 from rfl, bc_s, show (3 : Nat) = 2 + 1 from rfl, bc_s, show (2 : Nat) = 1 + 1 from rfl, bc_s, show (1 : Nat) = 0 + 1 from rfl, bc_s, z]
  have h0 := hp x
  have h1 := hp (x / 256)
  have h2 := hp (x / 256 / 256)
  have h3 := hp (x / 256 / 256 / 256)
  have h4 := hp (x / 256 / 256 / 256 / 256)
  have h5 := hp (x / 256 / 256 / 256 / 256 / 256)
  have h6 := hp (x / 256 / 256 / 256 / 256 / 256 / 256)
  have h7 := hp (x / 256 / 256 / 256 / 256 / 256 / 256 / 256)
  generalize bc_p (x % 256) = c0 at h0 ⊢
  generalize bc_p (x / 256 % 256) = c1 at h1 ⊢
  generalize bc_p (x / 256 / 256 % 256) = c2 at h2 ⊢
  generalize bc_p (x / 256 / 256 / 256 % 256) = c3 at h3 ⊢
  generalize bc_p (x / 256 / 256 / 256 / 256 % 256) = c4 at h4 ⊢
  generalize bc_p (x / 256 / 256 / 256 / 256 / 256 % 256) = c5 at h5 ⊢
  generalize bc_p (x / 256 / 256 / 256 / 256 / 256 / 256 % 256) = c6 at h6 ⊢
  generalize bc_p (x / 256 / 256 / 256 / 256 / 256 / 256 / 256 % 256) = c7 at h7 ⊢
  dsimp only [bc_c]
  rw [show (c0 + 256 * (c1 + 256 * (c2 + 256 * (c3 + 256 * (c4 + 256 * (c5 + 256 * (c6 + 256 * (c7 + 256 * 0)))))))) / 256 = c1 + 256 * (c2 + 256 * (c3 + 256 * (c4 + 256 * (c5 + 256 * (c6 + 256 * c7))))) from by omega]
  rw [show (c0 + 256 * (c1 + 256 * (c2 + 256 * (c3 + 256 * (c4 + 256 * (c5 + 256 * (c6 + 256 * (c7 + 256 * 0))))))) + (c1 + 256 * (c2 + 256 * (c3 + 256 * (c4 + 256 * (c5 + 256 * (c6 + 256 * c7))))))) = (c0 + c1) + 256 * ((c1 + c2) + 256 * ((c2 + c3) + 256 * ((c3 + c4) + 256 * ((c4 + c5) + 256 * ((c5 + c6) + 256 * ((c6 + c7) + 256 * c7)))))) from by omega]
  rw [show ((c0 + c1) + 256 * ((c1 + c2) + 256 * ((c2 + c3) + 256 * ((c3 + c4) + 256 * ((c4 + c5) + 256 * ((c5 + c6) + 256 * ((c6 + c7) + 256 * c7))))))) / 65536 = (c2 + c3) + 256 * ((c3 + c4) + 256 * ((c4 + c5) + 256 * ((c5 + c6) + 256 * ((c6 + c7) + 256 * c7)))) from by omega]
  rw [show ((c0 + c1) + 256 * ((c1 + c2) + 256 * ((c2 + c3) + 256 * ((c3 + c4) + 256 * ((c4 + c5) + 256 * ((c5 + c6) + 256 * ((c6 + c7) + 256 * c7)))))) + ((c2 + c3) + 256 * ((c3 + c4) + 256 * ((c4 + c5) + 256 * ((c5 + c6) + 256 * ((c6 + c7) + 256 * c7)))))) = (c0 + c1 + c2 + c3) + 256 * ((c1 + c2 + c3 + c4) + 256 * ((c2 + c3 + c4 + c5) + 256 * ((c3 + c4 + c5 + c6) + 256 * ((c4 + c5 + c6 + c7) + 256 * ((c5 + c6 + c7) + 256 * ((c6 + c7) + 256 * c7)))))) from by omega]
  rw [show ((c0 + c1 + c2 + c3) + 256 * ((c1 + c2 + c3 + c4) + 256 * ((c2 + c3 + c4 + c5) + 256 * ((c3 + c4 + c5 + c6) + 256 * ((c4 + c5 + c6 + c7) + 256 * ((c5 + c6 + c7) + 256 * ((c6 + c7) + 256 * c7))))))) / 4294967296 = (c4 + c5 + c6 + c7) + 256 * ((c5 + c6 + c7) + 256 * ((c6 + c7) + 256 * c7)) from by omega]
  omega
theorem bc_fn (N : Nat) (h : N < 2 ^ 64) : fn_JL_bitCount (lN N) = some (nI (bc_c N 64)) := by
  have m1 : (6148914691236517205 : Int64) = lN (bc_m 0x55 8) := by decide +kernel
  have m2 : (3689348814741910323 : Int64) = lN (bc_m 0x33 8) := by decide +kernel
  have m3 : (1085102592571150095 : Int64) = lN (bc_m 0x0f 8) := by decide +kernel
  have b1 : bc_m 0x55 8 < 2 ^ 64 := by decide +kernel
  have b2 : bc_m 0x33 8 < 2 ^ 64 := by decide +kernel
  have b3 : bc_m 0x0f 8 < 2 ^ 64 := by decide +kernel
  have k1 : bc_m 1 8 = 72340172838076673 := by decide +kernel
  have s1 : (1 : Int32) = nI 1 := rfl
  have s2 : (2 : Int32) = nI 2 := rfl
  have s4 : (4 : Int32) = nI 4 := rfl
  have s8 : (8 : Int32) = nI 8 := rfl
  have s16 : (16 : Int32) = nI 16 := rfl
  have s32 : (32 : Int32) = nI 32 := rfl
  have l1 : ((N / 2 ^ 1) &&& bc_m 0x55 8) ≤ N := Nat.le_trans Nat.and_le_left (Nat.div_le_self _ _)
  have v1 : bc_1 8 N < 2 ^ 64 := by unfold bc_1; omega
  have w2 := bc_bound 8 N
  have w3 := bc_vb 8 N
  rw [k1] at w2 w3
  have v2 : bc_2 8 (bc_1 8 N) < 2 ^ 63 := by omega
  have e1 : lN N - (((lN N).toUInt64 >>> ((1 : Int32).toInt64.toUInt64 &&& Int64.toUInt64 63)).toInt64 &&& (6148914691236517205 : Int64)) = lN (bc_1 8 N) := by
    rw [s1, wb_shr h (by decide), m1, wb_and (Nat.lt_of_le_of_lt (Nat.div_le_self _ _) h) b1, lN_sub l1]
    rfl
  have e2 : (lN (bc_1 8 N) &&& (3689348814741910323 : Int64)) + (((lN (bc_1 8 N)).toUInt64 >>> ((2 : Int32).toInt64.toUInt64 &&& Int64.toUInt64 63)).toInt64 &&& (3689348814741910323 : Int64)) = lN (bc_2 8 (bc_1 8 N)) := by
    rw [s2, wb_shr v1 (by decide), m2, wb_and v1 b2, wb_and (Nat.lt_of_le_of_lt (Nat.div_le_self _ _) v1) b2, lN_add]
    rfl
  have e3 : (lN (bc_2 8 (bc_1 8 N)) + ((lN (bc_2 8 (bc_1 8 N))).toUInt64 >>> ((4 : Int32).toInt64.toUInt64 &&& Int64.toUInt64 63)).toInt64) &&& (1085102592571150095 : Int64) = lN (bc_v 8 N) := by
    rw [s4, wb_shr (by omega) (by decide), m3, lN_add, wb_and (by omega) b3]
    rfl
  have u3 : bc_v 8 N < 2 ^ 60 := by omega
  have e4 : ∀ x, x < 2 ^ 60 → lN x + ((lN x).toUInt64 >>> ((8 : Int32).toInt64.toUInt64 &&& Int64.toUInt64 63)).toInt64 = lN (x + x / 256) := fun x hx => by
    rw [s8, wb_shr (by omega) (by decide), lN_add]
  have e5 : ∀ x, x < 2 ^ 61 → lN x + ((lN x).toUInt64 >>> ((16 : Int32).toInt64.toUInt64 &&& Int64.toUInt64 63)).toInt64 = lN (x + x / 65536) := fun x hx => by
    rw [s16, wb_shr (by omega) (by decide), lN_add]
  have e6 : ∀ x, x < 2 ^ 62 → lN x + ((lN x).toUInt64 >>> ((32 : Int32).toInt64.toUInt64 &&& Int64.toUInt64 63)).toInt64 = lN (x + x / 4294967296) := fun x hx => by
    rw [s32, wb_shr (by omega) (by decide), lN_add]
  have e7 : ∀ x, nI x &&& 127 = nI (x % 128) := fun x => by
    rw [pk_and (nI x) (m := 127) 7 (by decide)]
    congr 1
    show (x % 2 ^ 32) % 2 ^ 7 = x % 128
    omega
  have hs := bc_sum N
  dsimp only at hs
  rw [fn_JL_bitCount]
  simp only [qq_let]
  rw [e1, e2, e3, e4 _ u3, e5 _ (by omega), e6 _ (by omega), lN_i, e7, hs]
