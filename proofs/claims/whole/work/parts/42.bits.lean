/-! Long.bitCount: byte by byte -/
theorem bc_land {a m n k : Nat} (ha : a < 256) (hm : m < 256) : (a + 256 * n) &&& (m + 256 * k) = (a &&& m) + 256 * (n &&& k) := by
  have h1 : ((a + 256 * n) &&& (m + 256 * k)) % 2 ^ 8 = ((a + 256 * n) % 2 ^ 8) &&& ((m + 256 * k) % 2 ^ 8) := Nat.and_mod_two_pow
  have h2 : ((a + 256 * n) &&& (m + 256 * k)) / 2 ^ 8 = ((a + 256 * n) / 2 ^ 8) &&& ((m + 256 * k) / 2 ^ 8) := Nat.and_div_two_pow
  have e1 : (a + 256 * n) % 2 ^ 8 = a := by omega
  have e2 : (m + 256 * k) % 2 ^ 8 = m := by omega
  have e3 : (a + 256 * n) / 2 ^ 8 = n := by omega
  have e4 : (m + 256 * k) / 2 ^ 8 = k := by omega
  rw [e1, e2] at h1
  rw [e3, e4] at h2
  omega
/-- a mask of n equal bytes -/
def bc_m (c : Nat) : Nat → Nat
  | 0 => 0
  | n + 1 => c + 256 * bc_m c n
def bc_1 (n x : Nat) : Nat := x - ((x / 2) &&& bc_m 0x55 n)
def bc_2 (n x : Nat) : Nat := (x &&& bc_m 0x33 n) + ((x / 4) &&& bc_m 0x33 n)
def bc_3 (n x : Nat) : Nat := (x + x / 16) &&& bc_m 0x0f n
def bc_b1 (a : Nat) : Nat := a - ((a / 2) &&& 0x55)
def bc_b2 (a : Nat) : Nat := (a &&& 0x33) + ((a / 4) &&& 0x33)
def bc_b3 (a : Nat) : Nat := (a + a / 16) &&& 0x0f
theorem bc_t1 : ∀ a, a < 256 → ∀ e, e < 2 → (a / 2 + 128 * e) &&& 0x55 = (a / 2) &&& 0x55 := by decide +kernel
theorem bc_t2 : ∀ a, a < 256 → ∀ e, e < 4 → (a / 4 + 64 * e) &&& 0x33 = (a / 4) &&& 0x33 := by decide +kernel
theorem bc_t3 : ∀ a, a < 69 → ∀ e, e < 5 → (a + a / 16 + 16 * e) &&& 0x0f = bc_b3 a := by decide +kernel
theorem bc_k1 : ∀ a, a < 256 → bc_b1 a < 256 ∧ ((a / 2) &&& 0x55) ≤ a := by decide +kernel
theorem bc_k2 : ∀ a, a < 256 → bc_b2 (bc_b1 a) < 69 ∧ bc_b2 (bc_b1 a) % 16 < 5 := by decide +kernel
theorem bc_k3 : ∀ a, a < 256 → bc_b3 (bc_b2 (bc_b1 a)) < 9 := by decide +kernel
theorem bc_s1 (n a x : Nat) (ha : a < 256) : bc_1 (n + 1) (a + 256 * x) = bc_b1 a + 256 * bc_1 n x := by
  have e : (a + 256 * x) / 2 = (a / 2 + 128 * (x % 2)) + 256 * (x / 2) := by omega
  have h := bc_land (a := a / 2 + 128 * (x % 2)) (m := 0x55) (n := x / 2) (k := bc_m 0x55 n) (by omega) (by decide)
  rw [bc_t1 a ha (x % 2) (by omega)] at h
  have h2 : ((x / 2) &&& bc_m 0x55 n) ≤ x / 2 := Nat.and_le_left
  have h3 := (bc_k1 a ha).2
  unfold bc_1 bc_b1
  rw [e, show bc_m 0x55 (n + 1) = 0x55 + 256 * bc_m 0x55 n from rfl, h]
  omega
theorem bc_s2 (n a x : Nat) (ha : a < 256) : bc_2 (n + 1) (a + 256 * x) = bc_b2 a + 256 * bc_2 n x := by
  have e : (a + 256 * x) / 4 = (a / 4 + 64 * (x % 4)) + 256 * (x / 4) := by omega
  have h := bc_land (a := a / 4 + 64 * (x % 4)) (m := 0x33) (n := x / 4) (k := bc_m 0x33 n) (by omega) (by decide)
  rw [bc_t2 a ha (x % 4) (by omega)] at h
  have h1 := bc_land (a := a) (m := 0x33) (n := x) (k := bc_m 0x33 n) ha (by decide)
  unfold bc_2 bc_b2
  rw [e, show bc_m 0x33 (n + 1) = 0x33 + 256 * bc_m 0x33 n from rfl, h, h1]
  omega
theorem bc_s3 (n a x : Nat) (ha : a < 69) (hx : x % 16 < 5) : bc_3 (n + 1) (a + 256 * x) = bc_b3 a + 256 * bc_3 n x := by
  have e : (a + 256 * x) + (a + 256 * x) / 16 = (a + a / 16 + 16 * (x % 16)) + 256 * (x + x / 16) := by omega
  have h := bc_land (a := a + a / 16 + 16 * (x % 16)) (m := 0x0f) (n := x + x / 16) (k := bc_m 0x0f n) (by omega) (by decide)
  rw [bc_t3 a ha (x % 16) hx] at h
  unfold bc_3
  rw [e, show bc_m 0x0f (n + 1) = 0x0f + 256 * bc_m 0x0f n from rfl, h]
/-- the bits of a byte -/
def bc_p (a : Nat) : Nat := bc_b3 (bc_b2 (bc_b1 a))
def bc_v (n x : Nat) : Nat := bc_3 n (bc_2 n (bc_1 n x))
theorem bc_lo (n x : Nat) : bc_2 n (bc_1 n x) % 16 < 5 := by
  cases n with
  | zero => simp [bc_2, bc_m]
  | succ n =>
    have e : x = x % 256 + 256 * (x / 256) := by omega
    rw [e, bc_s1 n _ _ (by omega), bc_s2 n _ _ (bc_k1 _ (by omega)).1]
    have h := (bc_k2 (x % 256) (by omega)).2
    omega
theorem bc_s (n x : Nat) : bc_v (n + 1) x = bc_p (x % 256) + 256 * bc_v n (x / 256) := by
  have e : x = x % 256 + 256 * (x / 256) := by omega
  have h1 : bc_v (n + 1) x = bc_v (n + 1) (x % 256 + 256 * (x / 256)) := by rw [← e]
  rw [h1]
  unfold bc_v bc_p
  rw [bc_s1 n _ _ (by omega), bc_s2 n _ _ (bc_k1 _ (by omega)).1, bc_s3 n _ _ (bc_k2 _ (by omega)).1 (bc_lo n _)]
/-- how many of the low n bits are set -/
def bc_c (x : Nat) : Nat → Nat
  | 0 => 0
  | n + 1 => bc_c x n + (x / 2 ^ n) % 2
theorem bc_pc : ∀ a, a < 256 → bc_p a = bc_c a 8 := by decide +kernel
