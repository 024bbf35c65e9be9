/-! whole numbers as ints: how the printed functions count -/
def iI (z : Int) : Int32 := Int32.ofInt z
theorem iI_n (n : Nat) : nI n = iI (n : Int) := by
  unfold iI
  exact (Int32.ofInt_eq_ofNat).symm
theorem iI_lit (n : Nat) : (OfNat.ofNat n : Int32) = iI (OfNat.ofNat n : Int) := iI_n n
theorem iI_m1 : (-1 : Int32) = iI (-1) := by decide
theorem iI_neg (a : Int) : -iI a = iI (-a) := (Int32.ofInt_neg a).symm
theorem iI_add (a b : Int) : iI a + iI b = iI (a + b) := (Int32.ofInt_add a b).symm
theorem iI_sub (a b : Int) : iI a - iI b = iI (a - b) := (Int32.ofInt_sub a b).symm
theorem iI_mul (a b : Int) : iI a * iI b = iI (a * b) := (Int32.ofInt_mul a b).symm
theorem iI_to {a : Int} (h1 : -2147483648 ≤ a) (h2 : a < 2147483648) : (iI a).toInt = a := Int32.toInt_ofInt_of_le h1 h2
theorem iI_lt {a b : Int} (h1 : -2147483648 ≤ a) (h2 : a < 2147483648) (h3 : -2147483648 ≤ b) (h4 : b < 2147483648) : (iI a < iI b) = (a < b) := by
  rw [Int32.lt_iff_toInt_lt, iI_to h1 h2, iI_to h3 h4]
theorem iI_le {a b : Int} (h1 : -2147483648 ≤ a) (h2 : a < 2147483648) (h3 : -2147483648 ≤ b) (h4 : b < 2147483648) : (iI a ≤ iI b) = (a ≤ b) := by
  rw [Int32.le_iff_toInt_le, iI_to h1 h2, iI_to h3 h4]
theorem iI_eq {a b : Int} (h1 : -2147483648 ≤ a) (h2 : a < 2147483648) (h3 : -2147483648 ≤ b) (h4 : b < 2147483648) : (iI a = iI b) = (a = b) := by
  rw [← Int32.toInt_inj, iI_to h1 h2, iI_to h3 h4]
theorem iI_div {a b : Int} (h1 : 0 ≤ a) (h2 : a < 2147483648) (h3 : 0 < b) (h4 : b < 2147483648) : iI a / iI b = iI (a / b) := by
  apply Int32.toInt_inj.mp
  have hle : a / b ≤ a := Int.ediv_le_self b h1
  have hge : 0 ≤ a / b := Int.ediv_nonneg h1 (by omega)
  rw [iI_to (by omega) (by omega), Int32.toInt_div_of_ne_left _ _ (by
    intro h
    have := congrArg Int32.toInt h
    rw [iI_to (by omega) (by omega)] at this
    have h5 : Int32.minValue.toInt = -2147483648 := by decide
    omega), iI_to (by omega) (by omega), iI_to (by omega) (by omega), Int.tdiv_eq_ediv_of_nonneg h1]
theorem iI_cl {a : Int} (h1 : 0 ≤ a) (h2 : a < 2147483648) : (iI a).toNatClampNeg = a.toNat := by
  rw [Int32.toNatClampNeg, iI_to (by omega) h2]
theorem iI_cn {n : Nat} (h2 : n < 2147483648) : (iI (n : Int)).toNatClampNeg = n := by
  rw [iI_cl (by omega) (by omega)]; omega
theorem iI_in {a : Int} {n : Nat} (h0 : 0 ≤ a) (h1 : a < n) (h2 : n < 2147483648) : qq_in (iI a) n = true := by
  have h : (iI a).toNatClampNeg = a.toNat := iI_cl h0 (by omega)
  have h3 : iI 0 ≤ iI a := by rw [iI_le (by omega) (by omega) (by omega) (by omega)]; exact h0
  have h4 : (0 : Int32) ≤ iI a := h3
  simp only [qq_in, h, h4, decide_true, Bool.true_and, decide_eq_true_eq]
  omega
theorem iI_ckt {β : Type} (k : Option β) : qq_ck true k = k := rfl
theorem iI_b0 : qq_b 0 = true := by decide
theorem iI_b1 : qq_b 1 = true := by decide
theorem iI_bz (b : Bool) : qq_b (ge_z b) = true := by cases b <;> decide
theorem iI_z (b : Bool) : (ge_z b = 0) = (b = false) := by cases b <;> simp [ge_z]
theorem iI_fin (p : Fin 13) : (p : Int) < 13 := by omega
theorem iI_md (a : Int) (k : Int) : a - a / k * k = a % k := by
  have := Int.emod_add_mul_ediv a k
  have h2 : a / k * k = k * (a / k) := Int.mul_comm _ _
  omega
theorem iI_ltT {a b : Int} (h1 : -2147483648 ≤ a) (h4 : b < 2147483648) (h : a < b) : (iI a < iI b) = True := by
  rw [iI_lt (by omega) (by omega) (by omega) (by omega)]; exact eq_true h
theorem iI_ltF {a b : Int} (h1 : -2147483648 ≤ b) (h4 : a < 2147483648) (h : b ≤ a) : (iI a < iI b) = False := by
  rw [iI_lt (by omega) (by omega) (by omega) (by omega)]; exact eq_false (by omega)
theorem iI_leT {a b : Int} (h1 : -2147483648 ≤ a) (h4 : b < 2147483648) (h : a ≤ b) : (iI a ≤ iI b) = True := by
  rw [iI_le (by omega) (by omega) (by omega) (by omega)]; exact eq_true h
theorem iI_leF {a b : Int} (h1 : -2147483648 ≤ b) (h4 : a < 2147483648) (h : b < a) : (iI a ≤ iI b) = False := by
  rw [iI_le (by omega) (by omega) (by omega) (by omega)]; exact eq_false (by omega)
theorem iI_eqT {a b : Int} (h : a = b) : (iI a = iI b) = True := by rw [h]; exact eq_true rfl
theorem iI_eqF {a b : Int} (h : a ≠ b) (h1 : -2147483648 ≤ a) (h2 : a < 2147483648) (h3 : -2147483648 ≤ b) (h4 : b < 2147483648) : (iI a = iI b) = False := by
  rw [iI_eq h1 h2 h3 h4]; exact eq_false h
theorem iI_z0 (b : Bool) : (ge_z b = iI 0) = (b = false) := by cases b <;> simp [ge_z] <;> decide
theorem iI_bz0 : qq_b (iI 0) = true := by decide
theorem iI_bz1 : qq_b (iI 1) = true := by decide
theorem ge_z1 : iI 1 = ge_z true := by decide
theorem ge_z00 : iI 0 = ge_z false := by decide
theorem hd_ck {β : Type} {b : Bool} {k r : Option β} (hb : b = true) (h : k = r) : qq_ck b k = r := by rw [hb]; exact h
theorem hd_T {β : Type} {c : Prop} {_ : Decidable c} {a b r : β} (hc : c) (h : a = r) : (if c then a else b) = r := by rw [if_pos hc]; exact h
theorem hd_F {β : Type} {c : Prop} {_ : Decidable c} {a b r : β} (hc : ¬ c) (h : b = r) : (if c then a else b) = r := by rw [if_neg hc]; exact h
theorem hd_b {α β : Type} {x : Option α} {v : α} {k : α → Option β} {r : Option β} (hx : x = some v) (h : k v = r) : x.bind k = r := by rw [hx]; exact h
