/-! ints by their numbers -/
def zI (z : Int) : Int32 := Int32.ofInt z
theorem zI_add (a b : Int) : zI a + zI b = zI (a + b) := (Int32.ofInt_add a b).symm
theorem zI_sub (a b : Int) : zI a - zI b = zI (a - b) := (Int32.ofInt_sub a b).symm
theorem zI_mul (a b : Int) : zI a * zI b = zI (a * b) := (Int32.ofInt_mul a b).symm
theorem zI_neg (a : Int) : -zI a = zI (-a) := (Int32.ofInt_neg a).symm
theorem zI_toInt {a : Int} (h1 : -2147483648 ≤ a) (h2 : a < 2147483648) : (zI a).toInt = a := Int32.toInt_ofInt_of_le (by omega) (by omega)
theorem zI_of (y : Int32) : y = zI y.toInt := (Int32.ofInt_toInt y).symm
theorem zI_in (y : Int32) : -2147483648 ≤ y.toInt ∧ y.toInt < 2147483648 := ⟨by have := Int32.le_toInt y; omega, by have := Int32.toInt_lt y; omega⟩
theorem nI_zI (n : Nat) : nI n = zI n := Int32.ofInt_eq_ofNat.symm
theorem zI_le {a b : Int} (h1 : -2147483648 ≤ a) (h2 : a < 2147483648) (h3 : -2147483648 ≤ b) (h4 : b < 2147483648) : zI a ≤ zI b ↔ a ≤ b := by
  rw [Int32.le_iff_toInt_le, zI_toInt h1 h2, zI_toInt h3 h4]
theorem zI_lt {a b : Int} (h1 : -2147483648 ≤ a) (h2 : a < 2147483648) (h3 : -2147483648 ≤ b) (h4 : b < 2147483648) : zI a < zI b ↔ a < b := by
  rw [Int32.lt_iff_toInt_lt, zI_toInt h1 h2, zI_toInt h3 h4]
theorem zI_eq {a b : Int} (h1 : -2147483648 ≤ a) (h2 : a < 2147483648) (h3 : -2147483648 ≤ b) (h4 : b < 2147483648) : zI a = zI b ↔ a = b := by
  rw [← Int32.toInt_inj, zI_toInt h1 h2, zI_toInt h3 h4]
theorem zI_div {a b : Int} (h1 : 0 ≤ a) (h2 : a < 2147483648) (h3 : 0 < b) (h4 : b < 2147483648) : zI a / zI b = zI (a / b) := by
  have h5 : 0 ≤ a / b := Int.ediv_nonneg h1 (by omega)
  have h6 : a / b ≤ a := Int.ediv_le_self b h1
  rw [← Int32.toInt_inj, Int32.toInt_div_of_ne_right _ _ (fun h => by
    have := congrArg Int32.toInt h
    rw [zI_toInt (by omega) h4] at this
    have e : (-1 : Int32).toInt = -1 := by decide
    rw [e] at this; omega), zI_toInt (by omega) h2, zI_toInt (by omega) h4, zI_toInt (by omega) (by omega), Int.tdiv_eq_ediv_of_nonneg h1]
theorem zI_rem {a b : Int} (h1 : 0 ≤ a) (h2 : a < 2147483648) (h3 : 0 < b) (h4 : b < 2147483648) : zI a - zI a / zI b * zI b = zI (a % b) := by
  rw [zI_div h1 h2 h3 h4, zI_mul, zI_sub, Int.emod_def, Int.mul_comm]
theorem zI_lit (n : Nat) : (OfNat.ofNat n : Int32) = zI n := nI_zI n
