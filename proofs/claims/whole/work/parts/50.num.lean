/-! ===== numbers: an int by the whole number that it is ===== -/
def iI (z : Int) : Int32 := Int32.ofInt z
theorem iI_of (x : Int32) : x = iI x.toInt := (Int32.ofInt_toInt x).symm
theorem iI_toInt {z : Int} (h1 : -2147483648 ≤ z) (h2 : z < 2147483648) : (iI z).toInt = z := Int32.toInt_ofInt_of_le h1 h2
theorem iI_add (a b : Int) : iI a + iI b = iI (a + b) := (Int32.ofInt_add a b).symm
theorem iI_sub (a b : Int) : iI a - iI b = iI (a - b) := (Int32.ofInt_sub a b).symm
theorem iI_mul (a b : Int) : iI a * iI b = iI (a * b) := (Int32.ofInt_mul a b).symm
theorem iI_neg (a : Int) : -iI a = iI (-a) := (Int32.ofInt_neg a).symm
theorem iI_nat (n : Nat) : nI n = iI n := rfl
theorem iI_le {a b : Int} (ha : -2147483648 ≤ a ∧ a < 2147483648) (hb : -2147483648 ≤ b ∧ b < 2147483648) : iI a ≤ iI b ↔ a ≤ b := by
  rw [Int32.le_iff_toInt_le, iI_toInt ha.1 ha.2, iI_toInt hb.1 hb.2]
theorem iI_lt {a b : Int} (ha : -2147483648 ≤ a ∧ a < 2147483648) (hb : -2147483648 ≤ b ∧ b < 2147483648) : iI a < iI b ↔ a < b := by
  rw [Int32.lt_iff_toInt_lt, iI_toInt ha.1 ha.2, iI_toInt hb.1 hb.2]
theorem iI_eq {a b : Int} (ha : -2147483648 ≤ a ∧ a < 2147483648) (hb : -2147483648 ≤ b ∧ b < 2147483648) : iI a = iI b ↔ a = b := by
  rw [← Int32.toInt_inj, iI_toInt ha.1 ha.2, iI_toInt hb.1 hb.2]
theorem iI_div {a b : Int} (ha : -2147483648 < a ∧ a < 2147483648) (hb : -2147483648 ≤ b ∧ b < 2147483648) : iI a / iI b = iI (a.tdiv b) := by
  have h : (iI a / iI b).toInt = a.tdiv b := by
    rw [Int32.toInt_div_of_ne_left, iI_toInt (by omega) ha.2, iI_toInt hb.1 hb.2]
    intro h
    have := congrArg Int32.toInt h
    rw [iI_toInt (by omega) ha.2] at this
    rw [this] at ha
    exact absurd ha.1 (by decide)
  rw [iI_of (iI a / iI b), h]
theorem iI_rng (x : Int32) : -2147483648 ≤ x.toInt ∧ x.toInt < 2147483648 := ⟨Int32.le_toInt x, Int32.toInt_lt x⟩
theorem iI_cl {z : Int} (h1 : 0 ≤ z) (h2 : z < 2147483648) : nt (iI z) = z.toNat := by
  show (iI z).toNatClampNeg = z.toNat
  have h := iI_toInt (z := z) (by omega) h2
  simp [Int32.toNatClampNeg, h]
theorem iI_ib {z : Int} {n : Nat} (hz : -2147483648 ≤ z ∧ z < 2147483648) : ib (iI z) n ↔ 0 ≤ z ∧ z < n := by
  have h : ib (iI z) n ↔ vp_in (iI z) n := Iff.rfl
  rw [h, vp_in_iff, iI_toInt hz.1 hz.2]
