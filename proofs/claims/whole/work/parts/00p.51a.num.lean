def zI (z : Int) : Int32 := Int32.ofInt z
theorem zI_add (a b : Int) : zI a + zI b = zI (a + b) := by simp [zI, Int32.ofInt_add]
theorem zI_sub (a b : Int) : zI a - zI b = zI (a - b) := by simp [zI, Int32.ofInt_sub]
theorem zI_mul (a b : Int) : zI a * zI b = zI (a * b) := by simp [zI, Int32.ofInt_mul]
theorem zI_neg (a : Int) : - zI a = zI (-a) := by simp [zI, Int32.ofInt_neg]
theorem zI_lit (n : Nat) : (OfNat.ofNat n : Int32) = zI (OfNat.ofNat n : Int) := by
  show Int32.ofNat n = Int32.ofInt (n : Int)
  rfl
theorem zI_toInt {a : Int} (h : -2147483648 ≤ a ∧ a < 2147483648) : (zI a).toInt = a := by
  unfold zI
  rw [Int32.toInt_ofInt]
  apply Int.bmod_eq_of_le <;> simp [Int32.size] <;> omega
theorem zI_le {a b : Int} (h : (-2147483648 ≤ a ∧ a < 2147483648) ∧ -2147483648 ≤ b ∧ b < 2147483648) : (zI a ≤ zI b) = (a ≤ b) := by
  rw [Int32.le_iff_toInt_le, zI_toInt h.1, zI_toInt h.2]
theorem zI_lt {a b : Int} (h : (-2147483648 ≤ a ∧ a < 2147483648) ∧ -2147483648 ≤ b ∧ b < 2147483648) : (zI a < zI b) = (a < b) := by
  rw [Int32.lt_iff_toInt_lt, zI_toInt h.1, zI_toInt h.2]
theorem zI_eq {a b : Int} (h : (-2147483648 ≤ a ∧ a < 2147483648) ∧ -2147483648 ≤ b ∧ b < 2147483648) : (zI a = zI b) = (a = b) := by
  apply propext; constructor
  · intro e
    have := congrArg Int32.toInt e
    rwa [zI_toInt h.1, zI_toInt h.2] at this
  · rintro rfl; rfl
theorem zI_nat {a : Int} (h : -2147483648 ≤ a ∧ a < 2147483648) : (zI a).toNatClampNeg = a.toNat := by
  show (zI a).toInt.toNat = _
  rw [zI_toInt h]
theorem zI_in {a : Int} {n : Nat} (h : 0 ≤ a ∧ a < n ∧ a < 2147483648) : vp_in (zI a) n := by
  unfold vp_in
  rw [zI_nat (by omega), Int32.lt_iff_toInt_lt, zI_toInt (by omega)]
  have : (0 : Int32).toInt = 0 := rfl
  omega
theorem zI_max {a b : Int} (h : (-2147483648 ≤ a ∧ a < 2147483648) ∧ -2147483648 ≤ b ∧ b < 2147483648) : iMax (zI a) (zI b) = zI (max a b) := by
  unfold iMax; simp only [zI_lt h]; split <;> congr 1 <;> omega
theorem zI_min {a b : Int} (h : (-2147483648 ≤ a ∧ a < 2147483648) ∧ -2147483648 ≤ b ∧ b < 2147483648) : iMin (zI a) (zI b) = zI (min a b) := by
  unfold iMin; simp only [zI_lt ⟨h.2, h.1⟩]; split <;> congr 1 <;> omega
theorem zI_abs {a : Int} (h : -2147483648 ≤ a ∧ a < 2147483648) : iAbs (zI a) = zI a.natAbs := by
  unfold iAbs; simp only [zI_lit 0, zI_le (a := OfNat.ofNat 0) (b := a) ⟨by decide, h⟩, zI_sub]
  have : (OfNat.ofNat 0 : Int) = 0 := rfl
  split <;> congr 1 <;> omega
theorem zI_of (x : Int32) : ∃ z : Int, x = zI z ∧ -2147483648 ≤ z ∧ z < 2147483648 := ⟨x.toInt, (Int32.ofInt_toInt x).symm, by have := x.le_toInt; simpa using this, by have := x.toInt_lt; simpa using this⟩
theorem zI_nI (n : Nat) : nI n = zI n := rfl
theorem upd_eq (f : Nat → Int32) (k j : Nat) (x : Int32) : upd f k x j = if j = k then x else f j := rfl
