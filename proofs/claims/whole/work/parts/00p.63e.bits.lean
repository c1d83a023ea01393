def tn (x : Int32) : Nat := x.toBitVec.toNat
def bt (b : Bool) : Nat := if b = true then 1 else 0
theorem tn_inj {x y : Int32} (h : tn x = tn y) : x = y := Int32.toBitVec_inj.mp (BitVec.eq_of_toNat_eq h)
theorem tn_zI {n : Nat} (h : n < 2147483648) : tn (zI (n : Int)) = n := by
  have h2 : (zI (n : Int)).toInt = (n : Int) := zI_toInt (by omega)
  have h3 : (zI (n : Int)).toInt = ((tn (zI (n : Int)) : Nat) : Int).bmod 4294967296 := by
    show (Int32.toBitVec _).toInt = _
    rw [BitVec.toInt_eq_toNat_bmod]; rfl
  have h4 : tn (zI (n : Int)) < 4294967296 := (zI (n : Int)).toBitVec.isLt
  rw [h2] at h3
  have h5 := Int.bmod_def ((tn (zI (n : Int)) : Nat) : Int) 4294967296
  omega
theorem tn_or (x y : Int32) : tn (x ||| y) = tn x ||| tn y := by
  unfold tn; rw [Int32.toBitVec_or, BitVec.toNat_or]
theorem tn_and (x y : Int32) : tn (x &&& y) = tn x &&& tn y := by
  unfold tn; rw [Int32.toBitVec_and, BitVec.toNat_and]
theorem tn_xor (x y : Int32) : tn (x ^^^ y) = tn x ^^^ tn y := by
  unfold tn; rw [Int32.toBitVec_xor, BitVec.toNat_xor]
theorem tn_b32 (b : Bool) : tn (b32 b) = bt b := by cases b <;> rfl
theorem bt_lt (b : Bool) : bt b < 2 := by cases b <;> decide
theorem tn_shl {n : Nat} (h : n < 1073741824) : tn (zI (n : Int) <<< ((1 : Int32) &&& 31)) = 2 * n := by
  have e := tn_zI (n := n) (by omega)
  unfold tn at e ⊢
  rw [show ((1 : Int32) &&& 31) = 1 from rfl, Int32.toBitVec_shiftLeft, show (Int32.toBitVec 1).smod 32 = 1#32 from by decide +kernel, BitVec.shiftLeft_eq', BitVec.toNat_shiftLeft, e, show (1#32).toNat = 1 from rfl, Nat.shiftLeft_eq]
  omega
theorem zI_shr1 {n : Nat} (h : n < 2147483648) : zI (n : Int) >>> ((1 : Int32) &&& 31) = zI ((n / 2 : Nat) : Int) := by
  apply Int32.toInt_inj.mp
  rw [show ((1 : Int32) &&& 31) = 1 from rfl]
  have e : (zI (n : Int) >>> (1 : Int32)).toInt = (n : Int) >>> 1 := by
    show (Int32.toBitVec _).toInt = _
    rw [Int32.toBitVec_shiftRight]
    rw [show (Int32.toBitVec 1).smod 32 = 1#32 from by decide +kernel, BitVec.toInt_sshiftRight']
    rw [show (1#32).toNat = 1 from rfl]
    show (zI (n : Int)).toInt >>> 1 = _
    rw [zI_toInt (by omega)]
  rw [e, Int.shiftRight_eq_div_pow, zI_toInt (by omega)]
  omega
theorem n_or1 {a b : Nat} (hb : b < 2) : 2 * a ||| b = 2 * a + b := (Nat.two_pow_add_eq_or_of_lt (i := 1) hb a).symm
theorem bt_push {n : Nat} (b : Bool) (h : n < 536870912) : (zI (n : Int) <<< ((1 : Int32) &&& 31)) ||| b32 b = zI ((2 * n + bt b : Nat) : Int) := by
  have hb := bt_lt b
  apply tn_inj
  rw [tn_or, tn_shl (by omega), tn_b32, tn_zI (by omega), n_or1 hb]
theorem bt_not {n : Nat} (b : Bool) (h : n < 536870912) : zI ((2 * n + bt b : Nat) : Int) ^^^ 1 = zI ((2 * n + bt (!b) : Nat) : Int) := by
  have hb := bt_lt b
  have hb' := bt_lt (!b)
  apply tn_inj
  rw [tn_xor, tn_zI (by omega), tn_zI (by omega), show tn 1 = 1 from rfl]
  have e1 := Nat.xor_div_two (a := 2 * n + bt b) (b := 1)
  have e2 := Nat.xor_mod_two_eq_one (a := 2 * n + bt b) (b := 1)
  rw [show (1 : Nat) / 2 = 0 from rfl, Nat.xor_zero] at e1
  cases b with
  | true =>
    have e3 : ¬ (2 * n + bt true ^^^ 1) % 2 = 1 := by
      rw [e2]; intro q; apply q
      show (2 * n + 1) % 2 = 1 ↔ 1 % 2 = 1
      omega
    show (2 * n + 1) ^^^ 1 = 2 * n + 0
    have e1 : ((2 * n + 1) ^^^ 1) / 2 = (2 * n + 1) / 2 := e1
    have e3 : ¬ ((2 * n + 1) ^^^ 1) % 2 = 1 := e3
    omega
  | false =>
    have e3 : (2 * n + bt false ^^^ 1) % 2 = 1 := by
      rw [e2]
      show ¬ ((2 * n + 0) % 2 = 1 ↔ 1 % 2 = 1)
      omega
    show (2 * n + 0) ^^^ 1 = 2 * n + 1
    have e1 : ((2 * n + 0) ^^^ 1) / 2 = (2 * n + 0) / 2 := e1
    have e3 : ((2 * n + 0) ^^^ 1) % 2 = 1 := e3
    omega
theorem bt_bit {n : Nat} (b : Bool) (h : n < 536870912) : zI ((2 * n + bt b : Nat) : Int) &&& 1 = b32 b := by
  have hb := bt_lt b
  apply tn_inj
  rw [tn_and, tn_zI (by omega), show tn 1 = 1 from rfl, Nat.and_one_is_mod, tn_b32]
  omega
theorem bt_or {n : Nat} (a b : Bool) (h : n < 268435456) : (zI ((2 * (2 * n + bt a) + bt b : Nat) : Int) >>> ((1 : Int32) &&& 31)) ||| (zI ((2 * (2 * n + bt a) + bt b : Nat) : Int) &&& 1) = zI ((2 * n + bt (a || b) : Nat) : Int) := by
  have ha := bt_lt a
  have hb := bt_lt b
  have hc := bt_lt (a || b)
  rw [bt_bit b (by omega), zI_shr1 (by omega), show (2 * (2 * n + bt a) + bt b) / 2 = 2 * n + bt a by omega]
  apply tn_inj
  rw [tn_or, tn_zI (by omega), tn_b32, tn_zI (by omega)]
  cases a with
  | false =>
    show 2 * n + 0 ||| bt b = 2 * n + bt b
    rw [Nat.add_zero, n_or1 hb]
  | true =>
    show 2 * n + 1 ||| bt b = 2 * n + 1
    rw [← n_or1 (by decide), Nat.or_assoc]
    cases b <;> rfl
theorem n_allones {m : Nat} (h : m < 2147483648) : m ||| 2147483647 = 2147483647 := by
  apply Nat.eq_of_testBit_eq
  intro i
  rw [Nat.testBit_or]
  have e : Nat.testBit 2147483647 i = decide (i < 31) := Nat.testBit_two_pow_sub_one 31 i
  rw [e]
  by_cases hi : i < 31
  · rw [decide_eq_true hi, Bool.or_true]
  · rw [decide_eq_false hi, Bool.or_false]
    exact Nat.testBit_lt_two_pow (Nat.lt_of_lt_of_le (show m < 2 ^ 31 from h) (Nat.pow_le_pow_right (by decide) (by omega)))
theorem bt_and {n : Nat} (a b : Bool) (h : n < 268435456) : (zI ((2 * (2 * n + bt a) + bt b : Nat) : Int) >>> ((1 : Int32) &&& 31)) &&& (zI ((2 * (2 * n + bt a) + bt b : Nat) : Int) ||| (-2)) = zI ((2 * n + bt (a && b) : Nat) : Int) := by
  have ha := bt_lt a
  have hb := bt_lt b
  have hc := bt_lt (a && b)
  rw [zI_shr1 (by omega), show (2 * (2 * n + bt a) + bt b) / 2 = 2 * n + bt a by omega]
  apply tn_inj
  rw [tn_and, tn_or, tn_zI (by omega), tn_zI (by omega), tn_zI (by omega), show tn (-2) = 4294967294 from by decide +kernel]
  have o1 := Nat.or_div_two (a := 2 * (2 * n + bt a) + bt b) (b := 4294967294)
  have o2 := Nat.or_mod_two_eq_one (a := 2 * (2 * n + bt a) + bt b) (b := 4294967294)
  rw [show (4294967294 : Nat) / 2 = 2147483647 from rfl, n_allones (by omega)] at o1
  rw [show (4294967294 : Nat) % 2 = 0 from rfl] at o2
  generalize (2 * (2 * n + bt a) + bt b) ||| 4294967294 = y at o1 o2
  have d1 := Nat.and_div_two (a := 2 * n + bt a) (b := y)
  have d2 := Nat.and_mod_two_eq_one (a := 2 * n + bt a) (b := y)
  rw [o1, show (2 * n + bt a) / 2 = n by omega, show (2147483647 : Nat) = 2 ^ 31 - 1 from rfl, Nat.and_two_pow_sub_one_of_lt_two_pow (by omega)] at d1
  generalize (2 * n + bt a) &&& y = x at d1 d2
  cases a <;> cases b <;> simp only [bt, Bool.and_true, Bool.and_false, Bool.true_and, Bool.false_and, if_true, if_false, Bool.false_eq_true] at * <;> omega
