def sgn (x : Int) : Int := if x < 0 then -1 else if x = 0 then 0 else 1
theorem sg_shr {x : Int} (h : -2147483648 < x ∧ x < 2147483648) : (zI x) >>> ((31 : Int32) &&& 31) = zI (if x < 0 then -1 else 0) := by
  apply Int32.toInt_inj.mp
  have e : ((zI x) >>> ((31 : Int32) &&& 31)).toInt = x >>> 31 := by
    rw [show ((31 : Int32) &&& 31) = 31 from rfl]
    show (Int32.toBitVec _).toInt = _
    rw [Int32.toBitVec_shiftRight]
    rw [show (Int32.toBitVec 31).smod 32 = 31#32 from by decide +kernel, BitVec.toInt_sshiftRight']
    rw [show (31#32).toNat = 31 from rfl]
    show (zI x).toInt >>> 31 = _
    rw [zI_toInt (by omega)]
  rw [e, Int.shiftRight_eq_div_pow]
  by_cases h0 : x < 0
  · rw [if_pos h0, zI_toInt (by omega)]; omega
  · rw [if_neg h0, zI_toInt (by omega)]; omega
theorem sg_ushr {x : Int} (h : -2147483648 < x ∧ x < 2147483648) : ((zI x).toUInt32 >>> ((31 : Int32).toUInt32 &&& Int32.toUInt32 31)).toInt32 = zI (if x < 0 then 1 else 0) := by
  have e : ((zI x).toUInt32 >>> ((31 : Int32).toUInt32 &&& Int32.toUInt32 31)) = (if x < 0 then 1 else 0 : UInt32) := by
    apply UInt32.toNat_inj.mp
    rw [show ((31 : Int32).toUInt32 &&& Int32.toUInt32 31) = 31 from rfl, UInt32.toNat_shiftRight, show (31 : UInt32).toNat % 32 = 31 from rfl, Nat.shiftRight_eq_div_pow]
    have h1 : ((zI x).toUInt32.toNat : Int) = x % 4294967296 := by
      have h2 := zI_toInt (a := x) (by omega)
      have h3 : (zI x).toInt = ((zI x).toUInt32.toNat : Int).bmod 4294967296 := by
        show (Int32.toBitVec _).toInt = _
        rw [BitVec.toInt_eq_toNat_bmod]; rfl
      have h4 : (zI x).toUInt32.toNat < 4294967296 := UInt32.toNat_lt _
      rw [h2] at h3
      have h5 := Int.bmod_def ((zI x).toUInt32.toNat : Int) 4294967296
      omega
    by_cases h0 : x < 0
    · rw [if_pos h0]; show _ = 1; omega
    · rw [if_neg h0]; show _ = 0; omega
  rw [e]
  by_cases h0 : x < 0
  · rw [if_pos h0, if_pos h0]; rfl
  · rw [if_neg h0, if_neg h0]; rfl
theorem sg_num {post : Int32 → Unit → Prop} {x : Int} (h : -2147483648 < x ∧ x < 2147483648) (hp : post (zI (sgn x)) ()) : wpJ6_signum_0f7a4 post (zI x) := by
  unfold wpJ6_signum_0f7a4
  rw [sg_shr h, zI_neg, sg_ushr (x := -x) (by omega)]
  have e : zI (if x < 0 then -1 else 0) ||| zI (if -x < 0 then 1 else 0) = zI (sgn x) := by
    unfold sgn
    rcases Int.lt_trichotomy x 0 with h0 | h0 | h0
    · rw [if_pos h0, if_neg (by omega), if_pos h0]; rfl
    · subst h0; rfl
    · rw [if_neg (by omega), if_pos (by omega), if_neg (by omega), if_neg (by omega)]; rfl
  rw [e]; exact hp
theorem mul_b {x y n : Int} (hx : -n ≤ x ∧ x ≤ n) (hy : -n ≤ y ∧ y ≤ n) : -(n * n) ≤ x * y ∧ x * y ≤ n * n := by
  have a1 := sq_le hx
  have a2 := sq_le hy
  have a3 := (sq_le (x := x + y) (n := n + n) (by omega)).1
  have a4 := (sq_le (x := x - y) (n := n + n) (by omega)).1
  rw [Int.add_mul, Int.mul_add, Int.mul_add, Int.mul_comm y x] at a3
  rw [Int.sub_mul, Int.mul_sub, Int.mul_sub, Int.mul_comm y x] at a4
  omega
def sdz (x1 y1 x2 y2 x y : Int) : Int := (x2 - x1) * (y - y1) - (y2 - y1) * (x - x1)
def pt (x : Int) : Prop := 0 ≤ x ∧ x ≤ 999
theorem sdz_b {x1 y1 x2 y2 x y : Int} (h1 : pt x1) (h2 : pt y1) (h3 : pt x2) (h4 : pt y2) (h5 : pt x) (h6 : pt y) : -1996002 ≤ sdz x1 y1 x2 y2 x y ∧ sdz x1 y1 x2 y2 x y ≤ 1996002 := by
  unfold pt at *
  have a1 := mul_b (x := x2 - x1) (y := y - y1) (n := 999) (by omega) (by omega)
  have a2 := mul_b (x := y2 - y1) (y := x - x1) (n := 999) (by omega) (by omega)
  unfold sdz
  omega
def onz (x1 y1 x2 y2 x y : Int) : Prop := sdz x1 y1 x2 y2 x y = 0 ∧ (min x1 x2 ≤ x ∧ x ≤ max x1 x2) ∧ min y1 y2 ≤ y ∧ y ≤ max y1 y2
def crs (a b c d m1 m2 d1 d2 : Int) : Prop := (min a c ≤ max m1 d1 ∧ min m1 d1 ≤ max a c) ∧ (min b d ≤ max m2 d2 ∧ min m2 d2 ≤ max b d) ∧ sdz m1 m2 d1 d2 a b * sdz m1 m2 d1 d2 c d ≤ 0 ∧ sdz a b c d m1 m2 * sdz a b c d d1 d2 ≤ 0
theorem crs_iff (a b c d m1 m2 d1 d2 : Int) : crs a b c d m1 m2 d1 d2 ↔ (onz m1 m2 d1 d2 a b ∨ onz m1 m2 d1 d2 c d ∨ onz a b c d m1 m2 ∨ onz a b c d d1 d2 ∨ (sdz m1 m2 d1 d2 a b * sdz m1 m2 d1 d2 c d < 0 ∧ sdz a b c d m1 m2 * sdz a b c d d1 d2 < 0)) := by
  have k := ge_core (u1 := d1 - m1) (u2 := d2 - m2) (p1 := a - m1) (p2 := b - m2) (v1 := c - a) (v2 := d - b) (sA := sdz m1 m2 d1 d2 a b) (sM := sdz a b c d m1 m2) (K := (d1 - m1) * (d - b) - (d2 - m2) * (c - a)) rfl
    (by unfold sdz; simp only [Int.sub_mul, Int.mul_sub]; omega) rfl
  have e1 : sdz m1 m2 d1 d2 a b + ((d1 - m1) * (d - b) - (d2 - m2) * (c - a)) = sdz m1 m2 d1 d2 c d := by
    unfold sdz; simp only [Int.sub_mul, Int.mul_sub]; omega
  have e2 : sdz a b c d m1 m2 - ((d1 - m1) * (d - b) - (d2 - m2) * (c - a)) = sdz a b c d d1 d2 := by
    unfold sdz; simp only [Int.sub_mul, Int.mul_sub, Int.mul_comm]; omega
  rw [e1, e2] at k
  have z1 : bxs (d1 - m1) (a - m1) (c - a) ↔ (min a c ≤ max m1 d1 ∧ min m1 d1 ≤ max a c) := by unfold bxs; omega
  have z2 : bxs (d2 - m2) (b - m2) (d - b) ↔ (min b d ≤ max m2 d2 ∧ min m2 d2 ≤ max b d) := by unfold bxs; omega
  have y1 : ∀ s, onP s 0 0 (d1 - m1) (d2 - m2) (a - m1) (b - m2) ↔ (s = 0 ∧ (min m1 d1 ≤ a ∧ a ≤ max m1 d1) ∧ min m2 d2 ≤ b ∧ b ≤ max m2 d2) := fun s => by unfold onP; omega
  have y2 : ∀ s, onP s 0 0 (d1 - m1) (d2 - m2) (a - m1 + (c - a)) (b - m2 + (d - b)) ↔ (s = 0 ∧ (min m1 d1 ≤ c ∧ c ≤ max m1 d1) ∧ min m2 d2 ≤ d ∧ d ≤ max m2 d2) := fun s => by unfold onP; omega
  have y3 : ∀ s, onP s (a - m1) (b - m2) (a - m1 + (c - a)) (b - m2 + (d - b)) 0 0 ↔ (s = 0 ∧ (min a c ≤ m1 ∧ m1 ≤ max a c) ∧ min b d ≤ m2 ∧ m2 ≤ max b d) := fun s => by unfold onP; omega
  have y4 : ∀ s, onP s (a - m1) (b - m2) (a - m1 + (c - a)) (b - m2 + (d - b)) (d1 - m1) (d2 - m2) ↔ (s = 0 ∧ (min a c ≤ d1 ∧ d1 ≤ max a c) ∧ min b d ≤ d2 ∧ d2 ≤ max b d) := fun s => by unfold onP; omega
  rw [z1, z2, y1, y2, y3, y4] at k
  exact k
theorem sp_isCrossed {post : Int32 → Unit → Prop} {f : Nat → Int32} {n a b c d m1 m2 d1 d2 : Int} (hn : 0 ≤ n ∧ n < 8) (ha : pt a) (hb : pt b) (hc : pt c) (hd : pt d) (h1 : pt m1) (h2 : pt m2) (h3 : pt d1) (h4 : pt d2)
    (fa : f (4 * n).toNat = zI a) (fb : f (4 * n + 1).toNat = zI b) (fc : f (4 * n + 2).toNat = zI c) (fd : f (4 * n + 3).toNat = zI d)
    (p1 : crs a b c d m1 m2 d1 d2 → post 1 ()) (p0 : ¬ crs a b c d m1 m2 d1 d2 → post 0 ()) : wpX1_isCrossed post f (zI n) (zI m1) (zI m2) (zI d1) (zI d2) := by
  have b5 := sdz_b h1 h2 h3 h4 ha hb
  have b6 := sdz_b h1 h2 h3 h4 hc hd
  have b7 := sdz_b ha hb hc hd h1 h2
  have b8 := sdz_b ha hb hc hd h3 h4
  have c5 := mul_b (n := 1996002) b5 b6
  have c7 := mul_b (n := 1996002) b7 b8
  unfold pt at ha hb hc hd h1 h2 h3 h4
  have e4 : zI n * 4 = zI (4 * n) := by rw [show (4 : Int32) = zI 4 from rfl, zI_mul, Int.mul_comm]
  have k : ∀ j : Nat, j < 4 → zI (4 * n) + zI j = zI (4 * n + j) := fun j _ => zI_add _ _
  unfold wpX1_isCrossed
  rw [e4, show (1 : Int32) = zI 1 from rfl, show (2 : Int32) = zI 2 from rfl, show (3 : Int32) = zI 3 from rfl, zI_add, zI_add, zI_add, zI_nat (a := 4 * n) (by omega), zI_nat (a := 4 * n + 1) (by omega), zI_nat (a := 4 * n + 2) (by omega), zI_nat (a := 4 * n + 3) (by omega), fa, fb, fc, fd]
  refine ⟨zI_in (by omega), fun v1 e1 => ⟨zI_in (by omega), fun v2 e2 => ⟨zI_in (by omega), fun v3 e3 => ⟨zI_in (by omega), fun v4 e4 => ?_⟩⟩⟩⟩
  subst e1 e2 e3 e4
  rw [zI_max (by omega), zI_min (by omega), zI_max (by omega), zI_min (by omega), zI_max (by omega), zI_min (by omega), zI_max (by omega), zI_min (by omega), zI_lt (by omega), zI_lt (by omega), zI_lt (by omega), zI_le (by omega)]
  refine ⟨fun h => p0 fun q => ?_, fun h => ⟨fun g => p0 fun q => ?_, fun g => ⟨fun i => p0 fun q => ?_, fun i => ⟨fun j v5 e5 v6 e6 v7 e7 v8 e8 => ?_, fun j => p0 fun q => ?_⟩⟩⟩⟩
  · unfold crs at q; omega
  · unfold crs at q; omega
  · unfold crs at q; omega
  · have z5 : v5 = zL (sdz m1 m2 d1 d2 a b) := by rw [e5, zI_sub, zI_sub, zI_sub, zI_sub, zI_mul, zI_mul, zI_sub]; exact zI_long (a := sdz m1 m2 d1 d2 a b) (by omega)
    have z6 : v6 = zL (sdz m1 m2 d1 d2 c d) := by rw [e6, zI_sub, zI_sub, zI_sub, zI_sub, zI_mul, zI_mul, zI_sub]; exact zI_long (a := sdz m1 m2 d1 d2 c d) (by omega)
    have z7 : v7 = zL (sdz a b c d m1 m2) := by rw [e7, zI_sub, zI_sub, zI_sub, zI_sub, zI_mul, zI_mul, zI_sub]; exact zI_long (a := sdz a b c d m1 m2) (by omega)
    have z8 : v8 = zL (sdz a b c d d1 d2) := by rw [e8, zI_sub, zI_sub, zI_sub, zI_sub, zI_mul, zI_mul, zI_sub]; exact zI_long (a := sdz a b c d d1 d2) (by omega)
    rw [z5, z6, z7, z8, zL_mul, zL_mul, show (0 : Int64) = zL 0 from rfl, show ((0 : Int32) < lg_cmp (zL (sdz m1 m2 d1 d2 a b * sdz m1 m2 d1 d2 c d)) (zL 0)) = (0 < sdz m1 m2 d1 d2 a b * sdz m1 m2 d1 d2 c d) from zL_cmp_gt (by omega), show ((0 : Int32) < lg_cmp (zL (sdz a b c d m1 m2 * sdz a b c d d1 d2)) (zL 0)) = (0 < sdz a b c d m1 m2 * sdz a b c d d1 d2) from zL_cmp_gt (by omega)]
    refine ⟨fun x => p0 fun q => ?_, fun x => ⟨fun y => p0 fun q => ?_, fun y => p1 ?_⟩⟩
    · exact absurd q.2.2.1 (by omega)
    · exact absurd q.2.2.2 (by omega)
    · exact ⟨by omega, by omega, by omega, by omega⟩
  · unfold crs at q; omega
theorem sgn_b (x : Int) : -1 ≤ sgn x ∧ sgn x ≤ 1 := by unfold sgn; split; omega; split <;> omega
theorem sgn_0 (x : Int) : sgn x = 0 ↔ x = 0 := by unfold sgn; split; omega; split <;> omega
theorem sgn_mul (x y : Int) : sgn x * sgn y < 0 ↔ x * y < 0 := by
  rcases Int.lt_trichotomy x 0 with h | h | h
  · have e : sgn x = -1 := by unfold sgn; rw [if_pos h]
    rw [e]
    rcases Int.lt_trichotomy y 0 with g | g | g
    · have e2 : sgn y = -1 := by unfold sgn; rw [if_pos g]
      have := Int.mul_pos_of_neg_of_neg h g
      rw [e2]; omega
    · subst g; simp [sgn]
    · have e2 : sgn y = 1 := by unfold sgn; rw [if_neg (by omega), if_neg (by omega)]
      have := Int.mul_neg_of_neg_of_pos h g
      rw [e2]; omega
  · subst h; simp [sgn]
  · have e : sgn x = 1 := by unfold sgn; rw [if_neg (by omega), if_neg (by omega)]
    rw [e]
    rcases Int.lt_trichotomy y 0 with g | g | g
    · have e2 : sgn y = -1 := by unfold sgn; rw [if_pos g]
      have := Int.mul_neg_of_pos_of_neg h g
      rw [e2]; omega
    · subst g; simp [sgn]
    · have e2 : sgn y = 1 := by unfold sgn; rw [if_neg (by omega), if_neg (by omega)]
      have := Int.mul_pos h g
      rw [e2]; omega
theorem sr_side {post : Int32 → Unit → Prop} {x1 y1 x2 y2 x y : Int} (h1 : pt x1) (h2 : pt y1) (h3 : pt x2) (h4 : pt y2) (h5 : pt x) (h6 : pt y) (hp : post (zI (sgn (sdz x1 y1 x2 y2 x y))) ()) : wpX11_side post (zI x1) (zI y1) (zI x2) (zI y2) (zI x) (zI y) := by
  have b := sdz_b h1 h2 h3 h4 h5 h6
  unfold wpX11_side
  rw [zI_sub, zI_sub, zI_sub, zI_sub, zI_mul, zI_mul, zI_sub]
  exact sg_num (x := sdz x1 y1 x2 y2 x y) (by omega) hp
theorem sr_between {post : Int32 → Unit → Prop} {a b x : Int} (h1 : pt a) (h2 : pt b) (h3 : pt x) (p1 : min a b ≤ x ∧ x ≤ max a b → post 1 ()) (p0 : ¬ (min a b ≤ x ∧ x ≤ max a b) → post 0 ()) : wpX11_between post (zI a) (zI b) (zI x) := by
  unfold pt at h1 h2 h3
  unfold wpX11_between
  rw [zI_min (by omega), zI_max (by omega), zI_lt (by omega), zI_lt (by omega)]
  exact ⟨fun h => p0 (by omega), fun h => ⟨fun g => p0 (by omega), fun g => p1 (by omega)⟩⟩
theorem sr_isOn {post : Int32 → Unit → Prop} {x1 y1 x2 y2 x y : Int} (h1 : pt x1) (h2 : pt y1) (h3 : pt x2) (h4 : pt y2) (h5 : pt x) (h6 : pt y) (p1 : onz x1 y1 x2 y2 x y → post 1 ()) (p0 : ¬ onz x1 y1 x2 y2 x y → post 0 ()) : wpX11_isOn post (zI x1) (zI y1) (zI x2) (zI y2) (zI x) (zI y) := by
  have s := sgn_b (sdz x1 y1 x2 y2 x y)
  unfold wpX11_isOn
  refine sr_side h1 h2 h3 h4 h5 h6 ?_
  rw [show (0 : Int32) = zI 0 from rfl, zI_eq (by omega), sgn_0]
  refine ⟨fun h => p0 fun q => h q.1, fun h => sr_between h1 h3 h5 (fun g => ⟨fun e => absurd e (by decide), fun _ => ?_⟩) (fun g => ⟨fun _ => p0 fun q => g q.2.1, fun e => absurd rfl e⟩)⟩
  exact sr_between h2 h4 h6 (fun i => ⟨fun e => absurd e (by decide), fun _ => p1 ⟨h, g, i⟩⟩) (fun i => ⟨fun _ => p0 fun q => i q.2.2, fun e => absurd rfl e⟩)
theorem sr_isCrossed {post : Int32 → Unit → Prop} {f : Nat → Int32} {n a b c d m1 m2 d1 d2 : Int} (hn : 0 ≤ n ∧ n < 8) (ha : pt a) (hb : pt b) (hc : pt c) (hd : pt d) (h1 : pt m1) (h2 : pt m2) (h3 : pt d1) (h4 : pt d2)
    (fa : f (746 + 4 * n).toNat = zI a) (fb : f (746 + 4 * n + 1).toNat = zI b) (fc : f (746 + 4 * n + 2).toNat = zI c) (fd : f (746 + 4 * n + 3).toNat = zI d)
    (p1 : crs a b c d m1 m2 d1 d2 → post 1 ()) (p0 : ¬ crs a b c d m1 m2 d1 d2 → post 0 ()) : wpX11_isCrossed post f (zI n) (zI m1) (zI m2) (zI d1) (zI d2) := by
  rw [crs_iff] at p1 p0
  have e4 : (746 : Int32) + 4 * zI n = zI (746 + 4 * n) := by rw [show (4 : Int32) = zI 4 from rfl, show (746 : Int32) = zI 746 from rfl, zI_mul, zI_add]
  have no : ¬ (1 : Int32) = 0 := by decide
  have s5 := sgn_b (sdz m1 m2 d1 d2 a b)
  have s6 := sgn_b (sdz m1 m2 d1 d2 c d)
  have s7 := sgn_b (sdz a b c d m1 m2)
  have s8 := sgn_b (sdz a b c d d1 d2)
  have t5 := mul_b (n := 1) s5 s6
  have t7 := mul_b (n := 1) s7 s8
  unfold wpX11_isCrossed
  rw [e4, show (1 : Int32) = zI 1 from rfl, show (2 : Int32) = zI 2 from rfl, show (3 : Int32) = zI 3 from rfl, zI_add, zI_add, zI_add, zI_nat (a := 746 + 4 * n) (by omega), zI_nat (a := 746 + 4 * n + 1) (by omega), zI_nat (a := 746 + 4 * n + 2) (by omega), zI_nat (a := 746 + 4 * n + 3) (by omega), fa, fb, fc, fd]
  refine ⟨zI_in (by omega), fun v1 e1 => ⟨zI_in (by omega), fun v2 e2 => ⟨zI_in (by omega), fun v3 e3 => ⟨zI_in (by omega), fun v4 e4 => ?_⟩⟩⟩⟩
  subst e1 e2 e3 e4
  refine sr_isOn h1 h2 h3 h4 ha hb (fun q => ⟨fun _ => p1 (Or.inl q), fun e => absurd e no⟩) (fun q1 => ⟨fun e => absurd rfl e, fun _ => ?_⟩)
  refine sr_isOn h1 h2 h3 h4 hc hd (fun q => ⟨fun _ => p1 (Or.inr (Or.inl q)), fun e => absurd e no⟩) (fun q2 => ⟨fun e => absurd rfl e, fun _ => ?_⟩)
  refine sr_isOn ha hb hc hd h1 h2 (fun q => ⟨fun _ => p1 (Or.inr (Or.inr (Or.inl q))), fun e => absurd e no⟩) (fun q3 => ⟨fun e => absurd rfl e, fun _ => ?_⟩)
  refine sr_isOn ha hb hc hd h3 h4 (fun q => ⟨fun e => absurd e no, fun _ => p1 (Or.inr (Or.inr (Or.inr (Or.inl q))))⟩) (fun q4 => ⟨fun _ => ?_, fun e => absurd rfl e⟩)
  refine sr_side h1 h2 h3 h4 ha hb (sr_side h1 h2 h3 h4 hc hd ?_)
  rw [zI_mul, show (0 : Int32) = zI 0 from rfl, zI_le (by omega)]
  refine ⟨fun g => p0 ?_, fun g => sr_side ha hb hc hd h1 h2 (sr_side ha hb hc hd h3 h4 ?_)⟩
  · rintro (q | q | q | q | ⟨q, -⟩)
    · exact q1 q
    · exact q2 q
    · exact q3 q
    · exact q4 q
    · have := (sgn_mul _ _).mpr q; omega
  · rw [zI_mul, zI_le (by omega)]
    refine ⟨fun i => p0 ?_, fun i => p1 (Or.inr (Or.inr (Or.inr (Or.inr ⟨(sgn_mul _ _).mp (by omega), (sgn_mul _ _).mp (by omega)⟩))))⟩
    rintro (q | q | q | q | ⟨-, q⟩)
    · exact q1 q
    · exact q2 q
    · exact q3 q
    · exact q4 q
    · have := (sgn_mul _ _).mpr q; omega
