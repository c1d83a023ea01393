def iMax (x y : Int32) : Int32 := if x < y then y else x
def iMin (x y : Int32) : Int32 := if y < x then y else x
def iAbs (x : Int32) : Int32 := if 0 ≤ x then x else 0 - x
def lMin (x y : Int64) : Int64 := if y < x then y else x
def wpJ6_signum_0f7a4 (post : Int32 → Unit → Prop) (p0 : Int32) : Prop :=
  post ((p0 >>> ((31 : Int32) &&& 31)) ||| (((-p0).toUInt32 >>> ((31 : Int32).toUInt32 &&& Int32.toUInt32 31)).toInt32)) ()
def wpJ7_fill_53178_5 (n0 : Nat) (post : ((Nat → Int32)) → Prop) : Nat → (Nat → Int32) → Int32 → Int32 → Int32 → Prop
  | 0, _, _, _, _ => False
  | n_5 + 1, f0, x1, x2, x3 =>
    (x3 ≤ x2 →
     post (f0)) ∧
    (¬ x3 ≤ x2 →
     vp_in x2 n0 ∧
     ∀ v1 : Int32, v1 = x2 + 1 →
     wpJ7_fill_53178_5 n0 post n_5 (upd f0 x2.toNatClampNeg x1) x1 v1 x3)
def wpJ7_fill_53178 (n0 : Nat) (post : ((Nat → Int32)) → Prop) (f0 : Nat → Int32) (p1 : Int32) : Prop :=
  ∀ v1 : Int32, v1 = Int32.ofNat n0 →
  ∃ n_5 : Nat, wpJ7_fill_53178_5 n0 post n_5 f0 p1 0 v1
def txC (b : Int32) : Int32 := ((b &&& 255).toUInt32 % 65536).toInt32
def wpX3_copyFrom (post : (Int32 × (Nat → Int32) × (Nat → Int32) × (Nat → Int32) × (Nat → Int32)) → Prop) (g5_size : Int32) (f6 : Nat → Int32) (f7 : Nat → Int32) (f8 : Nat → Int32) (f9 : Nat → Int32) (g0_size : Int32) (f1 : Nat → Int32) (f2 : Nat → Int32) (f3 : Nat → Int32) (f4 : Nat → Int32) : Prop :=
  post (g5_size, (va_cpy f6 f1 (0 : Int32).toNatClampNeg (0 : Int32).toNatClampNeg (20 : Int32).toNatClampNeg), (va_cpy f7 f2 (0 : Int32).toNatClampNeg (0 : Int32).toNatClampNeg (20 : Int32).toNatClampNeg), (va_cpy f8 f3 (0 : Int32).toNatClampNeg (0 : Int32).toNatClampNeg (20 : Int32).toNatClampNeg), (va_cpy f9 f4 (0 : Int32).toNatClampNeg (0 : Int32).toNatClampNeg (20 : Int32).toNatClampNeg))
def wpX3_add_46 (post : Int32 → (Int32 × (Nat → Int32) × (Nat → Int32) × (Nat → Int32) × (Nat → Int32)) → Prop) (g0_size : Int32) (f1 : Nat → Int32) (f2 : Nat → Int32) (f3 : Nat → Int32) (f4 : Nat → Int32) (x5 : Int32) (s1 : Int32) (s2 : Int32) : Prop :=
  vp_in s1 20 ∧
  ∀ v1 : Int32, v1 = g0_size + 1 →
  post x5 (v1, f1, f2, f3, (upd f4 s1.toNatClampNeg s2))
def wpX3_add (post : Int32 → (Int32 × (Nat → Int32) × (Nat → Int32) × (Nat → Int32) × (Nat → Int32)) → Prop) (g0_size : Int32) (f1 : Nat → Int32) (f2 : Nat → Int32) (f3 : Nat → Int32) (f4 : Nat → Int32) (p0 : Int32) (p1 : Int32) (p2 : Int32) (p3 : Int32) : Prop :=
  vp_in g0_size 20 ∧
  vp_in g0_size 20 ∧
  vp_in g0_size 20 ∧
  (p0 = 0 →
   wpX3_add_46 post g0_size (upd f1 g0_size.toNatClampNeg p1) (upd f2 g0_size.toNatClampNeg p2) (upd f3 g0_size.toNatClampNeg p3) f4 g0_size g0_size 0) ∧
  (¬ p0 = 0 →
   wpX3_add_46 post g0_size (upd f1 g0_size.toNatClampNeg p1) (upd f2 g0_size.toNatClampNeg p2) (upd f3 g0_size.toNatClampNeg p3) f4 g0_size g0_size 1)
def wpX3_distance (post : Int32 → Unit → Prop) (f1 : Nat → Int32) (f2 : Nat → Int32) (p0 : Int32) (p1 : Int32) : Prop :=
  vp_in p0 20 ∧
  vp_in p1 20 ∧
  ∀ v1 : Int32, v1 = (f1 p0.toNatClampNeg) - (f1 p1.toNatClampNeg) →
  vp_in p0 20 ∧
  vp_in p1 20 ∧
  ∀ v2 : Int32, v2 = (f2 p0.toNatClampNeg) - (f2 p1.toNatClampNeg) →
  post ((v1 * v1) + (v2 * v2)) ()
def wpX3_greatestOfOneMinute_65 (k16 : Int32 → Int32 → Int32 → Prop) (k4 : Int32 → Int32 → Prop) (post : Int32 → Unit → Prop) (g0_size : Int32) (f1 : Nat → Int32) (f2 : Nat → Int32) (f3 : Nat → Int32) (f4 : Nat → Int32) (x1 : Int32) (x2 : Int32) (x3 : Int32) : Prop :=
  ∀ v1 : Int32, v1 = x3 + 1 →
  k16 x1 x2 v1
def wpX3_greatestOfOneMinute_16 (k4 : Int32 → Int32 → Prop) (post : Int32 → Unit → Prop) (g0_size : Int32) (f1 : Nat → Int32) (f2 : Nat → Int32) (f3 : Nat → Int32) (f4 : Nat → Int32) : Nat → Int32 → Int32 → Int32 → Prop
  | 0, _, _, _ => False
  | n_16 + 1, x1, x2, x3 =>
    (g0_size ≤ x3 →
     ∀ v1 : Int32, v1 = x2 + 1 →
     k4 x1 v1) ∧
    (¬ g0_size ≤ x3 →
     vp_in x2 20 ∧
     vp_in x3 20 ∧
     ((f1 x2.toNatClampNeg) = (f1 x3.toNatClampNeg) →
      wpX3_greatestOfOneMinute_65 (fun y0 y1 y2 => wpX3_greatestOfOneMinute_16 k4 post g0_size f1 f2 f3 f4 n_16 y0 y1 y2) k4 post g0_size f1 f2 f3 f4 x1 x2 x3) ∧
     (¬ (f1 x2.toNatClampNeg) = (f1 x3.toNatClampNeg) →
      vp_in x2 20 ∧
      vp_in x3 20 ∧
      (¬ (f2 x2.toNatClampNeg) = (f2 x3.toNatClampNeg) →
       wpX3_greatestOfOneMinute_65 (fun y0 y1 y2 => wpX3_greatestOfOneMinute_16 k4 post g0_size f1 f2 f3 f4 n_16 y0 y1 y2) k4 post g0_size f1 f2 f3 f4 x1 x2 x3) ∧
      ((f2 x2.toNatClampNeg) = (f2 x3.toNatClampNeg) →
       wpX3_distance (fun (r3 : Int32) (u2 : Unit) =>
        ∀ v4 : Int32, v4 = iMax x1 r3 →
        wpX3_greatestOfOneMinute_65 (fun y0 y1 y2 => wpX3_greatestOfOneMinute_16 k4 post g0_size f1 f2 f3 f4 n_16 y0 y1 y2) k4 post g0_size f1 f2 f3 f4 v4 x2 x3) f3 f4 x2 x3)))
def wpX3_greatestOfOneMinute_4 (post : Int32 → Unit → Prop) (g0_size : Int32) (f1 : Nat → Int32) (f2 : Nat → Int32) (f3 : Nat → Int32) (f4 : Nat → Int32) : Nat → Int32 → Int32 → Prop
  | 0, _, _ => False
  | n_4 + 1, x1, x2 =>
    (g0_size ≤ x2 →
     post x1 ()) ∧
    (¬ g0_size ≤ x2 →
     ∀ v1 : Int32, v1 = x2 + 1 →
     ∃ n_16 : Nat, wpX3_greatestOfOneMinute_16 (fun y0 y1 => wpX3_greatestOfOneMinute_4 post g0_size f1 f2 f3 f4 n_4 y0 y1) post g0_size f1 f2 f3 f4 n_16 x1 x2 v1)
def wpX3_greatestOfOneMinute (post : Int32 → Unit → Prop) (g0_size : Int32) (f1 : Nat → Int32) (f2 : Nat → Int32) (f3 : Nat → Int32) (f4 : Nat → Int32) : Prop :=
  ∃ n_4 : Nat, wpX3_greatestOfOneMinute_4 post g0_size f1 f2 f3 f4 n_4 (-1) 0
def wpX3_isFit_44 (post : Int32 → Unit → Prop) (f1 : Nat → Int32) (f2 : Nat → Int32) (f3 : Nat → Int32) (f4 : Nat → Int32) (x1 : Int32) (x2 : Int32) (x5 : Int64) : Prop :=
  wpX3_distance (fun (r2 : Int32) (u1 : Unit) =>
   (0 < (lg_cmp (r2.toInt64) (x5 * x5)) →
    post 0 ()) ∧
   (¬ 0 < (lg_cmp (r2.toInt64) (x5 * x5)) →
    post 1 ())) f3 f4 x1 x2
def wpX3_isFit (post : Int32 → Unit → Prop) (f1 : Nat → Int32) (f2 : Nat → Int32) (f3 : Nat → Int32) (f4 : Nat → Int32) (p0 : Int32) (p1 : Int32) (p2 : Int32) (p3 : Int32) : Prop :=
  vp_in p0 20 ∧
  vp_in p1 20 ∧
  ∀ v1 : Int64, v1 = (p3 * (iAbs ((f1 p0.toNatClampNeg) - (f1 p1.toNatClampNeg)))).toInt64 →
  vp_in p0 20 ∧
  vp_in p1 20 ∧
  ((f2 p0.toNatClampNeg) = (f2 p1.toNatClampNeg) →
   wpX3_isFit_44 post f1 f2 f3 f4 p0 p1 v1) ∧
  (¬ (f2 p0.toNatClampNeg) = (f2 p1.toNatClampNeg) →
   ∀ v2 : Int64, v2 = v1 + (p2.toInt64) →
   wpX3_isFit_44 post f1 f2 f3 f4 p0 p1 v2)
def wpX3_countMisfits_45 (k20 : Int32 → Int32 → Int32 → Int32 → Int32 → Prop) (k5 : Int32 → Int32 → Int32 → Int32 → Prop) (post : Int32 → Unit → Prop) (g0_size : Int32) (f1 : Nat → Int32) (f2 : Nat → Int32) (f3 : Nat → Int32) (f4 : Nat → Int32) (x1 : Int32) (x2 : Int32) (x3 : Int32) (x4 : Int32) (x5 : Int32) : Prop :=
  ∀ v1 : Int32, v1 = x5 + 1 →
  k20 x1 x2 x3 x4 v1
def wpX3_countMisfits_20 (k5 : Int32 → Int32 → Int32 → Int32 → Prop) (post : Int32 → Unit → Prop) (g0_size : Int32) (f1 : Nat → Int32) (f2 : Nat → Int32) (f3 : Nat → Int32) (f4 : Nat → Int32) : Nat → Int32 → Int32 → Int32 → Int32 → Int32 → Prop
  | 0, _, _, _, _, _ => False
  | n_20 + 1, x1, x2, x3, x4, x5 =>
    (g0_size ≤ x5 →
     ∀ v1 : Int32, v1 = x4 + 1 →
     k5 x1 x2 x3 v1) ∧
    (¬ g0_size ≤ x5 →
     wpX3_isFit (fun (r3 : Int32) (u2 : Unit) =>
      (¬ r3 = 0 →
       wpX3_countMisfits_45 (fun y0 y1 y2 y3 y4 => wpX3_countMisfits_20 k5 post g0_size f1 f2 f3 f4 n_20 y0 y1 y2 y3 y4) k5 post g0_size f1 f2 f3 f4 x1 x2 x3 x4 x5) ∧
      (r3 = 0 →
       ∀ v4 : Int32, v4 = x3 + 1 →
       wpX3_countMisfits_45 (fun y0 y1 y2 y3 y4 => wpX3_countMisfits_20 k5 post g0_size f1 f2 f3 f4 n_20 y0 y1 y2 y3 y4) k5 post g0_size f1 f2 f3 f4 x1 x2 v4 x4 x5)) f1 f2 f3 f4 x4 x5 x1 x2)
def wpX3_countMisfits_5 (post : Int32 → Unit → Prop) (g0_size : Int32) (f1 : Nat → Int32) (f2 : Nat → Int32) (f3 : Nat → Int32) (f4 : Nat → Int32) : Nat → Int32 → Int32 → Int32 → Int32 → Prop
  | 0, _, _, _, _ => False
  | n_5 + 1, x1, x2, x3, x4 =>
    (g0_size ≤ x4 →
     post x3 ()) ∧
    (¬ g0_size ≤ x4 →
     ∀ v1 : Int32, v1 = x4 + 1 →
     ∃ n_20 : Nat, wpX3_countMisfits_20 (fun y0 y1 y2 y3 => wpX3_countMisfits_5 post g0_size f1 f2 f3 f4 n_5 y0 y1 y2 y3) post g0_size f1 f2 f3 f4 n_20 x1 x2 x3 x4 v1)
def wpX3_countMisfits (post : Int32 → Unit → Prop) (g0_size : Int32) (f1 : Nat → Int32) (f2 : Nat → Int32) (f3 : Nat → Int32) (f4 : Nat → Int32) (p0 : Int32) (p1 : Int32) : Prop :=
  ∃ n_5 : Nat, wpX3_countMisfits_5 post g0_size f1 f2 f3 f4 n_5 p0 p1 0 0
def wpX3_firstMisfit_15 (k2 : Int32 → Int32 → Int32 → Prop) (post : Int32 → Unit → Prop) (g0_size : Int32) (f1 : Nat → Int32) (f2 : Nat → Int32) (f3 : Nat → Int32) (f4 : Nat → Int32) : Nat → Int32 → Int32 → Int32 → Int32 → Prop
  | 0, _, _, _, _ => False
  | n_15 + 1, x1, x2, x3, x4 =>
    (g0_size ≤ x4 →
     ∀ v1 : Int32, v1 = x3 + 1 →
     k2 x1 x2 v1) ∧
    (¬ g0_size ≤ x4 →
     wpX3_isFit (fun (r3 : Int32) (u2 : Unit) =>
      (¬ r3 = 0 →
       ∀ v4 : Int32, v4 = x4 + 1 →
       wpX3_firstMisfit_15 k2 post g0_size f1 f2 f3 f4 n_15 x1 x2 x3 v4) ∧
      (r3 = 0 →
       post ((100 * x3) + x4) ())) f1 f2 f3 f4 x3 x4 x1 x2)
def wpX3_firstMisfit_2 (post : Int32 → Unit → Prop) (g0_size : Int32) (f1 : Nat → Int32) (f2 : Nat → Int32) (f3 : Nat → Int32) (f4 : Nat → Int32) : Nat → Int32 → Int32 → Int32 → Prop
  | 0, _, _, _ => False
  | n_2 + 1, x1, x2, x3 =>
    (g0_size ≤ x3 →
     post (-1) ()) ∧
    (¬ g0_size ≤ x3 →
     ∀ v1 : Int32, v1 = x3 + 1 →
     ∃ n_15 : Nat, wpX3_firstMisfit_15 (fun y0 y1 y2 => wpX3_firstMisfit_2 post g0_size f1 f2 f3 f4 n_2 y0 y1 y2) post g0_size f1 f2 f3 f4 n_15 x1 x2 x3 v1)
def wpX3_firstMisfit (post : Int32 → Unit → Prop) (g0_size : Int32) (f1 : Nat → Int32) (f2 : Nat → Int32) (f3 : Nat → Int32) (f4 : Nat → Int32) (p0 : Int32) (p1 : Int32) : Prop :=
  ∃ n_2 : Nat, wpX3_firstMisfit_2 post g0_size f1 f2 f3 f4 n_2 p0 p1 0
def wpX8_hasRoomFor (post : Int32 → Unit → Prop) (g0_size : Int32) (p0 : Int32) : Prop :=
  (400 < (g0_size + p0) →
   post 0 ()) ∧
  (¬ 400 < (g0_size + p0) →
   post 1 ())
def wpX8_append_3 (post : (Int32 × (Nat → Int32)) → Prop) : Nat → Int32 → (Nat → Int32) → Int32 → Int32 → Prop
  | 0, _, _, _, _ => False
  | n_3 + 1, g0_size, f1, x1, x2 =>
    (x2 < 0 →
     post (g0_size, f1)) ∧
    (¬ x2 < 0 →
     (400 ≤ g0_size →
      post (g0_size, f1)) ∧
     (¬ 400 ≤ g0_size →
      vp_in g0_size 400 ∧
      ∀ v1 : Int32, v1 = g0_size + 1 →
      ∀ v2 : Int32, v2 = x2 + (-8) →
      wpX8_append_3 post n_3 v1 (upd f1 g0_size.toNatClampNeg (vp_nar .byte ((x1 >>> (x2 &&& 31)).toInt8.toInt32))) x1 v2))
def wpX8_append (post : (Int32 × (Nat → Int32)) → Prop) (g0_size : Int32) (f1 : Nat → Int32) (p0 : Int32) : Prop :=
  ∃ n_3 : Nat, wpX8_append_3 post n_3 g0_size f1 p0 24
def wpX8_stepAt (post : Int32 → Unit → Prop) (f1 : Nat → Int32) (p0 : Int32) : Prop :=
  vp_in p0 400 ∧
  post ((f1 p0.toNatClampNeg) - 48) ()
def wpX8_holdsStepsUpTo_2 (post : Int32 → Unit → Prop) (f1 : Nat → Int32) : Nat → Int32 → Int32 → Prop
  | 0, _, _ => False
  | n_2 + 1, x1, x2 =>
    (x1 ≤ x2 →
     post 1 ()) ∧
    (¬ x1 ≤ x2 →
     (400 ≤ x2 →
      post 1 ()) ∧
     (¬ 400 ≤ x2 →
      wpX8_stepAt (fun (r2 : Int32) (u1 : Unit) =>
       (r2 < 1 →
        post 0 ()) ∧
       (¬ r2 < 1 →
        wpX8_stepAt (fun (r4 : Int32) (u3 : Unit) =>
         (r4 ≤ 3 →
          ∀ v5 : Int32, v5 = x2 + 1 →
          wpX8_holdsStepsUpTo_2 post f1 n_2 x1 v5) ∧
         (¬ r4 ≤ 3 →
          post 0 ())) f1 x2)) f1 x2))
def wpX8_holdsStepsUpTo (post : Int32 → Unit → Prop) (f1 : Nat → Int32) (p0 : Int32) : Prop :=
  ∃ n_2 : Nat, wpX8_holdsStepsUpTo_2 post f1 n_2 p0 0
def wpX8_passWord_0 (post : Int32 → Prop) (g0_size : Int32) (f1 : Nat → Int32) : Nat → Int32 → Prop
  | 0, _ => False
  | n_0 + 1, g0_behind =>
    (g0_size ≤ g0_behind →
     post (g0_behind)) ∧
    (¬ g0_size ≤ g0_behind →
     vp_in g0_behind 400 ∧
     ((f1 g0_behind.toNatClampNeg) < 97 →
      post (g0_behind)) ∧
     (¬ (f1 g0_behind.toNatClampNeg) < 97 →
      vp_in g0_behind 400 ∧
      (122 < (f1 g0_behind.toNatClampNeg) →
       post (g0_behind)) ∧
      (¬ 122 < (f1 g0_behind.toNatClampNeg) →
       ∀ v1 : Int32, v1 = g0_behind + 1 →
       wpX8_passWord_0 post g0_size f1 n_0 v1)))
def wpX8_passWord (post : Int32 → Prop) (g0_size : Int32) (f1 : Nat → Int32) (g0_behind : Int32) : Prop :=
  ∃ n_0 : Nat, wpX8_passWord_0 post g0_size f1 n_0 g0_behind
def wpX8_passNumber_72 (k0 : Int32 → Int32 → Int32 → Prop) (post : (Int32 × Int32 × Int32) → Prop) (g0_size : Int32) (f1 : Nat → Int32) (g0_behind : Int32) (g0_digits : Int32) (g0_value : Int32) : Prop :=
  ∀ v1 : Int32, v1 = g0_digits + 1 →
  ∀ v2 : Int32, v2 = g0_behind + 1 →
  k0 v2 v1 g0_value
def wpX8_passNumber_0 (post : (Int32 × Int32 × Int32) → Prop) (g0_size : Int32) (f1 : Nat → Int32) : Nat → Int32 → Int32 → Int32 → Prop
  | 0, _, _, _ => False
  | n_0 + 1, g0_behind, g0_digits, g0_value =>
    (g0_size ≤ g0_behind →
     post (g0_behind, g0_digits, g0_value)) ∧
    (¬ g0_size ≤ g0_behind →
     vp_in g0_behind 400 ∧
     ((f1 g0_behind.toNatClampNeg) < 48 →
      post (g0_behind, g0_digits, g0_value)) ∧
     (¬ (f1 g0_behind.toNatClampNeg) < 48 →
      vp_in g0_behind 400 ∧
      (57 < (f1 g0_behind.toNatClampNeg) →
       post (g0_behind, g0_digits, g0_value)) ∧
      (¬ 57 < (f1 g0_behind.toNatClampNeg) →
       (7 ≤ g0_digits →
        wpX8_passNumber_72 (fun y0 y1 y2 => wpX8_passNumber_0 post g0_size f1 n_0 y0 y1 y2) post g0_size f1 g0_behind g0_digits g0_value) ∧
       (¬ 7 ≤ g0_digits →
        vp_in g0_behind 400 ∧
        ∀ v1 : Int32, v1 = (g0_value * 10) + ((f1 g0_behind.toNatClampNeg) - 48) →
        wpX8_passNumber_72 (fun y0 y1 y2 => wpX8_passNumber_0 post g0_size f1 n_0 y0 y1 y2) post g0_size f1 g0_behind g0_digits v1))))
def wpX8_passNumber (post : (Int32 × Int32 × Int32) → Prop) (g0_size : Int32) (f1 : Nat → Int32) (g0_behind : Int32) (g0_digits : Int32) (g0_value : Int32) : Prop :=
  ∃ n_0 : Nat, wpX8_passNumber_0 post g0_size f1 n_0 g0_behind g0_digits g0_value
def wpX8_toNext_146 (post : (Int32 × Int32 × Int32 × Int32) → Prop) (g0_size : Int32) (f1 : Nat → Int32) (g0_here : Int32) (g0_behind : Int32) (g0_digits : Int32) (g0_value : Int32) : Prop :=
  ∀ v1 : Int32, v1 = g0_behind + 1 →
  post (g0_here, v1, g0_digits, g0_value)
def wpX8_toNext_111 (post : (Int32 × Int32 × Int32 × Int32) → Prop) (g0_size : Int32) (f1 : Nat → Int32) (g0_here : Int32) (g0_behind : Int32) (g0_digits : Int32) (g0_value : Int32) : Prop :=
  vp_in g0_here 400 ∧
  ((f1 g0_here.toNatClampNeg) < 48 →
   wpX8_toNext_146 post g0_size f1 g0_here g0_behind g0_digits g0_value) ∧
  (¬ (f1 g0_here.toNatClampNeg) < 48 →
   vp_in g0_here 400 ∧
   (57 < (f1 g0_here.toNatClampNeg) →
    wpX8_toNext_146 post g0_size f1 g0_here g0_behind g0_digits g0_value) ∧
   (¬ 57 < (f1 g0_here.toNatClampNeg) →
    wpX8_passNumber (fun (u1 : Int32 × Int32 × Int32) =>
     post (g0_here, u1.1, u1.2.1, u1.2.2)) g0_size f1 g0_behind g0_digits g0_value))
def wpX8_toNext_46 (post : (Int32 × Int32 × Int32 × Int32) → Prop) (g0_size : Int32) (f1 : Nat → Int32) (g0_here : Int32) (g0_behind : Int32) (g0_digits : Int32) (g0_value : Int32) : Prop :=
  (g0_here < g0_size →
   vp_in g0_here 400 ∧
   ((f1 g0_here.toNatClampNeg) < 97 →
    wpX8_toNext_111 post g0_size f1 g0_here g0_here 0 0) ∧
   (¬ (f1 g0_here.toNatClampNeg) < 97 →
    vp_in g0_here 400 ∧
    (122 < (f1 g0_here.toNatClampNeg) →
     wpX8_toNext_111 post g0_size f1 g0_here g0_here 0 0) ∧
    (¬ 122 < (f1 g0_here.toNatClampNeg) →
     wpX8_passWord (fun (u1 : Int32) =>
      post (g0_here, u1, 0, 0)) g0_size f1 g0_here))) ∧
  (¬ g0_here < g0_size →
   post (g0_here, g0_here, 0, 0))
def wpX8_toNext_8 (post : (Int32 × Int32 × Int32 × Int32) → Prop) (g0_size : Int32) (f1 : Nat → Int32) : Nat → Int32 → Int32 → Int32 → Int32 → Prop
  | 0, _, _, _, _ => False
  | n_8 + 1, g0_here, g0_behind, g0_digits, g0_value =>
    (g0_size ≤ g0_here →
     wpX8_toNext_46 post g0_size f1 g0_here g0_behind g0_digits g0_value) ∧
    (¬ g0_size ≤ g0_here →
     vp_in g0_here 400 ∧
     (¬ (f1 g0_here.toNatClampNeg) = 32 →
      wpX8_toNext_46 post g0_size f1 g0_here g0_behind g0_digits g0_value) ∧
     ((f1 g0_here.toNatClampNeg) = 32 →
      ∀ v1 : Int32, v1 = g0_here + 1 →
      wpX8_toNext_8 post g0_size f1 n_8 v1 g0_behind g0_digits g0_value))
def wpX8_toNext (post : (Int32 × Int32 × Int32 × Int32) → Prop) (g0_size : Int32) (f1 : Nat → Int32) (g0_here : Int32) (g0_behind : Int32) (g0_digits : Int32) (g0_value : Int32) : Prop :=
  ∃ n_8 : Nat, wpX8_toNext_8 post g0_size f1 n_8 g0_behind g0_behind g0_digits g0_value
def wpX8_toFirst (post : (Int32 × Int32 × Int32 × Int32) → Prop) (g0_size : Int32) (f1 : Nat → Int32) (g0_here : Int32) (g0_behind : Int32) (g0_digits : Int32) (g0_value : Int32) : Prop :=
  wpX8_toNext (fun (u1 : Int32 × Int32 × Int32 × Int32) =>
   post (u1.1, u1.2.1, u1.2.2.1, u1.2.2.2)) g0_size f1 g0_here 0 g0_digits g0_value
def wpX8_isOver (post : Int32 → Unit → Prop) (g0_size : Int32) (g0_here : Int32) : Prop :=
  (g0_here < g0_size →
   post 0 ()) ∧
  (¬ g0_here < g0_size →
   post 1 ())
def wpX8_isNumber (post : Int32 → Unit → Prop) (g0_digits : Int32) (p0 : Int32) : Prop :=
  (g0_digits < 1 →
   post 0 ()) ∧
  (¬ g0_digits < 1 →
   (p0 < g0_digits →
    post 0 ()) ∧
   (¬ p0 < g0_digits →
    post 1 ()))
def wpX8_isSign (post : Int32 → Unit → Prop) (g0_size : Int32) (g0_here : Int32) (f1 : Nat → Int32) (p0 : Int32) : Prop :=
  (g0_size ≤ g0_here →
   post 0 ()) ∧
  (¬ g0_size ≤ g0_here →
   vp_in g0_here 400 ∧
   (¬ (f1 g0_here.toNatClampNeg) = p0 →
    post 0 ()) ∧
   ((f1 g0_here.toNatClampNeg) = p0 →
    post 1 ()))
def wpX8_isWord_20 (t_p0 : List Int32) (post : Int32 → Unit → Prop) (g0_here : Int32) (g0_behind : Int32) (f1 : Nat → Int32) : Nat → Int32 → Prop
  | 0, _ => False
  | n_20 + 1, x2 =>
    ((nI t_p0.length) ≤ x2 →
     post 1 ()) ∧
    (¬ (nI t_p0.length) ≤ x2 →
     vp_in (g0_here + x2) 400 ∧
     t_p0.length < 2 ^ 31 ∧ vp_in x2 t_p0.length ∧
     ((f1 (g0_here + x2).toNatClampNeg) = (txC (t_p0.getD x2.toNatClampNeg 0)) →
      ∀ v3 : Int32, v3 = x2 + 1 →
      wpX8_isWord_20 t_p0 post g0_here g0_behind f1 n_20 v3) ∧
     (¬ (f1 (g0_here + x2).toNatClampNeg) = (txC (t_p0.getD x2.toNatClampNeg 0)) →
      post 0 ()))
def wpX8_isWord (t_p0 : List Int32) (post : Int32 → Unit → Prop) (g0_here : Int32) (g0_behind : Int32) (f1 : Nat → Int32) : Prop :=
  ((g0_behind - g0_here) = (nI t_p0.length) →
   ∃ n_20 : Nat, wpX8_isWord_20 t_p0 post g0_here g0_behind f1 n_20 0) ∧
  (¬ (g0_behind - g0_here) = (nI t_p0.length) →
   post 0 ())
def wpX1_copyFrom (post : (Int32 × Int32 × Int32 × (Nat → Int32) × (Nat → Int32) × (Nat → Int32) × (Nat → Int32)) → Prop) (g5_ways : Int32) (g5_wallCount : Int32) (g5_texts : Int32) (f6 : Nat → Int32) (f7 : Nat → Int32) (f8 : Nat → Int32) (f9 : Nat → Int32) (g0_ways : Int32) (g0_wallCount : Int32) (g0_texts : Int32) (f1 : Nat → Int32) (f2 : Nat → Int32) (f3 : Nat → Int32) (f4 : Nat → Int32) : Prop :=
  post (g5_ways, g5_wallCount, g5_texts, (va_cpy f6 f1 (0 : Int32).toNatClampNeg (0 : Int32).toNatClampNeg (360 : Int32).toNatClampNeg), (va_cpy f7 f2 (0 : Int32).toNatClampNeg (0 : Int32).toNatClampNeg (360 : Int32).toNatClampNeg), (va_cpy f8 f3 (0 : Int32).toNatClampNeg (0 : Int32).toNatClampNeg (12 : Int32).toNatClampNeg), (va_cpy f9 f4 (0 : Int32).toNatClampNeg (0 : Int32).toNatClampNeg (32 : Int32).toNatClampNeg))
def wpX1_hasWay (post : Int32 → Unit → Prop) (g0_ways : Int32) (p0 : Int32) : Prop :=
  (p0 < 0 →
   post 0 ()) ∧
  (¬ p0 < 0 →
   (g0_ways ≤ p0 →
    post 0 ()) ∧
   (¬ g0_ways ≤ p0 →
    post 1 ()))
def wpX1_hasCorner (post : Int32 → Unit → Prop) (g0_ways : Int32) (f1 : Nat → Int32) (p0 : Int32) (p1 : Int32) : Prop :=
  wpX1_hasWay (fun (r2 : Int32) (u1 : Unit) =>
   (r2 = 0 →
    post 0 ()) ∧
   (¬ r2 = 0 →
    (p1 < 0 →
     post 0 ()) ∧
    (¬ p1 < 0 →
     vp_in p0 12 ∧
     ((f1 p0.toNatClampNeg) ≤ p1 →
      post 0 ()) ∧
     (¬ (f1 p0.toNatClampNeg) ≤ p1 →
      post 1 ())))) g0_ways p0
def wpX1_xOf (post : Int32 → Unit → Prop) (f1 : Nat → Int32) (p0 : Int32) (p1 : Int32) : Prop :=
  vp_in ((p0 * 30) + p1) 360 ∧
  post (f1 ((p0 * 30) + p1).toNatClampNeg) ()
def wpX1_yOf (post : Int32 → Unit → Prop) (f1 : Nat → Int32) (p0 : Int32) (p1 : Int32) : Prop :=
  vp_in ((p0 * 30) + p1) 360 ∧
  post (f1 ((p0 * 30) + p1).toNatClampNeg) ()
def wpX1_allCorners_4 (post : Int32 → Unit → Prop) (g0_ways : Int32) (f1 : Nat → Int32) : Nat → Int32 → Int32 → Prop
  | 0, _, _ => False
  | n_4 + 1, x1, x2 =>
    (g0_ways ≤ x2 →
     post x1 ()) ∧
    (¬ g0_ways ≤ x2 →
     vp_in x2 12 ∧
     ∀ v1 : Int32, v1 = x1 + (f1 x2.toNatClampNeg) →
     ∀ v2 : Int32, v2 = x2 + 1 →
     wpX1_allCorners_4 post g0_ways f1 n_4 v1 v2)
def wpX1_allCorners (post : Int32 → Unit → Prop) (g0_ways : Int32) (f1 : Nat → Int32) : Prop :=
  ∃ n_4 : Nat, wpX1_allCorners_4 post g0_ways f1 n_4 0 0
def wpX1_distance (post : Int32 → Unit → Prop) (f1 : Nat → Int32) (f2 : Nat → Int32) (p0 : Int32) (p1 : Int32) (p2 : Int32) (p3 : Int32) : Prop :=
  ∀ v1 : Int32, v1 = (p0 * 30) + p1 →
  ∀ v2 : Int32, v2 = (p2 * 30) + p3 →
  vp_in v1 360 ∧
  vp_in v2 360 ∧
  ∀ v3 : Int32, v3 = (f1 v1.toNatClampNeg) - (f1 v2.toNatClampNeg) →
  vp_in v1 360 ∧
  vp_in v2 360 ∧
  ∀ v4 : Int32, v4 = (f2 v1.toNatClampNeg) - (f2 v2.toNatClampNeg) →
  post ((v3 * v3) + (v4 * v4)) ()
def wpX1_isCrossed (post : Int32 → Unit → Prop) (f1 : Nat → Int32) (p0 : Int32) (p1 : Int32) (p2 : Int32) (p3 : Int32) (p4 : Int32) : Prop :=
  vp_in (p0 * 4) 32 ∧
  ∀ v1 : Int32, v1 = f1 (p0 * 4).toNatClampNeg →
  vp_in ((p0 * 4) + 1) 32 ∧
  ∀ v2 : Int32, v2 = f1 ((p0 * 4) + 1).toNatClampNeg →
  vp_in ((p0 * 4) + 2) 32 ∧
  ∀ v3 : Int32, v3 = f1 ((p0 * 4) + 2).toNatClampNeg →
  vp_in ((p0 * 4) + 3) 32 ∧
  ∀ v4 : Int32, v4 = f1 ((p0 * 4) + 3).toNatClampNeg →
  ((iMax p1 p3) < (iMin v1 v3) →
   post 0 ()) ∧
  (¬ (iMax p1 p3) < (iMin v1 v3) →
   ((iMax v1 v3) < (iMin p1 p3) →
    post 0 ()) ∧
   (¬ (iMax v1 v3) < (iMin p1 p3) →
    ((iMax p2 p4) < (iMin v2 v4) →
     post 0 ()) ∧
    (¬ (iMax p2 p4) < (iMin v2 v4) →
     ((iMin p2 p4) ≤ (iMax v2 v4) →
      ∀ v5 : Int64, v5 = (((p3 - p1) * (v2 - p2)) - ((p4 - p2) * (v1 - p1))).toInt64 →
      ∀ v6 : Int64, v6 = (((p3 - p1) * (v4 - p2)) - ((p4 - p2) * (v3 - p1))).toInt64 →
      ∀ v7 : Int64, v7 = (((v3 - v1) * (p2 - v2)) - ((v4 - v2) * (p1 - v1))).toInt64 →
      ∀ v8 : Int64, v8 = (((v3 - v1) * (p4 - v2)) - ((v4 - v2) * (p3 - v1))).toInt64 →
      (0 < (lg_cmp (v5 * v6) 0) →
       post 0 ()) ∧
      (¬ 0 < (lg_cmp (v5 * v6) 0) →
       (0 < (lg_cmp (v7 * v8) 0) →
        post 0 ()) ∧
       (¬ 0 < (lg_cmp (v7 * v8) 0) →
        post 1 ()))) ∧
     (¬ (iMin p2 p4) ≤ (iMax v2 v4) →
      post 0 ()))))
def wpX1_isWalledOff_20 (post : Int32 → Unit → Prop) (g0_wallCount : Int32) (f1 : Nat → Int32) (f2 : Nat → Int32) (f3 : Nat → Int32) : Nat → Int32 → Int32 → Int32 → Prop
  | 0, _, _, _ => False
  | n_20 + 1, x5, x6, x7 =>
    (g0_wallCount ≤ x7 →
     post 0 ()) ∧
    (¬ g0_wallCount ≤ x7 →
     vp_in x5 360 ∧
     vp_in x5 360 ∧
     vp_in x6 360 ∧
     vp_in x6 360 ∧
     wpX1_isCrossed (fun (r2 : Int32) (u1 : Unit) =>
      (r2 = 0 →
       ∀ v3 : Int32, v3 = x7 + 1 →
       wpX1_isWalledOff_20 post g0_wallCount f1 f2 f3 n_20 x5 x6 v3) ∧
      (¬ r2 = 0 →
       post 1 ())) f3 x7 (f1 x5.toNatClampNeg) (f2 x5.toNatClampNeg) (f1 x6.toNatClampNeg) (f2 x6.toNatClampNeg))
def wpX1_isWalledOff (post : Int32 → Unit → Prop) (g0_wallCount : Int32) (f1 : Nat → Int32) (f2 : Nat → Int32) (f3 : Nat → Int32) (p0 : Int32) (p1 : Int32) (p2 : Int32) (p3 : Int32) : Prop :=
  ∀ v1 : Int32, v1 = (p0 * 30) + p1 →
  ∀ v2 : Int32, v2 = (p2 * 30) + p3 →
  ∃ n_20 : Nat, wpX1_isWalledOff_20 post g0_wallCount f1 f2 f3 n_20 v1 v2 0
def wpX1_readCorners_7 (post : Int32 → ((Nat → Int32) × (Nat → Int32) × (Nat → Int32) × Int32 × Int32 × Int32 × Int32) → Prop) (g4_size : Int32) (f5 : Nat → Int32) : Nat → (Nat → Int32) → (Nat → Int32) → (Nat → Int32) → Int32 → Int32 → Int32 → Int32 → Int32 → Int32 → Prop
  | 0, _, _, _, _, _, _, _, _, _ => False
  | n_7 + 1, f1, f2, f3, g4_here, g4_behind, g4_digits, g4_value, x2, x3 =>
    (30 ≤ x3 →
     post 0 (f1, f2, f3, g4_here, g4_behind, g4_digits, g4_value)) ∧
    (¬ 30 ≤ x3 →
     wpX8_isNumber (fun (r2 : Int32) (u1 : Unit) =>
      (¬ r2 = 0 →
       vp_in ((x2 * 30) + x3) 360 ∧
       wpX8_toNext (fun (u3 : Int32 × Int32 × Int32 × Int32) =>
        wpX8_isNumber (fun (r5 : Int32) (u4 : Unit) =>
         (¬ r5 = 0 →
          vp_in ((x2 * 30) + x3) 360 ∧
          wpX8_toNext (fun (u6 : Int32 × Int32 × Int32 × Int32) =>
           vp_in x2 12 ∧
           vp_in x2 12 ∧
           wpX8_isOver (fun (r8 : Int32) (u7 : Unit) =>
            (¬ r8 = 0 →
             post 1 ((upd f1 x2.toNatClampNeg ((f1 x2.toNatClampNeg) + 1)), (upd f2 ((x2 * 30) + x3).toNatClampNeg g4_value), (upd f3 ((x2 * 30) + x3).toNatClampNeg u3.2.2.2), u6.1, u6.2.1, u6.2.2.1, u6.2.2.2)) ∧
            (r8 = 0 →
             wpX8_isSign (fun (r10 : Int32) (u9 : Unit) =>
              (r10 = 0 →
               ∀ v11 : Int32, v11 = x3 + 1 →
               wpX1_readCorners_7 post g4_size f5 n_7 (upd f1 x2.toNatClampNeg ((f1 x2.toNatClampNeg) + 1)) (upd f2 ((x2 * 30) + x3).toNatClampNeg g4_value) (upd f3 ((x2 * 30) + x3).toNatClampNeg u3.2.2.2) u6.1 u6.2.1 u6.2.2.1 u6.2.2.2 x2 v11) ∧
              (¬ r10 = 0 →
               post 1 ((upd f1 x2.toNatClampNeg ((f1 x2.toNatClampNeg) + 1)), (upd f2 ((x2 * 30) + x3).toNatClampNeg g4_value), (upd f3 ((x2 * 30) + x3).toNatClampNeg u3.2.2.2), u6.1, u6.2.1, u6.2.2.1, u6.2.2.2))) g4_size u6.1 f5 59)) g4_size u6.1) g4_size f5 u3.1 u3.2.1 u3.2.2.1 u3.2.2.2) ∧
         (r5 = 0 →
          post 0 (f1, (upd f2 ((x2 * 30) + x3).toNatClampNeg g4_value), f3, u3.1, u3.2.1, u3.2.2.1, u3.2.2.2))) u3.2.2.1 3) g4_size f5 g4_here g4_behind g4_digits g4_value) ∧
      (r2 = 0 →
       post 0 (f1, f2, f3, g4_here, g4_behind, g4_digits, g4_value))) g4_digits 3)
def wpX1_readCorners (post : Int32 → ((Nat → Int32) × (Nat → Int32) × (Nat → Int32) × Int32 × Int32 × Int32 × Int32) → Prop) (g4_size : Int32) (f5 : Nat → Int32) (f1 : Nat → Int32) (f2 : Nat → Int32) (f3 : Nat → Int32) (g4_here : Int32) (g4_behind : Int32) (g4_digits : Int32) (g4_value : Int32) (p1 : Int32) : Prop :=
  vp_in p1 12 ∧
  ∀ v1 : Int32, v1 = f1 p1.toNatClampNeg →
  ∃ n_7 : Nat, wpX1_readCorners_7 post g4_size f5 n_7 f1 f2 f3 g4_here g4_behind g4_digits g4_value p1 v1
def wpX1_readWall_2 (post : Int32 → (Int32 × (Nat → Int32) × Int32 × Int32 × Int32 × Int32) → Prop) (g2_size : Int32) (f3 : Nat → Int32) : Nat → Int32 → (Nat → Int32) → Int32 → Int32 → Int32 → Int32 → Int32 → Prop
  | 0, _, _, _, _, _, _, _ => False
  | n_2 + 1, g0_wallCount, f1, g2_here, g2_behind, g2_digits, g2_value, x2 =>
    (4 ≤ x2 →
     ∀ v1 : Int32, v1 = g0_wallCount + 1 →
     post 1 (v1, f1, g2_here, g2_behind, g2_digits, g2_value)) ∧
    (¬ 4 ≤ x2 →
     wpX8_isNumber (fun (r3 : Int32) (u2 : Unit) =>
      (¬ r3 = 0 →
       vp_in ((g0_wallCount * 4) + x2) 32 ∧
       wpX8_toNext (fun (u4 : Int32 × Int32 × Int32 × Int32) =>
        ∀ v5 : Int32, v5 = x2 + 1 →
        wpX1_readWall_2 post g2_size f3 n_2 g0_wallCount (upd f1 ((g0_wallCount * 4) + x2).toNatClampNeg g2_value) u4.1 u4.2.1 u4.2.2.1 u4.2.2.2 v5) g2_size f3 g2_here g2_behind g2_digits g2_value) ∧
      (r3 = 0 →
       post 0 (g0_wallCount, f1, g2_here, g2_behind, g2_digits, g2_value))) g2_digits 3)
def wpX1_readWall (post : Int32 → (Int32 × (Nat → Int32) × Int32 × Int32 × Int32 × Int32) → Prop) (g2_size : Int32) (f3 : Nat → Int32) (g0_wallCount : Int32) (f1 : Nat → Int32) (g2_here : Int32) (g2_behind : Int32) (g2_digits : Int32) (g2_value : Int32) : Prop :=
  ∃ n_2 : Nat, wpX1_readWall_2 post g2_size f3 n_2 g0_wallCount f1 g2_here g2_behind g2_digits g2_value 0
def wpX1_readLine_54 (post : Int32 → (Int32 × Int32 × (Nat → Int32) × (Nat → Int32) × (Nat → Int32) × (Nat → Int32) × Int32 × Int32 × Int32 × Int32) → Prop) (g5_size : Int32) (f6 : Nat → Int32) (g0_ways : Int32) (g0_wallCount : Int32) (f1 : Nat → Int32) (f2 : Nat → Int32) (f3 : Nat → Int32) (f4 : Nat → Int32) (g5_here : Int32) (g5_behind : Int32) (g5_digits : Int32) (g5_value : Int32) : Prop :=
  wpX8_isWord [109, 111, 114, 101] (fun (r2 : Int32) (u1 : Unit) =>
   (r2 = 0 →
    wpX8_isWord [119, 97, 108, 108] (fun (r4 : Int32) (u3 : Unit) =>
     (r4 = 0 →
      post 0 (g0_ways, g0_wallCount, f1, f2, f3, f4, g5_here, g5_behind, g5_digits, g5_value)) ∧
     (¬ r4 = 0 →
      (8 ≤ g0_wallCount →
       post 0 (g0_ways, g0_wallCount, f1, f2, f3, f4, g5_here, g5_behind, g5_digits, g5_value)) ∧
      (¬ 8 ≤ g0_wallCount →
       wpX8_toNext (fun (u5 : Int32 × Int32 × Int32 × Int32) =>
        wpX1_readWall (fun (r7 : Int32) (u6 : Int32 × (Nat → Int32) × Int32 × Int32 × Int32 × Int32) =>
         (r7 = 0 ∨ r7 = 1) ∧ post r7 (g0_ways, u6.1, f1, f2, f3, u6.2.1, u6.2.2.1, u6.2.2.2.1, u6.2.2.2.2.1, u6.2.2.2.2.2)) g5_size f6 g0_wallCount f4 u5.1 u5.2.1 u5.2.2.1 u5.2.2.2) g5_size f6 g5_here g5_behind g5_digits g5_value))) g5_here g5_behind f6) ∧
   (¬ r2 = 0 →
    wpX8_toNext (fun (u8 : Int32 × Int32 × Int32 × Int32) =>
     wpX8_isNumber (fun (r10 : Int32) (u9 : Unit) =>
      (r10 = 0 →
       post 0 (g0_ways, g0_wallCount, f1, f2, f3, f4, u8.1, u8.2.1, u8.2.2.1, u8.2.2.2)) ∧
      (¬ r10 = 0 →
       wpX1_hasWay (fun (r12 : Int32) (u11 : Unit) =>
        (¬ r12 = 0 →
         wpX8_toNext (fun (u13 : Int32 × Int32 × Int32 × Int32) =>
          wpX1_readCorners (fun (r15 : Int32) (u14 : (Nat → Int32) × (Nat → Int32) × (Nat → Int32) × Int32 × Int32 × Int32 × Int32) =>
           (r15 = 0 ∨ r15 = 1) ∧ post r15 (g0_ways, g0_wallCount, u14.1, u14.2.1, u14.2.2.1, f4, u14.2.2.2.1, u14.2.2.2.2.1, u14.2.2.2.2.2.1, u14.2.2.2.2.2.2)) g5_size f6 f1 f2 f3 u13.1 u13.2.1 u13.2.2.1 u13.2.2.2 u8.2.2.2) g5_size f6 u8.1 u8.2.1 u8.2.2.1 u8.2.2.2) ∧
        (r12 = 0 →
         post 0 (g0_ways, g0_wallCount, f1, f2, f3, f4, u8.1, u8.2.1, u8.2.2.1, u8.2.2.2))) g0_ways u8.2.2.2)) u8.2.2.1 3) g5_size f6 g5_here g5_behind g5_digits g5_value)) g5_here g5_behind f6
def wpX1_readLine (post : Int32 → (Int32 × Int32 × (Nat → Int32) × (Nat → Int32) × (Nat → Int32) × (Nat → Int32) × Int32 × Int32 × Int32 × Int32) → Prop) (g5_size : Int32) (f6 : Nat → Int32) (g0_ways : Int32) (g0_wallCount : Int32) (f1 : Nat → Int32) (f2 : Nat → Int32) (f3 : Nat → Int32) (f4 : Nat → Int32) (g5_here : Int32) (g5_behind : Int32) (g5_digits : Int32) (g5_value : Int32) : Prop :=
  wpX8_isWord [119, 97, 121] (fun (r2 : Int32) (u1 : Unit) =>
   (r2 = 0 →
    wpX1_readLine_54 post g5_size f6 g0_ways g0_wallCount f1 f2 f3 f4 g5_here g5_behind g5_digits g5_value) ∧
   (¬ r2 = 0 →
    (12 ≤ g0_ways →
     wpX1_readLine_54 post g5_size f6 g0_ways g0_wallCount f1 f2 f3 f4 g5_here g5_behind g5_digits g5_value) ∧
    (¬ 12 ≤ g0_ways →
     wpX8_toNext (fun (u3 : Int32 × Int32 × Int32 × Int32) =>
      vp_in g0_ways 12 ∧
      ∀ v4 : Int32, v4 = g0_ways + 1 →
      wpX1_readCorners (fun (r6 : Int32) (u5 : (Nat → Int32) × (Nat → Int32) × (Nat → Int32) × Int32 × Int32 × Int32 × Int32) =>
       (r6 = 0 ∨ r6 = 1) ∧ post r6 (v4, g0_wallCount, u5.1, u5.2.1, u5.2.2.1, f4, u5.2.2.2.1, u5.2.2.2.2.1, u5.2.2.2.2.2.1, u5.2.2.2.2.2.2)) g5_size f6 (upd f1 g0_ways.toNatClampNeg 0) f2 f3 u3.1 u3.2.1 u3.2.2.1 u3.2.2.2 (v4 - 1)) g5_size f6 g5_here g5_behind g5_digits g5_value))) g5_here g5_behind f6
def wpX1_readText_15 (post : Int32 → (Int32 × Int32 × (Nat → Int32) × (Nat → Int32) × (Nat → Int32) × (Nat → Int32) × Int32 × Int32 × Int32 × Int32) → Prop) (g5_size : Int32) (f6 : Nat → Int32) : Nat → Int32 → Int32 → (Nat → Int32) → (Nat → Int32) → (Nat → Int32) → (Nat → Int32) → Int32 → Int32 → Int32 → Int32 → Int32 → Prop
  | 0, _, _, _, _, _, _, _, _, _, _, _ => False
  | n_15 + 1, g0_ways, g0_wallCount, f1, f2, f3, f4, g5_here, g5_behind, g5_digits, g5_value, x2 =>
    (14 ≤ x2 →
     post 0 (g0_ways, g0_wallCount, f1, f2, f3, f4, g5_here, g5_behind, g5_digits, g5_value)) ∧
    (¬ 14 ≤ x2 →
     wpX1_readLine (fun (r2 : Int32) (u1 : Int32 × Int32 × (Nat → Int32) × (Nat → Int32) × (Nat → Int32) × (Nat → Int32) × Int32 × Int32 × Int32 × Int32) =>
      (¬ r2 = 0 →
       wpX8_isOver (fun (r4 : Int32) (u3 : Unit) =>
        (r4 = 0 →
         wpX8_isSign (fun (r6 : Int32) (u5 : Unit) =>
          (¬ r6 = 0 →
           wpX8_toNext (fun (u7 : Int32 × Int32 × Int32 × Int32) =>
            ∀ v8 : Int32, v8 = x2 + 1 →
            wpX1_readText_15 post g5_size f6 n_15 u1.1 u1.2.1 u1.2.2.1 u1.2.2.2.1 u1.2.2.2.2.1 u1.2.2.2.2.2.1 u7.1 u7.2.1 u7.2.2.1 u7.2.2.2 v8) g5_size f6 u1.2.2.2.2.2.2.1 u1.2.2.2.2.2.2.2.1 u1.2.2.2.2.2.2.2.2.1 u1.2.2.2.2.2.2.2.2.2) ∧
          (r6 = 0 →
           post 0 (u1.1, u1.2.1, u1.2.2.1, u1.2.2.2.1, u1.2.2.2.2.1, u1.2.2.2.2.2.1, u1.2.2.2.2.2.2.1, u1.2.2.2.2.2.2.2.1, u1.2.2.2.2.2.2.2.2.1, u1.2.2.2.2.2.2.2.2.2))) g5_size u1.2.2.2.2.2.2.1 f6 59) ∧
        (¬ r4 = 0 →
         post 1 (u1.1, u1.2.1, u1.2.2.1, u1.2.2.2.1, u1.2.2.2.2.1, u1.2.2.2.2.2.1, u1.2.2.2.2.2.2.1, u1.2.2.2.2.2.2.2.1, u1.2.2.2.2.2.2.2.2.1, u1.2.2.2.2.2.2.2.2.2))) g5_size u1.2.2.2.2.2.2.1) ∧
      (r2 = 0 →
       post 0 (u1.1, u1.2.1, u1.2.2.1, u1.2.2.2.1, u1.2.2.2.2.1, u1.2.2.2.2.2.1, u1.2.2.2.2.2.2.1, u1.2.2.2.2.2.2.2.1, u1.2.2.2.2.2.2.2.2.1, u1.2.2.2.2.2.2.2.2.2))) g5_size f6 g0_ways g0_wallCount f1 f2 f3 f4 g5_here g5_behind g5_digits g5_value)
def wpX1_readText (post : Int32 → (Int32 × Int32 × (Nat → Int32) × (Nat → Int32) × (Nat → Int32) × (Nat → Int32) × Int32 × Int32 × Int32 × Int32) → Prop) (g5_size : Int32) (f6 : Nat → Int32) (g0_ways : Int32) (g0_wallCount : Int32) (f1 : Nat → Int32) (f2 : Nat → Int32) (f3 : Nat → Int32) (f4 : Nat → Int32) (g5_here : Int32) (g5_behind : Int32) (g5_digits : Int32) (g5_value : Int32) : Prop :=
  wpX8_toFirst (fun (u1 : Int32 × Int32 × Int32 × Int32) =>
   wpX8_isOver (fun (r3 : Int32) (u2 : Unit) =>
    (r3 = 0 →
     ∃ n_15 : Nat, wpX1_readText_15 post g5_size f6 n_15 g0_ways g0_wallCount f1 f2 f3 f4 u1.1 u1.2.1 u1.2.2.1 u1.2.2.2 0) ∧
    (¬ r3 = 0 →
     post 1 (g0_ways, g0_wallCount, f1, f2, f3, f4, u1.1, u1.2.1, u1.2.2.1, u1.2.2.2))) g5_size u1.1) g5_size f6 g5_here g5_behind g5_digits g5_value
def wpX2_copyFrom (post : (Int32 × Int32 × (Nat → Int32)) → Prop) (g2_size : Int32) (g2_lines : Int32) (f3 : Nat → Int32) (g0_size : Int32) (g0_lines : Int32) (f1 : Nat → Int32) : Prop :=
  post (g2_size, g2_lines, (va_cpy f3 f1 (0 : Int32).toNatClampNeg (0 : Int32).toNatClampNeg (400 : Int32).toNatClampNeg))
def wpX2_someLineHolds_201 (k9 : Int32 → Int32 → Int32 → Int32 → Prop) (post : Int32 → Unit → Prop) (g0_size : Int32) (f1 : Nat → Int32) (f2 : Nat → Int32) (x1 : Int32) (x2 : Int32) (x3 : Int32) (x4 : Int32) : Prop :=
  ∀ v1 : Int32, v1 = x4 + 1 →
  k9 x1 x2 x3 v1
def wpX2_someLineHolds_148 (k9 : Int32 → Int32 → Int32 → Int32 → Prop) (post : Int32 → Unit → Prop) (g0_size : Int32) (f1 : Nat → Int32) (f2 : Nat → Int32) (x2 : Int32) (x4 : Int32) (s0 : Int32) (s1 : Int32) : Prop :=
  ∀ v1 : Int32, v1 = s0 ||| s1 →
  wpX2_someLineHolds_201 k9 post g0_size f1 f2 0 x2 v1 x4
def wpX2_someLineHolds_128 (k9 : Int32 → Int32 → Int32 → Int32 → Prop) (post : Int32 → Unit → Prop) (g0_size : Int32) (f1 : Nat → Int32) (f2 : Nat → Int32) (x2 : Int32) (x4 : Int32) (s0 : Int32) (s1 : Int32) : Prop :=
  ∀ v1 : Int32, v1 = s0 ||| s1 →
  wpX2_someLineHolds_201 k9 post g0_size f1 f2 0 x2 v1 x4
def wpX2_someLineHolds_9 (post : Int32 → Unit → Prop) (g0_size : Int32) (f1 : Nat → Int32) (f2 : Nat → Int32) : Nat → Int32 → Int32 → Int32 → Int32 → Prop
  | 0, _, _, _, _ => False
  | n_9 + 1, x1, x2, x3, x4 =>
    (g0_size ≤ x4 →
     post 0 ()) ∧
    (¬ g0_size ≤ x4 →
     vp_in x4 400 ∧
     ∀ v1 : Int32, v1 = f1 x4.toNatClampNeg →
     (v1 < 0 →
      (v1 < (-7) →
       (v1 = (-14) →
        wpX2_someLineHolds_201 (fun y0 y1 y2 y3 => wpX2_someLineHolds_9 post g0_size f1 f2 n_9 y0 y1 y2 y3) post g0_size f1 f2 x1 x2 1 x4) ∧
       (v1 = (-13) →
        ∀ v2 : Int32, v2 = (x3 >>> ((1 : Int32) &&& 31)) ||| (x3 &&& 1) →
        wpX2_someLineHolds_201 (fun y0 y1 y2 y3 => wpX2_someLineHolds_9 post g0_size f1 f2 n_9 y0 y1 y2 y3) post g0_size f1 f2 x1 x2 v2 x4) ∧
       (v1 = (-12) →
        ∀ v3 : Int32, v3 = (x3 >>> ((1 : Int32) &&& 31)) &&& (x3 ||| (-2)) →
        wpX2_someLineHolds_201 (fun y0 y1 y2 y3 => wpX2_someLineHolds_9 post g0_size f1 f2 n_9 y0 y1 y2 y3) post g0_size f1 f2 x1 x2 v3 x4) ∧
       (v1 = (-11) →
        ∀ v4 : Int32, v4 = x3 ^^^ 1 →
        wpX2_someLineHolds_201 (fun y0 y1 y2 y3 => wpX2_someLineHolds_9 post g0_size f1 f2 n_9 y0 y1 y2 y3) post g0_size f1 f2 x1 x2 v4 x4) ∧
       (v1 = (-10) →
        (x2 ≤ x1 →
         wpX2_someLineHolds_148 (fun y0 y1 y2 y3 => wpX2_someLineHolds_9 post g0_size f1 f2 n_9 y0 y1 y2 y3) post g0_size f1 f2 x2 x4 (x3 <<< ((1 : Int32) &&& 31)) 0) ∧
        (¬ x2 ≤ x1 →
         wpX2_someLineHolds_148 (fun y0 y1 y2 y3 => wpX2_someLineHolds_9 post g0_size f1 f2 n_9 y0 y1 y2 y3) post g0_size f1 f2 x2 x4 (x3 <<< ((1 : Int32) &&& 31)) 1)) ∧
       (v1 = (-9) →
        (x1 ≤ x2 →
         wpX2_someLineHolds_128 (fun y0 y1 y2 y3 => wpX2_someLineHolds_9 post g0_size f1 f2 n_9 y0 y1 y2 y3) post g0_size f1 f2 x2 x4 (x3 <<< ((1 : Int32) &&& 31)) 0) ∧
        (¬ x1 ≤ x2 →
         wpX2_someLineHolds_128 (fun y0 y1 y2 y3 => wpX2_someLineHolds_9 post g0_size f1 f2 n_9 y0 y1 y2 y3) post g0_size f1 f2 x2 x4 (x3 <<< ((1 : Int32) &&& 31)) 1)) ∧
       (v1 = (-8) →
        wpX2_someLineHolds_201 (fun y0 y1 y2 y3 => wpX2_someLineHolds_9 post g0_size f1 f2 n_9 y0 y1 y2 y3) post g0_size f1 f2 0 x1 x3 x4) ∧
       (¬ (v1 = (-14) ∨ v1 = (-13) ∨ v1 = (-12) ∨ v1 = (-11) ∨ v1 = (-10) ∨ v1 = (-9) ∨ v1 = (-8)) →
        (¬ (x3 &&& 1) = 1 →
         wpX2_someLineHolds_201 (fun y0 y1 y2 y3 => wpX2_someLineHolds_9 post g0_size f1 f2 n_9 y0 y1 y2 y3) post g0_size f1 f2 x1 x2 0 x4) ∧
        ((x3 &&& 1) = 1 →
         post 1 ()))) ∧
      (¬ v1 < (-7) →
       vp_in ((-1) - v1) 7 ∧
       ∀ v5 : Int32, v5 = x1 + (f2 ((-1) - v1).toNatClampNeg) →
       wpX2_someLineHolds_201 (fun y0 y1 y2 y3 => wpX2_someLineHolds_9 post g0_size f1 f2 n_9 y0 y1 y2 y3) post g0_size f1 f2 v5 x2 x3 x4)) ∧
     (¬ v1 < 0 →
      ∀ v6 : Int32, v6 = x1 + v1 →
      wpX2_someLineHolds_201 (fun y0 y1 y2 y3 => wpX2_someLineHolds_9 post g0_size f1 f2 n_9 y0 y1 y2 y3) post g0_size f1 f2 v6 x2 x3 x4))
def wpX2_someLineHolds (post : Int32 → Unit → Prop) (g0_size : Int32) (f1 : Nat → Int32) (f2 : Nat → Int32) : Prop :=
  ∃ n_9 : Nat, wpX2_someLineHolds_9 post g0_size f1 f2 n_9 0 0 0 0
def wpX2_isBroken (post : Int32 → ((Nat → Int32)) → Prop) (g0_size : Int32) (f2 : Nat → Int32) (f4 : Nat → Int32) (f5 : Nat → Int32) (f1 : Nat → Int32) (p1 : Int32) (p2 : Int32) (p3 : Int32) (p4 : Int32) : Prop :=
  (¬ g0_size = 0 →
   vp_in 0 7 ∧
   vp_in 1 7 ∧
   wpX1_distance (fun (r2 : Int32) (u1 : Unit) =>
    vp_in 2 7 ∧
    wpX1_xOf (fun (r4 : Int32) (u3 : Unit) =>
     vp_in 3 7 ∧
     wpX1_yOf (fun (r6 : Int32) (u5 : Unit) =>
      vp_in 4 7 ∧
      wpX1_xOf (fun (r8 : Int32) (u7 : Unit) =>
       vp_in 5 7 ∧
       wpX1_yOf (fun (r10 : Int32) (u9 : Unit) =>
        vp_in 6 7 ∧
        wpX2_someLineHolds (fun (r12 : Int32) (u11 : Unit) =>
         (r12 = 0 ∨ r12 = 1) ∧ post r12 ((upd (upd (upd (upd (upd (upd (upd f1 (0 : Int32).toNatClampNeg p2) (1 : Int32).toNatClampNeg p4) (2 : Int32).toNatClampNeg r2) (3 : Int32).toNatClampNeg r4) (4 : Int32).toNatClampNeg r6) (5 : Int32).toNatClampNeg r8) (6 : Int32).toNatClampNeg r10))) g0_size f2 (upd (upd (upd (upd (upd (upd (upd f1 (0 : Int32).toNatClampNeg p2) (1 : Int32).toNatClampNeg p4) (2 : Int32).toNatClampNeg r2) (3 : Int32).toNatClampNeg r4) (4 : Int32).toNatClampNeg r6) (5 : Int32).toNatClampNeg r8) (6 : Int32).toNatClampNeg r10)) f5 p3 p4) f4 p3 p4) f5 p1 p2) f4 p1 p2) f4 f5 p1 p2 p3 p4) ∧
  (g0_size = 0 →
   post 0 (f1))
def wpX2_give (post : (Int32 × (Nat → Int32)) → Prop) (g0_size : Int32) (f1 : Nat → Int32) (p0 : Int32) : Prop :=
  (400 ≤ g0_size →
   post (g0_size, f1)) ∧
  (¬ 400 ≤ g0_size →
   vp_in g0_size 400 ∧
   ∀ v1 : Int32, v1 = g0_size + 1 →
   post (v1, (upd f1 g0_size.toNatClampNeg p0)))
def wpX2_partByWord (post : Int32 → Unit → Prop) (g0_here : Int32) (g0_behind : Int32) (f1 : Nat → Int32) : Prop :=
  wpX8_isWord [109, 97, 110] (fun (r2 : Int32) (u1 : Unit) =>
   (r2 = 0 →
    wpX8_isWord [100, 111, 103] (fun (r4 : Int32) (u3 : Unit) =>
     (r4 = 0 →
      wpX8_isWord [102, 97, 114] (fun (r6 : Int32) (u5 : Unit) =>
       (r6 = 0 →
        wpX8_isWord [109, 120] (fun (r8 : Int32) (u7 : Unit) =>
         (r8 = 0 →
          wpX8_isWord [109, 121] (fun (r10 : Int32) (u9 : Unit) =>
           (r10 = 0 →
            wpX8_isWord [100, 120] (fun (r12 : Int32) (u11 : Unit) =>
             (r12 = 0 →
              wpX8_isWord [100, 121] (fun (r14 : Int32) (u13 : Unit) =>
               (r14 = 0 →
                post (-8) ()) ∧
               (¬ r14 = 0 →
                post (-7) ())) g0_here g0_behind f1) ∧
             (¬ r12 = 0 →
              post (-6) ())) g0_here g0_behind f1) ∧
           (¬ r10 = 0 →
            post (-5) ())) g0_here g0_behind f1) ∧
         (¬ r8 = 0 →
          post (-4) ())) g0_here g0_behind f1) ∧
       (¬ r6 = 0 →
        post (-3) ())) g0_here g0_behind f1) ∧
     (¬ r4 = 0 →
      post (-2) ())) g0_here g0_behind f1) ∧
   (¬ r2 = 0 →
    post (-1) ())) g0_here g0_behind f1
def wpX2_readSum_29 (k2 : Int32 → (Nat → Int32) → Int32 → Int32 → Int32 → Int32 → Int32 → Prop) (post : Int32 → (Int32 × (Nat → Int32) × Int32 × Int32 × Int32 × Int32) → Prop) (g2_size : Int32) (f3 : Nat → Int32) (g0_size : Int32) (f1 : Nat → Int32) (g2_here : Int32) (g2_behind : Int32) (g2_digits : Int32) (g2_value : Int32) (x2 : Int32) (s0 : Int32) : Prop :=
  ((-7) ≤ s0 →
   wpX2_give (fun (u1 : Int32 × (Nat → Int32)) =>
    wpX8_toNext (fun (u2 : Int32 × Int32 × Int32 × Int32) =>
     wpX8_isSign (fun (r4 : Int32) (u3 : Unit) =>
      (¬ r4 = 0 →
       wpX8_toNext (fun (u5 : Int32 × Int32 × Int32 × Int32) =>
        ∀ v6 : Int32, v6 = x2 + 1 →
        k2 u1.1 u1.2 u5.1 u5.2.1 u5.2.2.1 u5.2.2.2 v6) g2_size f3 u2.1 u2.2.1 u2.2.2.1 u2.2.2.2) ∧
      (r4 = 0 →
       post 1 (u1.1, u1.2, u2.1, u2.2.1, u2.2.2.1, u2.2.2.2))) g2_size u2.1 f3 43) g2_size f3 g2_here g2_behind g2_digits g2_value) g0_size f1 s0) ∧
  (¬ (-7) ≤ s0 →
   post 0 (g0_size, f1, g2_here, g2_behind, g2_digits, g2_value))
def wpX2_readSum_2 (post : Int32 → (Int32 × (Nat → Int32) × Int32 × Int32 × Int32 × Int32) → Prop) (g2_size : Int32) (f3 : Nat → Int32) : Nat → Int32 → (Nat → Int32) → Int32 → Int32 → Int32 → Int32 → Int32 → Prop
  | 0, _, _, _, _, _, _, _ => False
  | n_2 + 1, g0_size, f1, g2_here, g2_behind, g2_digits, g2_value, x2 =>
    (400 ≤ x2 →
     post 0 (g0_size, f1, g2_here, g2_behind, g2_digits, g2_value)) ∧
    (¬ 400 ≤ x2 →
     wpX8_isNumber (fun (r2 : Int32) (u1 : Unit) =>
      (r2 = 0 →
       wpX2_partByWord (fun (r4 : Int32) (u3 : Unit) =>
        wpX2_readSum_29 (fun y0 y1 y2 y3 y4 y5 y6 => wpX2_readSum_2 post g2_size f3 n_2 y0 y1 y2 y3 y4 y5 y6) post g2_size f3 g0_size f1 g2_here g2_behind g2_digits g2_value x2 r4) g2_here g2_behind f3) ∧
      (¬ r2 = 0 →
       wpX2_readSum_29 (fun y0 y1 y2 y3 y4 y5 y6 => wpX2_readSum_2 post g2_size f3 n_2 y0 y1 y2 y3 y4 y5 y6) post g2_size f3 g0_size f1 g2_here g2_behind g2_digits g2_value x2 g2_value)) g2_digits 7)
def wpX2_readSum (post : Int32 → (Int32 × (Nat → Int32) × Int32 × Int32 × Int32 × Int32) → Prop) (g2_size : Int32) (f3 : Nat → Int32) (g0_size : Int32) (f1 : Nat → Int32) (g2_here : Int32) (g2_behind : Int32) (g2_digits : Int32) (g2_value : Int32) : Prop :=
  ∃ n_2 : Nat, wpX2_readSum_2 post g2_size f3 n_2 g0_size f1 g2_here g2_behind g2_digits g2_value 0
def wpX2_readComparison_64 (post : Int32 → (Int32 × (Nat → Int32) × Int32 × Int32 × Int32 × Int32) → Prop) (g2_size : Int32) (f3 : Nat → Int32) (g0_size : Int32) (f1 : Nat → Int32) (g2_here : Int32) (g2_behind : Int32) (g2_digits : Int32) (g2_value : Int32) (s1 : Int32) : Prop :=
  wpX2_give (fun (u1 : Int32 × (Nat → Int32)) =>
   post 1 (u1.1, u1.2, g2_here, g2_behind, g2_digits, g2_value)) g0_size f1 s1
def wpX2_readComparison_32 (post : Int32 → (Int32 × (Nat → Int32) × Int32 × Int32 × Int32 × Int32) → Prop) (g2_size : Int32) (f3 : Nat → Int32) (g0_size : Int32) (f1 : Nat → Int32) (g2_here : Int32) (g2_behind : Int32) (g2_digits : Int32) (g2_value : Int32) (x2 : Int32) : Prop :=
  wpX2_give (fun (u1 : Int32 × (Nat → Int32)) =>
   wpX8_toNext (fun (u2 : Int32 × Int32 × Int32 × Int32) =>
    wpX2_readSum (fun (r4 : Int32) (u3 : Int32 × (Nat → Int32) × Int32 × Int32 × Int32 × Int32) =>
     (¬ r4 = 0 →
      (x2 = 0 →
       wpX2_readComparison_64 post g2_size f3 u3.1 u3.2.1 u3.2.2.1 u3.2.2.2.1 u3.2.2.2.2.1 u3.2.2.2.2.2 (-10)) ∧
      (¬ x2 = 0 →
       wpX2_readComparison_64 post g2_size f3 u3.1 u3.2.1 u3.2.2.1 u3.2.2.2.1 u3.2.2.2.2.1 u3.2.2.2.2.2 (-9))) ∧
     (r4 = 0 →
      post 0 (u3.1, u3.2.1, u3.2.2.1, u3.2.2.2.1, u3.2.2.2.2.1, u3.2.2.2.2.2))) g2_size f3 u1.1 u1.2 u2.1 u2.2.1 u2.2.2.1 u2.2.2.2) g2_size f3 g2_here g2_behind g2_digits g2_value) g0_size f1 (-8)
def wpX2_readComparison (post : Int32 → (Int32 × (Nat → Int32) × Int32 × Int32 × Int32 × Int32) → Prop) (g2_size : Int32) (f3 : Nat → Int32) (g0_size : Int32) (f1 : Nat → Int32) (g2_here : Int32) (g2_behind : Int32) (g2_digits : Int32) (g2_value : Int32) : Prop :=
  wpX2_readSum (fun (r2 : Int32) (u1 : Int32 × (Nat → Int32) × Int32 × Int32 × Int32 × Int32) =>
   (¬ r2 = 0 →
    wpX8_isSign (fun (r4 : Int32) (u3 : Unit) =>
     (¬ r4 = 0 →
      wpX2_readComparison_32 post g2_size f3 u1.1 u1.2.1 u1.2.2.1 u1.2.2.2.1 u1.2.2.2.2.1 u1.2.2.2.2.2 r4) ∧
     (r4 = 0 →
      wpX8_isSign (fun (r6 : Int32) (u5 : Unit) =>
       (¬ r6 = 0 →
        wpX2_readComparison_32 post g2_size f3 u1.1 u1.2.1 u1.2.2.1 u1.2.2.2.1 u1.2.2.2.2.1 u1.2.2.2.2.2 r4) ∧
       (r6 = 0 →
        post 0 (u1.1, u1.2.1, u1.2.2.1, u1.2.2.2.1, u1.2.2.2.2.1, u1.2.2.2.2.2))) g2_size u1.2.2.1 f3 62)) g2_size u1.2.2.1 f3 60) ∧
   (r2 = 0 →
    post 0 (u1.1, u1.2.1, u1.2.2.1, u1.2.2.2.1, u1.2.2.2.2.1, u1.2.2.2.2.2))) g2_size f3 g0_size f1 g2_here g2_behind g2_digits g2_value
def wpX2_readCondition_74 (kR0 : (Int32 → (Int32 × (Nat → Int32) × Int32 × Int32 × Int32 × Int32) → Prop) → Int32 → (Nat → Int32) → Int32 → (Nat → Int32) → Int32 → Int32 → Int32 → Int32 → Int32 → Prop) (kR1 : (Int32 → (Int32 × (Nat → Int32) × Int32 × Int32 × Int32 × Int32) → Prop) → Int32 → (Nat → Int32) → Int32 → (Nat → Int32) → Int32 → Int32 → Int32 → Int32 → Int32 → Prop) (k8 : Int32 → (Nat → Int32) → Int32 → Int32 → Int32 → Int32 → Int32 → Int32 → Int32 → Int32 → Prop) (post : Int32 → (Int32 × (Nat → Int32) × Int32 × Int32 × Int32 × Int32) → Prop) (g2_size : Int32) (f3 : Nat → Int32) (g0_size : Int32) (f1 : Nat → Int32) (g2_here : Int32) (g2_behind : Int32) (g2_digits : Int32) (g2_value : Int32) (x2 : Int32) (x3 : Int32) (x4 : Int32) (x5 : Int32) : Prop :=
  wpX8_toNext (fun (u1 : Int32 × Int32 × Int32 × Int32) =>
   ∀ v2 : Int32, v2 = x5 + 1 →
   k8 g0_size f1 u1.1 u1.2.1 u1.2.2.1 u1.2.2.2 x2 x3 x4 v2) g2_size f3 g2_here g2_behind g2_digits g2_value
def wpX2_readCondition_59 (kR0 : (Int32 → (Int32 × (Nat → Int32) × Int32 × Int32 × Int32 × Int32) → Prop) → Int32 → (Nat → Int32) → Int32 → (Nat → Int32) → Int32 → Int32 → Int32 → Int32 → Int32 → Prop) (kR1 : (Int32 → (Int32 × (Nat → Int32) × Int32 × Int32 × Int32 × Int32) → Prop) → Int32 → (Nat → Int32) → Int32 → (Nat → Int32) → Int32 → Int32 → Int32 → Int32 → Int32 → Prop) (k8 : Int32 → (Nat → Int32) → Int32 → Int32 → Int32 → Int32 → Int32 → Int32 → Int32 → Int32 → Prop) (post : Int32 → (Int32 × (Nat → Int32) × Int32 × Int32 × Int32 × Int32) → Prop) (g2_size : Int32) (f3 : Nat → Int32) (g0_size : Int32) (f1 : Nat → Int32) (g2_here : Int32) (g2_behind : Int32) (g2_digits : Int32) (g2_value : Int32) (x2 : Int32) (x3 : Int32) (x5 : Int32) : Prop :=
  wpX8_isWord [111, 114] (fun (r2 : Int32) (u1 : Unit) =>
   (¬ r2 = 0 →
    wpX2_readCondition_74 kR0 kR1 k8 post g2_size f3 g0_size f1 g2_here g2_behind g2_digits g2_value x2 x3 r2 x5) ∧
   (r2 = 0 →
    post 1 (g0_size, f1, g2_here, g2_behind, g2_digits, g2_value))) g2_here g2_behind f3
def wpX2_readCondition_37 (kR0 : (Int32 → (Int32 × (Nat → Int32) × Int32 × Int32 × Int32 × Int32) → Prop) → Int32 → (Nat → Int32) → Int32 → (Nat → Int32) → Int32 → Int32 → Int32 → Int32 → Int32 → Prop) (kR1 : (Int32 → (Int32 × (Nat → Int32) × Int32 × Int32 × Int32 × Int32) → Prop) → Int32 → (Nat → Int32) → Int32 → (Nat → Int32) → Int32 → Int32 → Int32 → Int32 → Int32 → Prop) (k8 : Int32 → (Nat → Int32) → Int32 → Int32 → Int32 → Int32 → Int32 → Int32 → Int32 → Int32 → Prop) (post : Int32 → (Int32 × (Nat → Int32) × Int32 × Int32 × Int32 × Int32) → Prop) (g2_size : Int32) (f3 : Nat → Int32) (g0_size : Int32) (f1 : Nat → Int32) (g2_here : Int32) (g2_behind : Int32) (g2_digits : Int32) (g2_value : Int32) (x2 : Int32) (x4 : Int32) (x5 : Int32) : Prop :=
  wpX8_isWord [97, 110, 100] (fun (r2 : Int32) (u1 : Unit) =>
   (¬ r2 = 0 →
    wpX2_readCondition_74 kR0 kR1 k8 post g2_size f3 g0_size f1 g2_here g2_behind g2_digits g2_value x2 r2 x4 x5) ∧
   (r2 = 0 →
    (x4 = 0 →
     wpX2_readCondition_59 kR0 kR1 k8 post g2_size f3 g0_size f1 g2_here g2_behind g2_digits g2_value x2 r2 x5) ∧
    (¬ x4 = 0 →
     wpX2_give (fun (u3 : Int32 × (Nat → Int32)) =>
      wpX2_readCondition_59 kR0 kR1 k8 post g2_size f3 u3.1 u3.2 g2_here g2_behind g2_digits g2_value x2 r2 x5) g0_size f1 (-13)))) g2_here g2_behind f3
def wpX2_readCondition_8 (kR0 : (Int32 → (Int32 × (Nat → Int32) × Int32 × Int32 × Int32 × Int32) → Prop) → Int32 → (Nat → Int32) → Int32 → (Nat → Int32) → Int32 → Int32 → Int32 → Int32 → Int32 → Prop) (kR1 : (Int32 → (Int32 × (Nat → Int32) × Int32 × Int32 × Int32 × Int32) → Prop) → Int32 → (Nat → Int32) → Int32 → (Nat → Int32) → Int32 → Int32 → Int32 → Int32 → Int32 → Prop) (post : Int32 → (Int32 × (Nat → Int32) × Int32 × Int32 × Int32 × Int32) → Prop) (g2_size : Int32) (f3 : Nat → Int32) : Nat → Int32 → (Nat → Int32) → Int32 → Int32 → Int32 → Int32 → Int32 → Int32 → Int32 → Int32 → Prop
  | 0, _, _, _, _, _, _, _, _, _, _ => False
  | n_8 + 1, g0_size, f1, g2_here, g2_behind, g2_digits, g2_value, x2, x3, x4, x5 =>
    (400 ≤ x5 →
     post 0 (g0_size, f1, g2_here, g2_behind, g2_digits, g2_value)) ∧
    (¬ 400 ≤ x5 →
     kR1 (fun (r2 : Int32) (u1 : Int32 × (Nat → Int32) × Int32 × Int32 × Int32 × Int32) =>
      (¬ r2 = 0 →
       (x3 = 0 →
        wpX2_readCondition_37 kR0 kR1 (fun y0 y1 y2 y3 y4 y5 y6 y7 y8 y9 => wpX2_readCondition_8 kR0 kR1 post g2_size f3 n_8 y0 y1 y2 y3 y4 y5 y6 y7 y8 y9) post g2_size f3 u1.1 u1.2.1 u1.2.2.1 u1.2.2.2.1 u1.2.2.2.2.1 u1.2.2.2.2.2 x2 x4 x5) ∧
       (¬ x3 = 0 →
        wpX2_give (fun (u3 : Int32 × (Nat → Int32)) =>
         wpX2_readCondition_37 kR0 kR1 (fun y0 y1 y2 y3 y4 y5 y6 y7 y8 y9 => wpX2_readCondition_8 kR0 kR1 post g2_size f3 n_8 y0 y1 y2 y3 y4 y5 y6 y7 y8 y9) post g2_size f3 u3.1 u3.2 u1.2.2.1 u1.2.2.2.1 u1.2.2.2.2.1 u1.2.2.2.2.2 x2 x4 x5) u1.1 u1.2.1 (-12))) ∧
      (r2 = 0 →
       post 0 (u1.1, u1.2.1, u1.2.2.1, u1.2.2.2.1, u1.2.2.2.2.1, u1.2.2.2.2.2))) g2_size f3 g0_size f1 g2_here g2_behind g2_digits g2_value x2)
def wpX2_readCondition (kR0 : (Int32 → (Int32 × (Nat → Int32) × Int32 × Int32 × Int32 × Int32) → Prop) → Int32 → (Nat → Int32) → Int32 → (Nat → Int32) → Int32 → Int32 → Int32 → Int32 → Int32 → Prop) (kR1 : (Int32 → (Int32 × (Nat → Int32) × Int32 × Int32 × Int32 × Int32) → Prop) → Int32 → (Nat → Int32) → Int32 → (Nat → Int32) → Int32 → Int32 → Int32 → Int32 → Int32 → Prop) (post : Int32 → (Int32 × (Nat → Int32) × Int32 × Int32 × Int32 × Int32) → Prop) (g2_size : Int32) (f3 : Nat → Int32) (g0_size : Int32) (f1 : Nat → Int32) (g2_here : Int32) (g2_behind : Int32) (g2_digits : Int32) (g2_value : Int32) (p1 : Int32) : Prop :=
  ∃ n_8 : Nat, wpX2_readCondition_8 kR0 kR1 post g2_size f3 n_8 g0_size f1 g2_here g2_behind g2_digits g2_value p1 0 0 0
def wpX2_readAtom_26 (kR0 : (Int32 → (Int32 × (Nat → Int32) × Int32 × Int32 × Int32 × Int32) → Prop) → Int32 → (Nat → Int32) → Int32 → (Nat → Int32) → Int32 → Int32 → Int32 → Int32 → Int32 → Prop) (kR1 : (Int32 → (Int32 × (Nat → Int32) × Int32 × Int32 × Int32 × Int32) → Prop) → Int32 → (Nat → Int32) → Int32 → (Nat → Int32) → Int32 → Int32 → Int32 → Int32 → Int32 → Prop) (post : Int32 → (Int32 × (Nat → Int32) × Int32 × Int32 × Int32 × Int32) → Prop) (g2_size : Int32) (f3 : Nat → Int32) (g0_size : Int32) (f1 : Nat → Int32) (g2_here : Int32) (g2_behind : Int32) (g2_digits : Int32) (g2_value : Int32) (x2 : Int32) (x3 : Int32) : Prop :=
  (x2 < 6 →
   wpX8_toNext (fun (u1 : Int32 × Int32 × Int32 × Int32) =>
    (x3 = 0 →
     kR0 (fun (r3 : Int32) (u2 : Int32 × (Nat → Int32) × Int32 × Int32 × Int32 × Int32) =>
      (r3 = 0 →
       post 0 (u2.1, u2.2.1, u2.2.2.1, u2.2.2.2.1, u2.2.2.2.2.1, u2.2.2.2.2.2)) ∧
      (¬ r3 = 0 →
       wpX8_isSign (fun (r5 : Int32) (u4 : Unit) =>
        (¬ r5 = 0 →
         wpX8_toNext (fun (u6 : Int32 × Int32 × Int32 × Int32) =>
          post 1 (u2.1, u2.2.1, u6.1, u6.2.1, u6.2.2.1, u6.2.2.2)) g2_size f3 u2.2.2.1 u2.2.2.2.1 u2.2.2.2.2.1 u2.2.2.2.2.2) ∧
        (r5 = 0 →
         post 0 (u2.1, u2.2.1, u2.2.2.1, u2.2.2.2.1, u2.2.2.2.2.1, u2.2.2.2.2.2))) g2_size u2.2.2.1 f3 41)) g2_size f3 g0_size f1 u1.1 u1.2.1 u1.2.2.1 u1.2.2.2 (x2 + 1)) ∧
    (¬ x3 = 0 →
     kR1 (fun (r8 : Int32) (u7 : Int32 × (Nat → Int32) × Int32 × Int32 × Int32 × Int32) =>
      (¬ r8 = 0 →
       wpX2_give (fun (u9 : Int32 × (Nat → Int32)) =>
        post 1 (u9.1, u9.2, u7.2.2.1, u7.2.2.2.1, u7.2.2.2.2.1, u7.2.2.2.2.2)) u7.1 u7.2.1 (-11)) ∧
      (r8 = 0 →
       post 0 (u7.1, u7.2.1, u7.2.2.1, u7.2.2.2.1, u7.2.2.2.2.1, u7.2.2.2.2.2))) g2_size f3 g0_size f1 u1.1 u1.2.1 u1.2.2.1 u1.2.2.2 (x2 + 1))) g2_size f3 g2_here g2_behind g2_digits g2_value) ∧
  (¬ x2 < 6 →
   post 0 (g0_size, f1, g2_here, g2_behind, g2_digits, g2_value))
def wpX2_readAtom (kR0 : (Int32 → (Int32 × (Nat → Int32) × Int32 × Int32 × Int32 × Int32) → Prop) → Int32 → (Nat → Int32) → Int32 → (Nat → Int32) → Int32 → Int32 → Int32 → Int32 → Int32 → Prop) (kR1 : (Int32 → (Int32 × (Nat → Int32) × Int32 × Int32 × Int32 × Int32) → Prop) → Int32 → (Nat → Int32) → Int32 → (Nat → Int32) → Int32 → Int32 → Int32 → Int32 → Int32 → Prop) (post : Int32 → (Int32 × (Nat → Int32) × Int32 × Int32 × Int32 × Int32) → Prop) (g2_size : Int32) (f3 : Nat → Int32) (g0_size : Int32) (f1 : Nat → Int32) (g2_here : Int32) (g2_behind : Int32) (g2_digits : Int32) (g2_value : Int32) (p1 : Int32) : Prop :=
  wpX8_isWord [110, 111, 116] (fun (r2 : Int32) (u1 : Unit) =>
   (¬ r2 = 0 →
    wpX2_readAtom_26 kR0 kR1 post g2_size f3 g0_size f1 g2_here g2_behind g2_digits g2_value p1 r2) ∧
   (r2 = 0 →
    wpX8_isSign (fun (r4 : Int32) (u3 : Unit) =>
     (¬ r4 = 0 →
      wpX2_readAtom_26 kR0 kR1 post g2_size f3 g0_size f1 g2_here g2_behind g2_digits g2_value p1 r2) ∧
     (r4 = 0 →
      wpX2_readComparison (fun (r6 : Int32) (u5 : Int32 × (Nat → Int32) × Int32 × Int32 × Int32 × Int32) =>
       (r6 = 0 ∨ r6 = 1) ∧ post r6 (u5.1, u5.2.1, u5.2.2.1, u5.2.2.2.1, u5.2.2.2.2.1, u5.2.2.2.2.2)) g2_size f3 g0_size f1 g2_here g2_behind g2_digits g2_value)) g2_size g2_here f3 40)) g2_here g2_behind f3
def wpX2R : Nat → Nat → (Int32 → (Int32 × (Nat → Int32) × Int32 × Int32 × Int32 × Int32) → Prop) → Int32 → (Nat → Int32) → Int32 → (Nat → Int32) → Int32 → Int32 → Int32 → Int32 → Int32 → Prop
  | 0 => fun _ _ _ _ _ _ _ _ _ _ _ => False
  | n + 1 => fun w post g2_size f3 g0_size f1 g2_here g2_behind g2_digits g2_value p1 => if w = 0 then wpX2_readCondition (wpX2R n 0) (wpX2R n 1) post g2_size f3 g0_size f1 g2_here g2_behind g2_digits g2_value p1 else wpX2_readAtom (wpX2R n 0) (wpX2R n 1) post g2_size f3 g0_size f1 g2_here g2_behind g2_digits g2_value p1
def wpX2_readText_77 (k25 : Int32 → Int32 → (Nat → Int32) → Int32 → Int32 → Int32 → Int32 → Int32 → Prop) (post : Int32 → (Int32 × Int32 × (Nat → Int32) × Int32 × Int32 × Int32 × Int32) → Prop) (g2_size : Int32) (f3 : Nat → Int32) (g0_size : Int32) (g0_lines : Int32) (f1 : Nat → Int32) (g2_here : Int32) (g2_behind : Int32) (g2_digits : Int32) (g2_value : Int32) (x2 : Int32) : Prop :=
  wpX2_give (fun (u1 : Int32 × (Nat → Int32)) =>
   ∀ v2 : Int32, v2 = g0_lines + 1 →
   wpX8_isOver (fun (r4 : Int32) (u3 : Unit) =>
    (r4 = 0 →
     wpX8_isSign (fun (r6 : Int32) (u5 : Unit) =>
      (¬ r6 = 0 →
       wpX8_toNext (fun (u7 : Int32 × Int32 × Int32 × Int32) =>
        ∀ v8 : Int32, v8 = x2 + 1 →
        k25 u1.1 v2 u1.2 u7.1 u7.2.1 u7.2.2.1 u7.2.2.2 v8) g2_size f3 g2_here g2_behind g2_digits g2_value) ∧
      (r6 = 0 →
       post 0 (u1.1, v2, u1.2, g2_here, g2_behind, g2_digits, g2_value))) g2_size g2_here f3 59) ∧
    (¬ r4 = 0 →
     post 1 (u1.1, v2, u1.2, g2_here, g2_behind, g2_digits, g2_value))) g2_size g2_here) g0_size f1 (-15)
def wpX2_readText_25 (post : Int32 → (Int32 × Int32 × (Nat → Int32) × Int32 × Int32 × Int32 × Int32) → Prop) (g2_size : Int32) (f3 : Nat → Int32) : Nat → Int32 → Int32 → (Nat → Int32) → Int32 → Int32 → Int32 → Int32 → Int32 → Prop
  | 0, _, _, _, _, _, _, _, _ => False
  | n_25 + 1, g0_size, g0_lines, f1, g2_here, g2_behind, g2_digits, g2_value, x2 =>
    (12 ≤ x2 →
     post 0 (g0_size, g0_lines, f1, g2_here, g2_behind, g2_digits, g2_value)) ∧
    (¬ 12 ≤ x2 →
     wpX8_isWord [98, 97, 114] (fun (r2 : Int32) (u1 : Unit) =>
      (r2 = 0 →
       post 0 (g0_size, g0_lines, f1, g2_here, g2_behind, g2_digits, g2_value)) ∧
      (¬ r2 = 0 →
       wpX8_toNext (fun (u3 : Int32 × Int32 × Int32 × Int32) =>
        wpX8_isWord [105, 102] (fun (r5 : Int32) (u4 : Unit) =>
         (¬ r5 = 0 →
          wpX8_toNext (fun (u6 : Int32 × Int32 × Int32 × Int32) =>
           ∃ nG : Nat, nG ≤ 40 ∧ wpX2R nG 0 (fun (r8 : Int32) (u7 : Int32 × (Nat → Int32) × Int32 × Int32 × Int32 × Int32) =>
            (¬ r8 = 0 →
             wpX2_readText_77 (fun y0 y1 y2 y3 y4 y5 y6 y7 => wpX2_readText_25 post g2_size f3 n_25 y0 y1 y2 y3 y4 y5 y6 y7) post g2_size f3 u7.1 g0_lines u7.2.1 u7.2.2.1 u7.2.2.2.1 u7.2.2.2.2.1 u7.2.2.2.2.2 x2) ∧
            (r8 = 0 →
             post 0 (u7.1, g0_lines, u7.2.1, u7.2.2.1, u7.2.2.2.1, u7.2.2.2.2.1, u7.2.2.2.2.2))) g2_size f3 g0_size f1 u6.1 u6.2.1 u6.2.2.1 u6.2.2.2 0) g2_size f3 u3.1 u3.2.1 u3.2.2.1 u3.2.2.2) ∧
         (r5 = 0 →
          wpX2_give (fun (u9 : Int32 × (Nat → Int32)) =>
           wpX2_readText_77 (fun y0 y1 y2 y3 y4 y5 y6 y7 => wpX2_readText_25 post g2_size f3 n_25 y0 y1 y2 y3 y4 y5 y6 y7) post g2_size f3 u9.1 g0_lines u9.2 u3.1 u3.2.1 u3.2.2.1 u3.2.2.2 x2) g0_size f1 (-14))) u3.1 u3.2.1 f3) g2_size f3 g2_here g2_behind g2_digits g2_value)) g2_here g2_behind f3)
def wpX2_readText (post : Int32 → (Int32 × Int32 × (Nat → Int32) × Int32 × Int32 × Int32 × Int32) → Prop) (g2_size : Int32) (f3 : Nat → Int32) (g0_size : Int32) (g0_lines : Int32) (f1 : Nat → Int32) (g2_here : Int32) (g2_behind : Int32) (g2_digits : Int32) (g2_value : Int32) : Prop :=
  wpX8_toFirst (fun (u1 : Int32 × Int32 × Int32 × Int32) =>
   wpX8_isOver (fun (r3 : Int32) (u2 : Unit) =>
    (r3 = 0 →
     ∃ n_25 : Nat, wpX2_readText_25 post g2_size f3 n_25 0 0 f1 u1.1 u1.2.1 u1.2.2.1 u1.2.2.2 0) ∧
    (¬ r3 = 0 →
     post 1 (0, 0, f1, u1.1, u1.2.1, u1.2.2.1, u1.2.2.2))) g2_size u1.1) g2_size f3 g2_here g2_behind g2_digits g2_value
def wpX7_copyFrom (post : (Int32 × Int32 × Int32 × Int32 × Int32 × Int32 × Int32 × Int32 × Int32) → Prop) (g1_underWay : Int32) (g1_way : Int32) (g1_other : Int32) (g1_lead : Int32) (g1_man : Int32) (g1_dog : Int32) (g1_gone : Int32) (g1_greatest : Int32) (g0_underWay : Int32) (g0_way : Int32) (g0_other : Int32) (g0_lead : Int32) (g0_man : Int32) (g0_dog : Int32) (g0_gone : Int32) (g0_greatest : Int32) (g0_remembered : Int32) : Prop :=
  (g1_underWay = 0 ∨ g1_underWay = 1) ∧
  post (g1_underWay, g1_way, g1_other, g1_lead, g1_man, g1_dog, g1_gone, g1_greatest, 0)
def wpX7_start (post : (Int32 × Int32 × Int32 × Int32 × Int32 × Int32 × Int32 × Int32 × Int32) → Prop) (g0_underWay : Int32) (g0_way : Int32) (g0_other : Int32) (g0_lead : Int32) (g0_man : Int32) (g0_dog : Int32) (g0_gone : Int32) (g0_greatest : Int32) (g0_remembered : Int32) (p0 : Int32) (p1 : Int32) (p2 : Int32) (p3 : Int32) : Prop :=
  post (1, p0, p1, p2, 0, 0, 0, p3, 0)
def wpX10_manMoves (post : Int32 → Unit → Prop) (p0 : Int32) : Prop :=
  post (p0 &&& 1) ()
def wpX10_dogMoves (post : Int32 → Unit → Prop) (p0 : Int32) : Prop :=
  post (p0 >>> ((1 : Int32) &&& 31)) ()
def wpX7_advance (post : (Int32 × Int32 × Int32 × Int32 × Int32 × (Nat → Int32) × (Nat → Int32)) → Prop) (g0_man : Int32) (g0_dog : Int32) (g0_gone : Int32) (g0_greatest : Int32) (g0_remembered : Int32) (f1 : Nat → Int32) (f2 : Nat → Int32) (p0 : Int32) (p1 : Int32) : Prop :=
  (g0_gone < 58 →
   vp_in g0_gone 58 ∧
   vp_in g0_gone 58 ∧
   ∀ v1 : Int32, v1 = g0_gone + 1 →
   wpX10_manMoves (fun (r3 : Int32) (u2 : Unit) =>
    ∀ v4 : Int32, v4 = g0_man + r3 →
    wpX10_dogMoves (fun (r6 : Int32) (u5 : Unit) =>
     ∀ v7 : Int32, v7 = g0_dog + r6 →
     ∀ v8 : Int32, v8 = iMax g0_greatest p1 →
     ∀ v9 : Int32, v9 = iMin (g0_remembered + 1) 40 →
     post (v4, v7, v1, v8, v9, (upd f1 g0_gone.toNatClampNeg p0), (upd f2 g0_gone.toNatClampNeg g0_greatest))) p0) p0) ∧
  (¬ g0_gone < 58 →
   post (g0_man, g0_dog, g0_gone, g0_greatest, g0_remembered, f1, f2))
def wpX7_takeBack (post : Int32 → (Int32 × Int32 × Int32 × Int32 × Int32) → Prop) (g0_underWay : Int32) (f1 : Nat → Int32) (f2 : Nat → Int32) (g0_man : Int32) (g0_dog : Int32) (g0_gone : Int32) (g0_greatest : Int32) (g0_remembered : Int32) : Prop :=
  (g0_underWay = 0 →
   post (-1) (g0_man, g0_dog, g0_gone, g0_greatest, g0_remembered)) ∧
  (¬ g0_underWay = 0 →
   (g0_remembered = 0 →
    post (-1) (g0_man, g0_dog, g0_gone, g0_greatest, g0_remembered)) ∧
   (¬ g0_remembered = 0 →
    (¬ g0_gone = 0 →
     ∀ v1 : Int32, v1 = g0_gone - 1 →
     ∀ v2 : Int32, v2 = g0_remembered - 1 →
     vp_in v1 58 ∧
     ∀ v3 : Int32, v3 = f1 v1.toNatClampNeg →
     wpX10_manMoves (fun (r5 : Int32) (u4 : Unit) =>
      ∀ v6 : Int32, v6 = g0_man - r5 →
      wpX10_dogMoves (fun (r8 : Int32) (u7 : Unit) =>
       ∀ v9 : Int32, v9 = g0_dog - r8 →
       vp_in v1 58 ∧
       ∀ v10 : Int32, v10 = f2 v1.toNatClampNeg →
       post v3 (v6, v9, v1, v10, v2)) v3) v3) ∧
    (g0_gone = 0 →
     post (-1) (g0_man, g0_dog, g0_gone, g0_greatest, g0_remembered))))
def wpX6_copyFrom (post : (Int32 × Int32 × Int32 × Int32 × (Nat → Int32) × (Nat → Int32) × (Nat → Int32) × (Nat → Int32) × Int32 × Int32 × (Nat → Int32) × Int32 × (Nat → Int32) × (Nat → Int32) × (Nat → Int32) × (Nat → Int32) × Int32 × Int32 × Int32 × Int32 × Int32 × Int32 × Int32 × Int32 × Int32) → Prop) (g14_drawSeed : Int32) (g15_ways : Int32) (g15_wallCount : Int32) (g15_texts : Int32) (f16 : Nat → Int32) (f17 : Nat → Int32) (f18 : Nat → Int32) (f19 : Nat → Int32) (g20_size : Int32) (g20_lines : Int32) (f21 : Nat → Int32) (g22_size : Int32) (f23 : Nat → Int32) (f24 : Nat → Int32) (f25 : Nat → Int32) (f26 : Nat → Int32) (g27_underWay : Int32) (g27_way : Int32) (g27_other : Int32) (g27_lead : Int32) (g27_man : Int32) (g27_dog : Int32) (g27_gone : Int32) (g27_greatest : Int32) (g0_drawSeed : Int32) (g1_ways : Int32) (g1_wallCount : Int32) (g1_texts : Int32) (f2 : Nat → Int32) (f3 : Nat → Int32) (f4 : Nat → Int32) (f5 : Nat → Int32) (g6_size : Int32) (g6_lines : Int32) (f7 : Nat → Int32) (g8_size : Int32) (f9 : Nat → Int32) (f10 : Nat → Int32) (f11 : Nat → Int32) (f12 : Nat → Int32) (g13_underWay : Int32) (g13_way : Int32) (g13_other : Int32) (g13_lead : Int32) (g13_man : Int32) (g13_dog : Int32) (g13_gone : Int32) (g13_greatest : Int32) (g13_remembered : Int32) : Prop :=
  wpX1_copyFrom (fun (u1 : Int32 × Int32 × Int32 × (Nat → Int32) × (Nat → Int32) × (Nat → Int32) × (Nat → Int32)) =>
   wpX2_copyFrom (fun (u2 : Int32 × Int32 × (Nat → Int32)) =>
    wpX3_copyFrom (fun (u3 : Int32 × (Nat → Int32) × (Nat → Int32) × (Nat → Int32) × (Nat → Int32)) =>
     wpX7_copyFrom (fun (u4 : Int32 × Int32 × Int32 × Int32 × Int32 × Int32 × Int32 × Int32 × Int32) =>
      post (g14_drawSeed, u1.1, u1.2.1, u1.2.2.1, u1.2.2.2.1, u1.2.2.2.2.1, u1.2.2.2.2.2.1, u1.2.2.2.2.2.2, u2.1, u2.2.1, u2.2.2, u3.1, u3.2.1, u3.2.2.1, u3.2.2.2.1, u3.2.2.2.2, u4.1, u4.2.1, u4.2.2.1, u4.2.2.2.1, u4.2.2.2.2.1, u4.2.2.2.2.2.1, u4.2.2.2.2.2.2.1, u4.2.2.2.2.2.2.2.1, u4.2.2.2.2.2.2.2.2)) g27_underWay g27_way g27_other g27_lead g27_man g27_dog g27_gone g27_greatest g13_underWay g13_way g13_other g13_lead g13_man g13_dog g13_gone g13_greatest g13_remembered) g22_size f23 f24 f25 f26 g8_size f9 f10 f11 f12) g20_size g20_lines f21 g6_size g6_lines f7) g15_ways g15_wallCount g15_texts f16 f17 f18 f19 g1_ways g1_wallCount g1_texts f2 f3 f4 f5
def wpX6_isShut (post : Int32 → ((Nat → Int32)) → Prop) (g1_wallCount : Int32) (f2 : Nat → Int32) (f3 : Nat → Int32) (f4 : Nat → Int32) (g5_size : Int32) (f7 : Nat → Int32) (f6 : Nat → Int32) (p0 : Int32) (p1 : Int32) (p2 : Int32) (p3 : Int32) : Prop :=
  wpX1_isWalledOff (fun (r2 : Int32) (u1 : Unit) =>
   (¬ r2 = 0 →
    post 1 (f6)) ∧
   (r2 = 0 →
    wpX2_isBroken (fun (r4 : Int32) (u3 : (Nat → Int32)) =>
     (r4 = 0 →
      post 0 (u3)) ∧
     (¬ r4 = 0 →
      post 1 (u3))) g5_size f7 f2 f3 f6 p0 p1 p2 p3)) g1_wallCount f2 f3 f4 p0 p1 p2 p3
def wpX6_allows (post : Int32 → ((Nat → Int32)) → Prop) (g1_ways : Int32) (g1_wallCount : Int32) (f2 : Nat → Int32) (f3 : Nat → Int32) (f4 : Nat → Int32) (f5 : Nat → Int32) (g6_size : Int32) (f8 : Nat → Int32) (f7 : Nat → Int32) (p0 : Int32) (p1 : Int32) (p2 : Int32) (p3 : Int32) (p4 : Int32) : Prop :=
  wpX1_hasCorner (fun (r2 : Int32) (u1 : Unit) =>
   (r2 = 0 →
    post 0 (f7)) ∧
   (¬ r2 = 0 →
    wpX1_hasCorner (fun (r4 : Int32) (u3 : Unit) =>
     (r4 = 0 →
      post 0 (f7)) ∧
     (¬ r4 = 0 →
      wpX1_distance (fun (r6 : Int32) (u5 : Unit) =>
       (p4 < r6 →
        post 0 (f7)) ∧
       (¬ p4 < r6 →
        wpX6_isShut (fun (r8 : Int32) (u7 : (Nat → Int32)) =>
         (¬ r8 = 0 →
          post 0 (u7)) ∧
         (r8 = 0 →
          post 1 (u7))) g1_wallCount f3 f4 f5 g6_size f8 f7 p0 p1 p2 p3)) f3 f4 p0 p1 p2 p3)) g1_ways f2 p2 p3)) g1_ways f2 p0 p1
def wpX6_canGo (post : Int32 → ((Nat → Int32)) → Prop) (g1_underWay : Int32) (g1_way : Int32) (g1_other : Int32) (g1_lead : Int32) (g1_man : Int32) (g1_dog : Int32) (g2_ways : Int32) (g2_wallCount : Int32) (f3 : Nat → Int32) (f4 : Nat → Int32) (f5 : Nat → Int32) (f6 : Nat → Int32) (g7_size : Int32) (f9 : Nat → Int32) (f8 : Nat → Int32) (p0 : Int32) : Prop :=
  (g1_underWay = 0 →
   post 0 (f8)) ∧
  (¬ g1_underWay = 0 →
   wpX10_manMoves (fun (r2 : Int32) (u1 : Unit) =>
    wpX10_dogMoves (fun (r4 : Int32) (u3 : Unit) =>
     wpX6_allows (fun (r6 : Int32) (u5 : (Nat → Int32)) =>
      (r6 = 0 →
       post 0 (u5)) ∧
      (¬ r6 = 0 →
       post 1 (u5))) g2_ways g2_wallCount f3 f4 f5 f6 g7_size f9 f8 g1_way (g1_man + r2) g1_other (g1_dog + r4) g1_lead) p0) p0)
def wpX6_go (post : Int32 → (Int32 × Int32 × Int32 × Int32 × Int32 × (Nat → Int32) × (Nat → Int32)) → Prop) (g1_way : Int32) (g1_other : Int32) (f5 : Nat → Int32) (f6 : Nat → Int32) (g1_man : Int32) (g1_dog : Int32) (g1_gone : Int32) (g1_greatest : Int32) (g1_remembered : Int32) (f2 : Nat → Int32) (f3 : Nat → Int32) (p0 : Int32) : Prop :=
  wpX10_manMoves (fun (r2 : Int32) (u1 : Unit) =>
   wpX10_dogMoves (fun (r4 : Int32) (u3 : Unit) =>
    wpX1_distance (fun (r6 : Int32) (u5 : Unit) =>
     wpX7_advance (fun (u7 : Int32 × Int32 × Int32 × Int32 × Int32 × (Nat → Int32) × (Nat → Int32)) =>
      post r6 (u7.1, u7.2.1, u7.2.2.1, u7.2.2.2.1, u7.2.2.2.2.1, u7.2.2.2.2.2.1, u7.2.2.2.2.2.2)) g1_man g1_dog g1_gone g1_greatest g1_remembered f2 f3 p0 r6) f5 f6 g1_way (g1_man + r2) g1_other (g1_dog + r4)) p0) p0
def wpX6_isStrollOver (post : Int32 → Unit → Prop) (g1_way : Int32) (g1_other : Int32) (g1_man : Int32) (g1_dog : Int32) (g2_ways : Int32) (f3 : Nat → Int32) : Prop :=
  wpX1_hasCorner (fun (r2 : Int32) (u1 : Unit) =>
   (¬ r2 = 0 →
    post 0 ()) ∧
   (r2 = 0 →
    wpX1_hasCorner (fun (r4 : Int32) (u3 : Unit) =>
     (¬ r4 = 0 →
      post 0 ()) ∧
     (r4 = 0 →
      post 1 ())) g2_ways f3 g1_other (g1_dog + 1))) g2_ways f3 g1_way (g1_man + 1)
def wpX6_nextDraw (post : Int32 → Int32 → Prop) (g0_drawSeed : Int32) : Prop :=
  ∀ v1 : Int32, v1 = (1103515245 * g0_drawSeed) + 12345 →
  post ((v1 >>> ((16 : Int32) &&& 31)) &&& 32767) (v1)
def wpX6_drawStep_78 (k50 : Int32 → (Nat → Int32) → Int32 → Int32 → Int32 → Prop) (post : Int32 → (Int32 × (Nat → Int32)) → Prop) (g1_underWay : Int32) (g1_way : Int32) (g1_other : Int32) (g1_lead : Int32) (g1_man : Int32) (g1_dog : Int32) (g2_ways : Int32) (g2_wallCount : Int32) (f3 : Nat → Int32) (f4 : Nat → Int32) (f5 : Nat → Int32) (f6 : Nat → Int32) (g7_size : Int32) (f9 : Nat → Int32) (g0_drawSeed : Int32) (f8 : Nat → Int32) (x1 : Int32) (x3 : Int32) (x4 : Int32) : Prop :=
  ∀ v1 : Int32, v1 = x4 + 1 →
  k50 g0_drawSeed f8 x1 x3 v1
def wpX6_drawStep_50 (post : Int32 → (Int32 × (Nat → Int32)) → Prop) (g1_underWay : Int32) (g1_way : Int32) (g1_other : Int32) (g1_lead : Int32) (g1_man : Int32) (g1_dog : Int32) (g2_ways : Int32) (g2_wallCount : Int32) (f3 : Nat → Int32) (f4 : Nat → Int32) (f5 : Nat → Int32) (f6 : Nat → Int32) (g7_size : Int32) (f9 : Nat → Int32) : Nat → Int32 → (Nat → Int32) → Int32 → Int32 → Int32 → Prop
  | 0, _, _, _, _, _ => False
  | n_50 + 1, g0_drawSeed, f8, x1, x3, x4 =>
    (3 < x4 →
     post (-1) (g0_drawSeed, f8)) ∧
    (¬ 3 < x4 →
     (¬ ((x1 >>> (x4 &&& 31)) &&& 1) = 0 →
      (¬ x3 = 0 →
       ∀ v1 : Int32, v1 = x3 + (-1) →
       wpX6_drawStep_78 (fun y0 y1 y2 y3 y4 => wpX6_drawStep_50 post g1_underWay g1_way g1_other g1_lead g1_man g1_dog g2_ways g2_wallCount f3 f4 f5 f6 g7_size f9 n_50 y0 y1 y2 y3 y4) post g1_underWay g1_way g1_other g1_lead g1_man g1_dog g2_ways g2_wallCount f3 f4 f5 f6 g7_size f9 g0_drawSeed f8 x1 v1 x4) ∧
      (x3 = 0 →
       post x4 (g0_drawSeed, f8))) ∧
     (((x1 >>> (x4 &&& 31)) &&& 1) = 0 →
      wpX6_drawStep_78 (fun y0 y1 y2 y3 y4 => wpX6_drawStep_50 post g1_underWay g1_way g1_other g1_lead g1_man g1_dog g2_ways g2_wallCount f3 f4 f5 f6 g7_size f9 n_50 y0 y1 y2 y3 y4) post g1_underWay g1_way g1_other g1_lead g1_man g1_dog g2_ways g2_wallCount f3 f4 f5 f6 g7_size f9 g0_drawSeed f8 x1 x3 x4))
def wpX6_drawStep_28 (k6 : Int32 → (Nat → Int32) → Int32 → Int32 → Int32 → Prop) (post : Int32 → (Int32 × (Nat → Int32)) → Prop) (g1_underWay : Int32) (g1_way : Int32) (g1_other : Int32) (g1_lead : Int32) (g1_man : Int32) (g1_dog : Int32) (g2_ways : Int32) (g2_wallCount : Int32) (f3 : Nat → Int32) (f4 : Nat → Int32) (f5 : Nat → Int32) (f6 : Nat → Int32) (g7_size : Int32) (f9 : Nat → Int32) (g0_drawSeed : Int32) (f8 : Nat → Int32) (x1 : Int32) (x2 : Int32) (x3 : Int32) : Prop :=
  ∀ v1 : Int32, v1 = x3 + 1 →
  k6 g0_drawSeed f8 x1 x2 v1
def wpX6_drawStep_6 (post : Int32 → (Int32 × (Nat → Int32)) → Prop) (g1_underWay : Int32) (g1_way : Int32) (g1_other : Int32) (g1_lead : Int32) (g1_man : Int32) (g1_dog : Int32) (g2_ways : Int32) (g2_wallCount : Int32) (f3 : Nat → Int32) (f4 : Nat → Int32) (f5 : Nat → Int32) (f6 : Nat → Int32) (g7_size : Int32) (f9 : Nat → Int32) : Nat → Int32 → (Nat → Int32) → Int32 → Int32 → Int32 → Prop
  | 0, _, _, _, _, _ => False
  | n_6 + 1, g0_drawSeed, f8, x1, x2, x3 =>
    (3 < x3 →
     (¬ x2 = 0 →
      wpX6_nextDraw (fun (r2 : Int32) (u1 : Int32) =>
       ¬ x2 = 0 ∧
       ∀ v3 : Int32, v3 = r2 - r2 / x2 * x2 →
       ∃ n_50 : Nat, wpX6_drawStep_50 post g1_underWay g1_way g1_other g1_lead g1_man g1_dog g2_ways g2_wallCount f3 f4 f5 f6 g7_size f9 n_50 u1 f8 x1 v3 1) g0_drawSeed) ∧
     (x2 = 0 →
      post (-1) (g0_drawSeed, f8))) ∧
    (¬ 3 < x3 →
     wpX6_canGo (fun (r5 : Int32) (u4 : (Nat → Int32)) =>
      (r5 = 0 →
       wpX6_drawStep_28 (fun y0 y1 y2 y3 y4 => wpX6_drawStep_6 post g1_underWay g1_way g1_other g1_lead g1_man g1_dog g2_ways g2_wallCount f3 f4 f5 f6 g7_size f9 n_6 y0 y1 y2 y3 y4) post g1_underWay g1_way g1_other g1_lead g1_man g1_dog g2_ways g2_wallCount f3 f4 f5 f6 g7_size f9 g0_drawSeed u4 x1 x2 x3) ∧
      (¬ r5 = 0 →
       ∀ v6 : Int32, v6 = x1 ||| ((1 : Int32) <<< (x3 &&& 31)) →
       ∀ v7 : Int32, v7 = x2 + 1 →
       wpX6_drawStep_28 (fun y0 y1 y2 y3 y4 => wpX6_drawStep_6 post g1_underWay g1_way g1_other g1_lead g1_man g1_dog g2_ways g2_wallCount f3 f4 f5 f6 g7_size f9 n_6 y0 y1 y2 y3 y4) post g1_underWay g1_way g1_other g1_lead g1_man g1_dog g2_ways g2_wallCount f3 f4 f5 f6 g7_size f9 g0_drawSeed u4 v6 v7 x3)) g1_underWay g1_way g1_other g1_lead g1_man g1_dog g2_ways g2_wallCount f3 f4 f5 f6 g7_size f9 f8 x3)
def wpX6_drawStep (post : Int32 → (Int32 × (Nat → Int32)) → Prop) (g1_underWay : Int32) (g1_way : Int32) (g1_other : Int32) (g1_lead : Int32) (g1_man : Int32) (g1_dog : Int32) (g2_ways : Int32) (g2_wallCount : Int32) (f3 : Nat → Int32) (f4 : Nat → Int32) (f5 : Nat → Int32) (f6 : Nat → Int32) (g7_size : Int32) (f9 : Nat → Int32) (g0_drawSeed : Int32) (f8 : Nat → Int32) : Prop :=
  ∃ n_6 : Nat, wpX6_drawStep_6 post g1_underWay g1_way g1_other g1_lead g1_man g1_dog g2_ways g2_wallCount f3 f4 f5 f6 g7_size f9 n_6 g0_drawSeed f8 0 0 1
def wpX0_cell (post : Int32 → Unit → Prop) (p0 : Int32) (p1 : Int32) : Prop :=
  post ((((p0 + 1) * 33) + p1) + 1) ()
def wpX0_lay_92 (k41 : Int32 → Int32 → (Nat → Int32) → (Nat → Int32) → Int32 → Int32 → Int32 → Int32 → Prop) (k29 : Int32 → Int32 → (Nat → Int32) → (Nat → Int32) → Int32 → Int32 → Int32 → Prop) (post : (Int32 × Int32 × (Nat → Int32) × (Nat → Int32)) → Prop) (g3_wallCount : Int32) (f4 : Nat → Int32) (f5 : Nat → Int32) (f6 : Nat → Int32) (f7 : Nat → Int32) (g8_size : Int32) (f10 : Nat → Int32) (g0_rows : Int32) (g0_columns : Int32) (f1 : Nat → Int32) (f9 : Nat → Int32) (x2 : Int32) (x3 : Int32) (x4 : Int32) (x5 : Int32) (s1 : Int32) (s2 : Int32) : Prop :=
  vp_in s1 1089 ∧
  ∀ v1 : Int32, v1 = x5 + 1 →
  k41 g0_rows g0_columns (upd f1 s1.toNatClampNeg s2) f9 x2 x3 x4 v1
def wpX0_lay_41 (k29 : Int32 → Int32 → (Nat → Int32) → (Nat → Int32) → Int32 → Int32 → Int32 → Prop) (post : (Int32 × Int32 × (Nat → Int32) × (Nat → Int32)) → Prop) (g3_wallCount : Int32) (f4 : Nat → Int32) (f5 : Nat → Int32) (f6 : Nat → Int32) (f7 : Nat → Int32) (g8_size : Int32) (f10 : Nat → Int32) : Nat → Int32 → Int32 → (Nat → Int32) → (Nat → Int32) → Int32 → Int32 → Int32 → Int32 → Prop
  | 0, _, _, _, _, _, _, _, _ => False
  | n_41 + 1, g0_rows, g0_columns, f1, f9, x2, x3, x4, x5 =>
    (g0_columns ≤ x5 →
     ∀ v1 : Int32, v1 = x4 + 1 →
     k29 g0_rows g0_columns f1 f9 x2 x3 v1) ∧
    (¬ g0_columns ≤ x5 →
     wpX0_cell (fun (r3 : Int32) (u2 : Unit) =>
      wpX6_isShut (fun (r5 : Int32) (u4 : (Nat → Int32)) =>
       (r5 = 0 →
        wpX1_distance (fun (r7 : Int32) (u6 : Unit) =>
         wpX0_lay_92 (fun y0 y1 y2 y3 y4 y5 y6 y7 => wpX0_lay_41 k29 post g3_wallCount f4 f5 f6 f7 g8_size f10 n_41 y0 y1 y2 y3 y4 y5 y6 y7) k29 post g3_wallCount f4 f5 f6 f7 g8_size f10 g0_rows g0_columns f1 u4 x2 x3 x4 x5 r3 r7) f5 f6 x2 x4 x3 x5) ∧
       (¬ r5 = 0 →
        wpX0_lay_92 (fun y0 y1 y2 y3 y4 y5 y6 y7 => wpX0_lay_41 k29 post g3_wallCount f4 f5 f6 f7 g8_size f10 n_41 y0 y1 y2 y3 y4 y5 y6 y7) k29 post g3_wallCount f4 f5 f6 f7 g8_size f10 g0_rows g0_columns f1 u4 x2 x3 x4 x5 r3 2147483647)) g3_wallCount f5 f6 f7 g8_size f10 f9 x2 x4 x3 x5) x4 x5)
def wpX0_lay_29 (post : (Int32 × Int32 × (Nat → Int32) × (Nat → Int32)) → Prop) (g3_wallCount : Int32) (f4 : Nat → Int32) (f5 : Nat → Int32) (f6 : Nat → Int32) (f7 : Nat → Int32) (g8_size : Int32) (f10 : Nat → Int32) : Nat → Int32 → Int32 → (Nat → Int32) → (Nat → Int32) → Int32 → Int32 → Int32 → Prop
  | 0, _, _, _, _, _, _, _ => False
  | n_29 + 1, g0_rows, g0_columns, f1, f9, x2, x3, x4 =>
    (g0_rows ≤ x4 →
     post (g0_rows, g0_columns, f1, f9)) ∧
    (¬ g0_rows ≤ x4 →
     ∃ n_41 : Nat, wpX0_lay_41 (fun y0 y1 y2 y3 y4 y5 y6 => wpX0_lay_29 post g3_wallCount f4 f5 f6 f7 g8_size f10 n_29 y0 y1 y2 y3 y4 y5 y6) post g3_wallCount f4 f5 f6 f7 g8_size f10 n_41 g0_rows g0_columns f1 f9 x2 x3 x4 0)
def wpX0_lay (post : (Int32 × Int32 × (Nat → Int32) × (Nat → Int32)) → Prop) (g3_wallCount : Int32) (f4 : Nat → Int32) (f5 : Nat → Int32) (f6 : Nat → Int32) (f7 : Nat → Int32) (g8_size : Int32) (f10 : Nat → Int32) (g0_rows : Int32) (g0_columns : Int32) (f1 : Nat → Int32) (f9 : Nat → Int32) (p1 : Int32) (p2 : Int32) : Prop :=
  vp_in p1 12 ∧
  ∀ v1 : Int32, v1 = f4 p1.toNatClampNeg →
  vp_in p2 12 ∧
  ∀ v2 : Int32, v2 = f4 p2.toNatClampNeg →
  ∃ n_29 : Nat, wpX0_lay_29 post g3_wallCount f4 f5 f6 f7 g8_size f10 n_29 v1 v2 f1 f9 p1 p2 0
def wpX0_fence_27 (post : ((Nat → Int32)) → Prop) : Nat → (Nat → Int32) → Int32 → Int32 → Int32 → Prop
  | 0, _, _, _, _ => False
  | n_27 + 1, f1, x1, x2, x3 =>
    (x2 ≤ x3 →
     wpX0_cell (fun (r2 : Int32) (u1 : Unit) =>
      vp_in r2 1089 ∧
      post ((upd f1 r2.toNatClampNeg 0))) x1 x2) ∧
    (¬ x2 ≤ x3 →
     wpX0_cell (fun (r4 : Int32) (u3 : Unit) =>
      vp_in r4 1089 ∧
      ∀ v5 : Int32, v5 = x3 + 1 →
      wpX0_fence_27 post n_27 (upd f1 r4.toNatClampNeg 2147483647) x1 x2 v5) x1 x3)
def wpX0_fence_2 (post : ((Nat → Int32)) → Prop) : Nat → (Nat → Int32) → Int32 → Int32 → Int32 → Prop
  | 0, _, _, _, _ => False
  | n_2 + 1, f1, x1, x2, x3 =>
    (x1 ≤ x3 →
     ∃ n_27 : Nat, wpX0_fence_27 post n_27 f1 x1 x2 0) ∧
    (¬ x1 ≤ x3 →
     wpX0_cell (fun (r2 : Int32) (u1 : Unit) =>
      vp_in r2 1089 ∧
      ∀ v3 : Int32, v3 = x3 + 1 →
      wpX0_fence_2 post n_2 (upd f1 r2.toNatClampNeg 2147483647) x1 x2 v3) x3 x2)
def wpX0_fence (post : ((Nat → Int32)) → Prop) (f1 : Nat → Int32) (p0 : Int32) (p1 : Int32) : Prop :=
  ∃ n_2 : Nat, wpX0_fence_2 post n_2 f1 p0 p1 0
def wpX0_bestAhead (post : Int32 → Unit → Prop) (f1 : Nat → Int32) (p0 : Int32) (p1 : Int32) : Prop :=
  wpX0_cell (fun (r2 : Int32) (u1 : Unit) =>
   vp_in r2 1089 ∧
   wpX0_cell (fun (r4 : Int32) (u3 : Unit) =>
    vp_in r4 1089 ∧
    wpX0_cell (fun (r6 : Int32) (u5 : Unit) =>
     vp_in r6 1089 ∧
     post (iMin (f1 r2.toNatClampNeg) (iMin (f1 r4.toNatClampNeg) (f1 r6.toNatClampNeg))) ()) p0 (p1 + 1)) (p0 + 1) p1) (p0 + 1) (p1 + 1)
def wpX0_settle_76 (k44 : (Nat → Int32) → Int32 → Int32 → Int32 → Int32 → Int32 → Prop) (k11 : (Nat → Int32) → Int32 → Int32 → Int32 → Prop) (post : Int32 → ((Nat → Int32)) → Prop) (g0_rows : Int32) (g0_columns : Int32) (f2 : Nat → Int32) (f1 : Nat → Int32) (x2 : Int32) (x3 : Int32) (x4 : Int32) (x5 : Int32) (x6 : Int32) (s0 : Int32) : Prop :=
  wpX0_cell (fun (r2 : Int32) (u1 : Unit) =>
   wpX0_cell (fun (r4 : Int32) (u3 : Unit) =>
    vp_in r4 1089 ∧
    wpX0_bestAhead (fun (r6 : Int32) (u5 : Unit) =>
     vp_in r2 1089 ∧
     ∀ v7 : Int32, v7 = x6 + (-1) →
     k44 (upd f1 r2.toNatClampNeg (iMax (f2 r4.toNatClampNeg) r6)) x2 x3 x4 x5 v7) f1 x4 x6) x5 s0) x4 x6
def wpX0_settle_44 (k11 : (Nat → Int32) → Int32 → Int32 → Int32 → Prop) (post : Int32 → ((Nat → Int32)) → Prop) (g0_rows : Int32) (g0_columns : Int32) (f2 : Nat → Int32) : Nat → (Nat → Int32) → Int32 → Int32 → Int32 → Int32 → Int32 → Prop
  | 0, _, _, _, _, _, _ => False
  | n_44 + 1, f1, x2, x3, x4, x5, x6 =>
    (x6 < 0 →
     ∀ v1 : Int32, v1 = x4 + (-1) →
     k11 f1 x2 x3 v1) ∧
    (¬ x6 < 0 →
     ((x6 + x3) < g0_columns →
      wpX0_settle_76 (fun y0 y1 y2 y3 y4 y5 => wpX0_settle_44 k11 post g0_rows g0_columns f2 n_44 y0 y1 y2 y3 y4 y5) k11 post g0_rows g0_columns f2 f1 x2 x3 x4 x5 x6 (x6 + x3)) ∧
     (¬ (x6 + x3) < g0_columns →
      wpX0_settle_76 (fun y0 y1 y2 y3 y4 y5 => wpX0_settle_44 k11 post g0_rows g0_columns f2 n_44 y0 y1 y2 y3 y4 y5) k11 post g0_rows g0_columns f2 f1 x2 x3 x4 x5 x6 ((x6 + x3) - g0_columns)))
def wpX0_settle_37 (k11 : (Nat → Int32) → Int32 → Int32 → Int32 → Prop) (post : Int32 → ((Nat → Int32)) → Prop) (g0_rows : Int32) (g0_columns : Int32) (f2 : Nat → Int32) (f1 : Nat → Int32) (x2 : Int32) (x3 : Int32) (x4 : Int32) (s0 : Int32) : Prop :=
  ∀ v1 : Int32, v1 = x2 - 1 →
  ∃ n_44 : Nat, wpX0_settle_44 k11 post g0_rows g0_columns f2 n_44 f1 x2 x3 x4 s0 v1
def wpX0_settle_11 (post : Int32 → ((Nat → Int32)) → Prop) (g0_rows : Int32) (g0_columns : Int32) (f2 : Nat → Int32) : Nat → (Nat → Int32) → Int32 → Int32 → Int32 → Prop
  | 0, _, _, _, _ => False
  | n_11 + 1, f1, x2, x3, x4 =>
    (x4 < 0 →
     wpX0_cell (fun (r2 : Int32) (u1 : Unit) =>
      vp_in r2 1089 ∧
      post (f1 r2.toNatClampNeg) (f1)) 0 0) ∧
    (¬ x4 < 0 →
     (x4 < g0_rows →
      wpX0_settle_37 (fun y0 y1 y2 y3 => wpX0_settle_11 post g0_rows g0_columns f2 n_11 y0 y1 y2 y3) post g0_rows g0_columns f2 f1 x2 x3 x4 x4) ∧
     (¬ x4 < g0_rows →
      wpX0_settle_37 (fun y0 y1 y2 y3 => wpX0_settle_11 post g0_rows g0_columns f2 n_11 y0 y1 y2 y3) post g0_rows g0_columns f2 f1 x2 x3 x4 (x4 - g0_rows)))
def wpX0_settle (post : Int32 → ((Nat → Int32)) → Prop) (g0_rows : Int32) (g0_columns : Int32) (f2 : Nat → Int32) (f1 : Nat → Int32) (p0 : Int32) (p1 : Int32) (p2 : Int32) : Prop :=
  wpX0_fence (fun (u1 : (Nat → Int32)) =>
   ∀ v2 : Int32, v2 = p0 - 1 →
   ∃ n_11 : Nat, wpX0_settle_11 post g0_rows g0_columns f2 n_11 u1 p1 p2 v2) f1 p0 p1
def wpX0_isEnd (post : Int32 → Unit → Prop) (g0_rows : Int32) (g0_columns : Int32) (p0 : Int32) (p1 : Int32) : Prop :=
  (p0 < (g0_rows - 1) →
   post 0 ()) ∧
  (¬ p0 < (g0_rows - 1) →
   (p1 < (g0_columns - 1) →
    post 0 ()) ∧
   (¬ p1 < (g0_columns - 1) →
    post 1 ()))
def wpX0_firstStep_2 (post : Int32 → Unit → Prop) (f1 : Nat → Int32) : Nat → Int32 → Int32 → Int32 → Prop
  | 0, _, _, _ => False
  | n_2 + 1, x1, x2, x3 =>
    (3 ≤ x3 →
     post 3 ()) ∧
    (¬ 3 ≤ x3 →
     wpX10_manMoves (fun (r2 : Int32) (u1 : Unit) =>
      wpX10_dogMoves (fun (r4 : Int32) (u3 : Unit) =>
       wpX0_cell (fun (r6 : Int32) (u5 : Unit) =>
        vp_in r6 1089 ∧
        wpX0_cell (fun (r8 : Int32) (u7 : Unit) =>
         vp_in r8 1089 ∧
         ((f1 r8.toNatClampNeg) < (f1 r6.toNatClampNeg) →
          ∀ v9 : Int32, v9 = x3 + 1 →
          wpX0_firstStep_2 post f1 n_2 x1 x2 v9) ∧
         (¬ (f1 r8.toNatClampNeg) < (f1 r6.toNatClampNeg) →
          post x3 ())) 0 0) (x1 + r2) (x2 + r4)) x3) x3)
def wpX0_firstStep (post : Int32 → Unit → Prop) (f1 : Nat → Int32) (p0 : Int32) (p1 : Int32) : Prop :=
  ∃ n_2 : Nat, wpX0_firstStep_2 post f1 n_2 p0 p1 1
def wpX0_firstWalk_62 (post : Int32 → Unit → Prop) (g0_rows : Int32) (g0_columns : Int32) (f1 : Nat → Int32) (x1 : Int32) (x4 : Int32) : Prop :=
  (¬ x1 = (-1) →
   post (-1) ()) ∧
  (x1 = (-1) →
   post x4 ())
def wpX0_firstWalk_7 (post : Int32 → Unit → Prop) (g0_rows : Int32) (g0_columns : Int32) (f1 : Nat → Int32) : Nat → Int32 → Int32 → Int32 → Int32 → Prop
  | 0, _, _, _, _ => False
  | n_7 + 1, x1, x2, x3, x4 =>
    (58 ≤ x4 →
     wpX0_firstWalk_62 post g0_rows g0_columns f1 x1 x4) ∧
    (¬ 58 ≤ x4 →
     wpX0_isEnd (fun (r2 : Int32) (u1 : Unit) =>
      (¬ r2 = 0 →
       wpX0_firstWalk_62 post g0_rows g0_columns f1 x1 x4) ∧
      (r2 = 0 →
       wpX0_firstStep (fun (r4 : Int32) (u3 : Unit) =>
        (¬ x4 = x1 →
         wpX10_manMoves (fun (r6 : Int32) (u5 : Unit) =>
          ∀ v7 : Int32, v7 = x2 + r6 →
          wpX10_dogMoves (fun (r9 : Int32) (u8 : Unit) =>
           ∀ v10 : Int32, v10 = x3 + r9 →
           ∀ v11 : Int32, v11 = x4 + 1 →
           wpX0_firstWalk_7 post g0_rows g0_columns f1 n_7 x1 v7 v10 v11) r4) r4) ∧
        (x4 = x1 →
         post r4 ())) f1 x2 x3)) g0_rows g0_columns x2 x3)
def wpX0_firstWalk (post : Int32 → Unit → Prop) (g0_rows : Int32) (g0_columns : Int32) (f1 : Nat → Int32) (p0 : Int32) : Prop :=
  ∃ n_7 : Nat, wpX0_firstWalk_7 post g0_rows g0_columns f1 n_7 p0 0 0 0
def wpX0_farthestOfFirstWalk_77 (post : Int32 → Unit → Prop) (g0_rows : Int32) (g0_columns : Int32) (f1 : Nat → Int32) (f2 : Nat → Int32) (x1 : Int32) (x2 : Int32) : Prop :=
  post ((100 * x1) + x2) ()
def wpX0_farthestOfFirstWalk_6 (post : Int32 → Unit → Prop) (g0_rows : Int32) (g0_columns : Int32) (f1 : Nat → Int32) (f2 : Nat → Int32) : Nat → Int32 → Int32 → Int32 → Prop
  | 0, _, _, _ => False
  | n_6 + 1, x1, x2, x3 =>
    (58 ≤ x3 →
     wpX0_farthestOfFirstWalk_77 post g0_rows g0_columns f1 f2 x1 x2) ∧
    (¬ 58 ≤ x3 →
     wpX0_isEnd (fun (r2 : Int32) (u1 : Unit) =>
      (¬ r2 = 0 →
       wpX0_farthestOfFirstWalk_77 post g0_rows g0_columns f1 f2 x1 x2) ∧
      (r2 = 0 →
       wpX0_cell (fun (r4 : Int32) (u3 : Unit) =>
        vp_in r4 1089 ∧
        wpX0_cell (fun (r6 : Int32) (u5 : Unit) =>
         vp_in r6 1089 ∧
         (¬ (f1 r4.toNatClampNeg) = (f2 r6.toNatClampNeg) →
          wpX0_firstStep (fun (r8 : Int32) (u7 : Unit) =>
           wpX10_manMoves (fun (r10 : Int32) (u9 : Unit) =>
            ∀ v11 : Int32, v11 = x1 + r10 →
            wpX10_dogMoves (fun (r13 : Int32) (u12 : Unit) =>
             ∀ v14 : Int32, v14 = x2 + r13 →
             ∀ v15 : Int32, v15 = x3 + 1 →
             wpX0_farthestOfFirstWalk_6 post g0_rows g0_columns f1 f2 n_6 v11 v14 v15) r8) r8) f2 x1 x2) ∧
         ((f1 r4.toNatClampNeg) = (f2 r6.toNatClampNeg) →
          wpX0_farthestOfFirstWalk_77 post g0_rows g0_columns f1 f2 x1 x2)) 0 0) x1 x2)) g0_rows g0_columns x1 x2)
def wpX0_farthestOfFirstWalk (post : Int32 → Unit → Prop) (g0_rows : Int32) (g0_columns : Int32) (f1 : Nat → Int32) (f2 : Nat → Int32) : Prop :=
  ∃ n_6 : Nat, wpX0_farthestOfFirstWalk_6 post g0_rows g0_columns f1 f2 n_6 0 0 0
def wpX0_leastSum_84 (k30 : (Nat → Int32) → Int32 → Int32 → Prop) (k19 : (Nat → Int32) → Int32 → Prop) (post : Int32 → ((Nat → Int32)) → Prop) (g0_rows : Int32) (g0_columns : Int32) (f2 : Nat → Int32) (f1 : Nat → Int32) (x1 : Int32) (x2 : Int32) (s1 : Int32) (s2 : Int32) : Prop :=
  vp_in s1 1089 ∧
  ∀ v1 : Int32, v1 = x2 + (-1) →
  k30 (upd f1 s1.toNatClampNeg s2) x1 v1
def wpX0_leastSum_75 (k30 : (Nat → Int32) → Int32 → Int32 → Prop) (k19 : (Nat → Int32) → Int32 → Prop) (post : Int32 → ((Nat → Int32)) → Prop) (g0_rows : Int32) (g0_columns : Int32) (f2 : Nat → Int32) (f1 : Nat → Int32) (x1 : Int32) (x2 : Int32) (s1 : Int32) : Prop :=
  wpX0_leastSum_84 k30 k19 post g0_rows g0_columns f2 f1 x1 x2 s1 2147483647
def wpX0_leastSum_30 (k19 : (Nat → Int32) → Int32 → Prop) (post : Int32 → ((Nat → Int32)) → Prop) (g0_rows : Int32) (g0_columns : Int32) (f2 : Nat → Int32) : Nat → (Nat → Int32) → Int32 → Int32 → Prop
  | 0, _, _, _ => False
  | n_30 + 1, f1, x1, x2 =>
    (x2 < 0 →
     ∀ v1 : Int32, v1 = x1 + (-1) →
     k19 f1 v1) ∧
    (¬ x2 < 0 →
     wpX0_bestAhead (fun (r3 : Int32) (u2 : Unit) =>
      wpX0_cell (fun (r5 : Int32) (u4 : Unit) =>
       vp_in r5 1089 ∧
       ∀ v6 : Int32, v6 = f2 r5.toNatClampNeg →
       wpX0_cell (fun (r8 : Int32) (u7 : Unit) =>
        (r3 = 2147483647 →
         wpX0_leastSum_75 (fun y0 y1 y2 => wpX0_leastSum_30 k19 post g0_rows g0_columns f2 n_30 y0 y1 y2) k19 post g0_rows g0_columns f2 f1 x1 x2 r8) ∧
        (¬ r3 = 2147483647 →
         (¬ v6 = 2147483647 →
          wpX0_leastSum_84 (fun y0 y1 y2 => wpX0_leastSum_30 k19 post g0_rows g0_columns f2 n_30 y0 y1 y2) k19 post g0_rows g0_columns f2 f1 x1 x2 r8 (r3 + v6)) ∧
         (v6 = 2147483647 →
          wpX0_leastSum_75 (fun y0 y1 y2 => wpX0_leastSum_30 k19 post g0_rows g0_columns f2 n_30 y0 y1 y2) k19 post g0_rows g0_columns f2 f1 x1 x2 r8))) x1 x2) x1 x2) f1 x1 x2)
def wpX0_leastSum_19 (post : Int32 → ((Nat → Int32)) → Prop) (g0_rows : Int32) (g0_columns : Int32) (f2 : Nat → Int32) : Nat → (Nat → Int32) → Int32 → Prop
  | 0, _, _ => False
  | n_19 + 1, f1, x1 =>
    (x1 < 0 →
     wpX0_cell (fun (r2 : Int32) (u1 : Unit) =>
      vp_in r2 1089 ∧
      post (f1 r2.toNatClampNeg) (f1)) 0 0) ∧
    (¬ x1 < 0 →
     ∀ v3 : Int32, v3 = g0_columns - 1 →
     ∃ n_30 : Nat, wpX0_leastSum_30 (fun y0 y1 => wpX0_leastSum_19 post g0_rows g0_columns f2 n_19 y0 y1) post g0_rows g0_columns f2 n_30 f1 x1 v3)
def wpX0_leastSum (post : Int32 → ((Nat → Int32)) → Prop) (g0_rows : Int32) (g0_columns : Int32) (f2 : Nat → Int32) (f1 : Nat → Int32) : Prop :=
  wpX0_fence (fun (u1 : (Nat → Int32)) =>
   ∀ v2 : Int32, v2 = g0_rows - 1 →
   ∃ n_19 : Nat, wpX0_leastSum_19 post g0_rows g0_columns f2 n_19 u1 v2) f1 g0_rows g0_columns
def wpX0_improve (post : Int32 → ((Nat → Int32)) → Prop) (f2 : Nat → Int32) (f1 : Nat → Int32) (p0 : Int32) : Prop :=
  vp_in (p0 - 33) 1089 ∧
  vp_in ((p0 - 33) - 1) 1089 ∧
  vp_in ((p0 - 33) + 1) 1089 ∧
  ∀ v1 : Int32, v1 = iMin (f1 (p0 - 33).toNatClampNeg) (iMin (f1 ((p0 - 33) - 1).toNatClampNeg) (f1 ((p0 - 33) + 1).toNatClampNeg)) →
  vp_in (p0 + 33) 1089 ∧
  vp_in ((p0 + 33) - 1) 1089 ∧
  vp_in ((p0 + 33) + 1) 1089 ∧
  ∀ v2 : Int32, v2 = iMin (f1 (p0 + 33).toNatClampNeg) (iMin (f1 ((p0 + 33) - 1).toNatClampNeg) (f1 ((p0 + 33) + 1).toNatClampNeg)) →
  vp_in (p0 - 1) 1089 ∧
  vp_in (p0 + 1) 1089 ∧
  ∀ v3 : Int32, v3 = iMin (f1 (p0 - 1).toNatClampNeg) (f1 (p0 + 1).toNatClampNeg) →
  vp_in p0 1089 ∧
  ∀ v4 : Int32, v4 = iMax (f2 p0.toNatClampNeg) (iMin v3 (iMin v1 v2)) →
  vp_in p0 1089 ∧
  (v4 < (f1 p0.toNatClampNeg) →
   vp_in p0 1089 ∧
   post 1 ((upd f1 p0.toNatClampNeg v4))) ∧
  (¬ v4 < (f1 p0.toNatClampNeg) →
   post 0 (f1))
def wpX0_leastGoingBack_168 (post : Int32 → ((Nat → Int32)) → Prop) (g0_rows : Int32) (g0_columns : Int32) (f2 : Nat → Int32) (f1 : Nat → Int32) : Prop :=
  wpX0_cell (fun (r2 : Int32) (u1 : Unit) =>
   vp_in r2 1089 ∧
   post (f1 r2.toNatClampNeg) (f1)) 0 0
def wpX0_leastGoingBack_128 (k117 : (Nat → Int32) → Int32 → Int32 → Int32 → Prop) (k53 : (Nat → Int32) → Int32 → Int32 → Prop) (post : Int32 → ((Nat → Int32)) → Prop) (g0_rows : Int32) (g0_columns : Int32) (f2 : Nat → Int32) : Nat → (Nat → Int32) → Int32 → Int32 → Int32 → Int32 → Prop
  | 0, _, _, _, _, _ => False
  | n_128 + 1, f1, x1, x2, x3, x4 =>
    (g0_columns ≤ x4 →
     ∀ v1 : Int32, v1 = x3 + 1 →
     k117 f1 x1 x2 v1) ∧
    (¬ g0_columns ≤ x4 →
     wpX0_cell (fun (r3 : Int32) (u2 : Unit) =>
      wpX0_improve (fun (r5 : Int32) (u4 : (Nat → Int32)) =>
       ∀ v6 : Int32, v6 = x1 ||| r5 →
       ∀ v7 : Int32, v7 = x4 + 1 →
       wpX0_leastGoingBack_128 k117 k53 post g0_rows g0_columns f2 n_128 u4 v6 x2 x3 v7) f2 f1 r3) x3 x4)
def wpX0_leastGoingBack_117 (k53 : (Nat → Int32) → Int32 → Int32 → Prop) (post : Int32 → ((Nat → Int32)) → Prop) (g0_rows : Int32) (g0_columns : Int32) (f2 : Nat → Int32) : Nat → (Nat → Int32) → Int32 → Int32 → Int32 → Prop
  | 0, _, _, _, _ => False
  | n_117 + 1, f1, x1, x2, x3 =>
    (g0_rows ≤ x3 →
     ∀ v1 : Int32, v1 = x2 + 1 →
     k53 f1 x1 v1) ∧
    (¬ g0_rows ≤ x3 →
     ∃ n_128 : Nat, wpX0_leastGoingBack_128 (fun y0 y1 y2 y3 => wpX0_leastGoingBack_117 k53 post g0_rows g0_columns f2 n_117 y0 y1 y2 y3) k53 post g0_rows g0_columns f2 n_128 f1 x1 x2 x3 0)
