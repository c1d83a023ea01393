def wpX10_live_26 (post : Int32 → (Int32 × Int32 × Int32 × Int32 × Int32 × Int32 × (Nat → Int32) × (Nat → Int32) × (Nat → Int32)) → Prop) (postX : String → (Int32 × Int32 × Int32 × Int32 × Int32 × Int32 × (Nat → Int32) × (Nat → Int32) × (Nat → Int32)) → Prop) (g2_underWay : Int32) (g2_way : Int32) (g2_other : Int32) (g2_lead : Int32) (g5_ways : Int32) (g5_wallCount : Int32) (f6 : Nat → Int32) (f7 : Nat → Int32) (f8 : Nat → Int32) (f9 : Nat → Int32) (g10_size : Int32) (f12 : Nat → Int32) : Nat → Int32 → Int32 → Int32 → Int32 → Int32 → Int32 → (Nat → Int32) → (Nat → Int32) → (Nat → Int32) → Int32 → Int32 → Int32 → Prop
  | 0, _, _, _, _, _, _, _, _, _, _, _, _ => False
  | n_26 + 1, g1_drawSeed, g2_man, g2_dog, g2_gone, g2_greatest, g2_remembered, f3, f4, f11, x1, x2, x3 =>
    (x1 ≤ x3 →
     post x2 (g1_drawSeed, g2_man, g2_dog, g2_gone, g2_greatest, g2_remembered, f3, f4, f11)) ∧
    (¬ x1 ≤ x3 →
     wpX6_drawStep (fun (r2 : Int32) (u1 : Int32 × (Nat → Int32)) =>
      (¬ r2 = (-1) →
       wpX6_go (fun (r4 : Int32) (u3 : Int32 × Int32 × Int32 × Int32 × Int32 × (Nat → Int32) × (Nat → Int32)) =>
        ∀ v5 : Int32, v5 = x2 + 1 →
        ∀ v6 : Int32, v6 = x3 + 1 →
        wpX10_live_26 post postX g2_underWay g2_way g2_other g2_lead g5_ways g5_wallCount f6 f7 f8 f9 g10_size f12 n_26 u1.1 u3.1 u3.2.1 u3.2.2.1 u3.2.2.2.1 u3.2.2.2.2.1 u3.2.2.2.2.2.1 u3.2.2.2.2.2.2 u1.2 x1 v5 v6) g2_way g2_other f7 f8 g2_man g2_dog g2_gone g2_greatest g2_remembered f3 f4 r2) ∧
      (r2 = (-1) →
       post x2 (u1.1, g2_man, g2_dog, g2_gone, g2_greatest, g2_remembered, f3, f4, u1.2))) g2_underWay g2_way g2_other g2_lead g2_man g2_dog g5_ways g5_wallCount f6 f7 f8 f9 g10_size f12 g1_drawSeed f11)
def wpX10_live (post : Int32 → (Int32 × Int32 × Int32 × Int32 × Int32 × Int32 × (Nat → Int32) × (Nat → Int32) × (Nat → Int32)) → Prop) (postX : String → (Int32 × Int32 × Int32 × Int32 × Int32 × Int32 × (Nat → Int32) × (Nat → Int32) × (Nat → Int32)) → Prop) (g2_underWay : Int32) (g2_way : Int32) (g2_other : Int32) (g2_lead : Int32) (g5_ways : Int32) (g5_wallCount : Int32) (f6 : Nat → Int32) (f7 : Nat → Int32) (f8 : Nat → Int32) (f9 : Nat → Int32) (g10_size : Int32) (f12 : Nat → Int32) (g1_drawSeed : Int32) (g2_man : Int32) (g2_dog : Int32) (g2_gone : Int32) (g2_greatest : Int32) (g2_remembered : Int32) (f3 : Nat → Int32) (f4 : Nat → Int32) (f11 : Nat → Int32) (p0 : Int32) : Prop :=
  (p0 < 1 →
   wpX10_live_11 post postX g2_underWay g2_way g2_other g2_lead g5_ways g5_wallCount f6 f7 f8 f9 g10_size f12 g1_drawSeed g2_man g2_dog g2_gone g2_greatest g2_remembered f3 f4 f11) ∧
  (¬ p0 < 1 →
   (p0 ≤ 60 →
    ∃ n_26 : Nat, wpX10_live_26 post postX g2_underWay g2_way g2_other g2_lead g5_ways g5_wallCount f6 f7 f8 f9 g10_size f12 n_26 g1_drawSeed g2_man g2_dog g2_gone g2_greatest g2_remembered f3 f4 f11 p0 0 0) ∧
   (¬ p0 ≤ 60 →
    wpX10_live_11 post postX g2_underWay g2_way g2_other g2_lead g5_ways g5_wallCount f6 f7 f8 f9 g10_size f12 g1_drawSeed g2_man g2_dog g2_gone g2_greatest g2_remembered f3 f4 f11))
def wpX10_toldOfStroll (post : Int32 → Unit → Prop) (g2_way : Int32) (g2_other : Int32) (g2_lead : Int32) (g2_man : Int32) (g2_dog : Int32) (g2_gone : Int32) (g2_greatest : Int32) (g2_remembered : Int32) (g3_ways : Int32) (f4 : Nat → Int32) (p0 : Int32) : Prop :=
  (p0 = 0 →
   post g2_man ()) ∧
  (p0 = 1 →
   post g2_dog ()) ∧
  (p0 = 2 →
   post g2_gone ()) ∧
  (p0 = 3 →
   post g2_greatest ()) ∧
  (p0 = 4 →
   wpX6_isStrollOver (fun (r2 : Int32) (u1 : Unit) =>
    (r2 = 0 →
     post 0 ()) ∧
    (¬ r2 = 0 →
     post 1 ())) g2_way g2_other g2_man g2_dog g3_ways f4) ∧
  (p0 = 5 →
   post g2_remembered ()) ∧
  (¬ (p0 = 0 ∨ p0 = 1 ∨ p0 = 2 ∨ p0 = 3 ∨ p0 = 4 ∨ p0 = 5) →
   post g2_lead ())
def wpX10_on_10 (post : Int32 → Unit → Prop) (postX : String → Unit → Prop) (g2_underWay : Int32) (g2_way : Int32) (g2_other : Int32) (g2_lead : Int32) (g2_man : Int32) (g2_dog : Int32) (g2_gone : Int32) (g2_greatest : Int32) (g2_remembered : Int32) (g3_ways : Int32) (f4 : Nat → Int32) : Prop :=
  postX "java/util/NoSuchElementException" ()
def wpX10_on (post : Int32 → Unit → Prop) (postX : String → Unit → Prop) (g2_underWay : Int32) (g2_way : Int32) (g2_other : Int32) (g2_lead : Int32) (g2_man : Int32) (g2_dog : Int32) (g2_gone : Int32) (g2_greatest : Int32) (g2_remembered : Int32) (g3_ways : Int32) (f4 : Nat → Int32) (p0 : Int32) : Prop :=
  (p0 < 0 →
   wpX10_on_10 post postX g2_underWay g2_way g2_other g2_lead g2_man g2_dog g2_gone g2_greatest g2_remembered g3_ways f4 ) ∧
  (¬ p0 < 0 →
   (p0 ≤ 6 →
    (g2_underWay = 0 →
     post (-1) ()) ∧
    (¬ g2_underWay = 0 →
     wpX10_toldOfStroll (fun (r2 : Int32) (u1 : Unit) =>
      post r2 ()) g2_way g2_other g2_lead g2_man g2_dog g2_gone g2_greatest g2_remembered g3_ways f4 p0)) ∧
   (¬ p0 ≤ 6 →
    wpX10_on_10 post postX g2_underWay g2_way g2_other g2_lead g2_man g2_dog g2_gone g2_greatest g2_remembered g3_ways f4 ))
def wpX10_seed (post : Int32 → Int32 → Prop) (g1_drawSeed : Int32) (p0 : Int32) : Prop :=
  post g1_drawSeed (p0)
def wpX10_image (post : (Int32 × Int32 × Int32 × Int32 × Int32 × (Nat → Int32) × (Nat → Int32) × (Nat → Int32) × (Nat → Int32) × Int32 × Int32 × (Nat → Int32) × Int32 × (Nat → Int32) × (Nat → Int32) × (Nat → Int32) × (Nat → Int32) × Int32 × Int32 × Int32 × Int32 × Int32 × Int32 × Int32 × Int32 × Int32) → Prop) (g15_drawSeed : Int32) (g16_ways : Int32) (g16_wallCount : Int32) (g16_texts : Int32) (f17 : Nat → Int32) (f18 : Nat → Int32) (f19 : Nat → Int32) (f20 : Nat → Int32) (g21_size : Int32) (g21_lines : Int32) (f22 : Nat → Int32) (g23_size : Int32) (f24 : Nat → Int32) (f25 : Nat → Int32) (f26 : Nat → Int32) (f27 : Nat → Int32) (g28_underWay : Int32) (g28_way : Int32) (g28_other : Int32) (g28_lead : Int32) (g28_man : Int32) (g28_dog : Int32) (g28_gone : Int32) (g28_greatest : Int32) (g0_imageKept : Int32) (g1_drawSeed : Int32) (g2_ways : Int32) (g2_wallCount : Int32) (g2_texts : Int32) (f3 : Nat → Int32) (f4 : Nat → Int32) (f5 : Nat → Int32) (f6 : Nat → Int32) (g7_size : Int32) (g7_lines : Int32) (f8 : Nat → Int32) (g9_size : Int32) (f10 : Nat → Int32) (f11 : Nat → Int32) (f12 : Nat → Int32) (f13 : Nat → Int32) (g14_underWay : Int32) (g14_way : Int32) (g14_other : Int32) (g14_lead : Int32) (g14_man : Int32) (g14_dog : Int32) (g14_gone : Int32) (g14_greatest : Int32) (g14_remembered : Int32) : Prop :=
  wpX6_copyFrom (fun (u1 : Int32 × Int32 × Int32 × Int32 × (Nat → Int32) × (Nat → Int32) × (Nat → Int32) × (Nat → Int32) × Int32 × Int32 × (Nat → Int32) × Int32 × (Nat → Int32) × (Nat → Int32) × (Nat → Int32) × (Nat → Int32) × Int32 × Int32 × Int32 × Int32 × Int32 × Int32 × Int32 × Int32 × Int32) =>
   post (1, u1.1, u1.2.1, u1.2.2.1, u1.2.2.2.1, u1.2.2.2.2.1, u1.2.2.2.2.2.1, u1.2.2.2.2.2.2.1, u1.2.2.2.2.2.2.2.1, u1.2.2.2.2.2.2.2.2.1, u1.2.2.2.2.2.2.2.2.2.1, u1.2.2.2.2.2.2.2.2.2.2.1, u1.2.2.2.2.2.2.2.2.2.2.2.1, u1.2.2.2.2.2.2.2.2.2.2.2.2.1, u1.2.2.2.2.2.2.2.2.2.2.2.2.2.1, u1.2.2.2.2.2.2.2.2.2.2.2.2.2.2.1, u1.2.2.2.2.2.2.2.2.2.2.2.2.2.2.2.1, u1.2.2.2.2.2.2.2.2.2.2.2.2.2.2.2.2.1, u1.2.2.2.2.2.2.2.2.2.2.2.2.2.2.2.2.2.1, u1.2.2.2.2.2.2.2.2.2.2.2.2.2.2.2.2.2.2.1, u1.2.2.2.2.2.2.2.2.2.2.2.2.2.2.2.2.2.2.2.1, u1.2.2.2.2.2.2.2.2.2.2.2.2.2.2.2.2.2.2.2.2.1, u1.2.2.2.2.2.2.2.2.2.2.2.2.2.2.2.2.2.2.2.2.2.1, u1.2.2.2.2.2.2.2.2.2.2.2.2.2.2.2.2.2.2.2.2.2.2.1, u1.2.2.2.2.2.2.2.2.2.2.2.2.2.2.2.2.2.2.2.2.2.2.2.1, u1.2.2.2.2.2.2.2.2.2.2.2.2.2.2.2.2.2.2.2.2.2.2.2.2)) g15_drawSeed g16_ways g16_wallCount g16_texts f17 f18 f19 f20 g21_size g21_lines f22 g23_size f24 f25 f26 f27 g28_underWay g28_way g28_other g28_lead g28_man g28_dog g28_gone g28_greatest g1_drawSeed g2_ways g2_wallCount g2_texts f3 f4 f5 f6 g7_size g7_lines f8 g9_size f10 f11 f12 f13 g14_underWay g14_way g14_other g14_lead g14_man g14_dog g14_gone g14_greatest g14_remembered
def wpX10_again (post : Int32 → (Int32 × Int32 × Int32 × Int32 × (Nat → Int32) × (Nat → Int32) × (Nat → Int32) × (Nat → Int32) × Int32 × Int32 × (Nat → Int32) × Int32 × (Nat → Int32) × (Nat → Int32) × (Nat → Int32) × (Nat → Int32) × Int32 × Int32 × Int32 × Int32 × Int32 × Int32 × Int32 × Int32 × Int32) → Prop) (g0_imageKept : Int32) (g15_drawSeed : Int32) (g16_ways : Int32) (g16_wallCount : Int32) (g16_texts : Int32) (f17 : Nat → Int32) (f18 : Nat → Int32) (f19 : Nat → Int32) (f20 : Nat → Int32) (g21_size : Int32) (g21_lines : Int32) (f22 : Nat → Int32) (g23_size : Int32) (f24 : Nat → Int32) (f25 : Nat → Int32) (f26 : Nat → Int32) (f27 : Nat → Int32) (g28_underWay : Int32) (g28_way : Int32) (g28_other : Int32) (g28_lead : Int32) (g28_man : Int32) (g28_dog : Int32) (g28_gone : Int32) (g28_greatest : Int32) (g1_drawSeed : Int32) (g2_ways : Int32) (g2_wallCount : Int32) (g2_texts : Int32) (f3 : Nat → Int32) (f4 : Nat → Int32) (f5 : Nat → Int32) (f6 : Nat → Int32) (g7_size : Int32) (g7_lines : Int32) (f8 : Nat → Int32) (g9_size : Int32) (f10 : Nat → Int32) (f11 : Nat → Int32) (f12 : Nat → Int32) (f13 : Nat → Int32) (g14_underWay : Int32) (g14_way : Int32) (g14_other : Int32) (g14_lead : Int32) (g14_man : Int32) (g14_dog : Int32) (g14_gone : Int32) (g14_greatest : Int32) (g14_remembered : Int32) : Prop :=
  (¬ g0_imageKept = 0 →
   wpX6_copyFrom (fun (u1 : Int32 × Int32 × Int32 × Int32 × (Nat → Int32) × (Nat → Int32) × (Nat → Int32) × (Nat → Int32) × Int32 × Int32 × (Nat → Int32) × Int32 × (Nat → Int32) × (Nat → Int32) × (Nat → Int32) × (Nat → Int32) × Int32 × Int32 × Int32 × Int32 × Int32 × Int32 × Int32 × Int32 × Int32) =>
    post 1 (u1.1, u1.2.1, u1.2.2.1, u1.2.2.2.1, u1.2.2.2.2.1, u1.2.2.2.2.2.1, u1.2.2.2.2.2.2.1, u1.2.2.2.2.2.2.2.1, u1.2.2.2.2.2.2.2.2.1, u1.2.2.2.2.2.2.2.2.2.1, u1.2.2.2.2.2.2.2.2.2.2.1, u1.2.2.2.2.2.2.2.2.2.2.2.1, u1.2.2.2.2.2.2.2.2.2.2.2.2.1, u1.2.2.2.2.2.2.2.2.2.2.2.2.2.1, u1.2.2.2.2.2.2.2.2.2.2.2.2.2.2.1, u1.2.2.2.2.2.2.2.2.2.2.2.2.2.2.2.1, u1.2.2.2.2.2.2.2.2.2.2.2.2.2.2.2.2.1, u1.2.2.2.2.2.2.2.2.2.2.2.2.2.2.2.2.2.1, u1.2.2.2.2.2.2.2.2.2.2.2.2.2.2.2.2.2.2.1, u1.2.2.2.2.2.2.2.2.2.2.2.2.2.2.2.2.2.2.2.1, u1.2.2.2.2.2.2.2.2.2.2.2.2.2.2.2.2.2.2.2.2.1, u1.2.2.2.2.2.2.2.2.2.2.2.2.2.2.2.2.2.2.2.2.2.1, u1.2.2.2.2.2.2.2.2.2.2.2.2.2.2.2.2.2.2.2.2.2.2.1, u1.2.2.2.2.2.2.2.2.2.2.2.2.2.2.2.2.2.2.2.2.2.2.2.1, u1.2.2.2.2.2.2.2.2.2.2.2.2.2.2.2.2.2.2.2.2.2.2.2.2)) g15_drawSeed g16_ways g16_wallCount g16_texts f17 f18 f19 f20 g21_size g21_lines f22 g23_size f24 f25 f26 f27 g28_underWay g28_way g28_other g28_lead g28_man g28_dog g28_gone g28_greatest g1_drawSeed g2_ways g2_wallCount g2_texts f3 f4 f5 f6 g7_size g7_lines f8 g9_size f10 f11 f12 f13 g14_underWay g14_way g14_other g14_lead g14_man g14_dog g14_gone g14_greatest g14_remembered) ∧
  (g0_imageKept = 0 →
   post 0 (g1_drawSeed, g2_ways, g2_wallCount, g2_texts, f3, f4, f5, f6, g7_size, g7_lines, f8, g9_size, f10, f11, f12, f13, g14_underWay, g14_way, g14_other, g14_lead, g14_man, g14_dog, g14_gone, g14_greatest, g14_remembered))
def wpX10_count (post : Int32 → Unit → Prop) (g2_ways : Int32) (g2_wallCount : Int32) (g2_texts : Int32) (f3 : Nat → Int32) (g4_size : Int32) (g5_lines : Int32) (p0 : Int32) : Prop :=
  (p0 = 0 →
   post g2_ways ()) ∧
  (p0 = 1 →
   post g2_wallCount ()) ∧
  (p0 = 2 →
   post g2_texts ()) ∧
  (p0 = 3 →
   post g5_lines ()) ∧
  (p0 = 4 →
   post g4_size ()) ∧
  (p0 = 5 →
   wpX1_allCorners (fun (r2 : Int32) (u1 : Unit) =>
    post r2 ()) g2_ways f3) ∧
  (¬ (p0 = 0 ∨ p0 = 1 ∨ p0 = 2 ∨ p0 = 3 ∨ p0 = 4 ∨ p0 = 5) →
   post (-1) ())
def wpL_park (n15 : Nat) (post : Int32 → (Int32 × Int32 × Int32 × Int32 × (Nat → Int32) × (Nat → Int32) × (Nat → Int32) × (Nat → Int32) × Int32 × Int32 × Int32 × Int32 × (Nat → Int32) × (Nat → Int32) × (Nat → Int32) × (Nat → Int32) × Int32 × Int32 × Int32 × Int32 × Int32 × (Nat → Int64)) → Prop) (f14 : Nat → Int32) (g0_wrongByte : Int32) (g2_ways : Int32) (g2_wallCount : Int32) (g2_texts : Int32) (f3 : Nat → Int32) (f4 : Nat → Int32) (f5 : Nat → Int32) (f6 : Nat → Int32) (g7_underWay : Int32) (g8_ways : Int32) (g8_wallCount : Int32) (g8_texts : Int32) (f9 : Nat → Int32) (f10 : Nat → Int32) (f11 : Nat → Int32) (f12 : Nat → Int32) (g13_size : Int32) (g13_here : Int32) (g13_behind : Int32) (g13_digits : Int32) (g13_value : Int32) (f15 : Nat → Int64) : Prop :=
  wpX10_park (fun (r2 : Int32) (u1 : Int32 × Int32 × Int32 × Int32 × (Nat → Int32) × (Nat → Int32) × (Nat → Int32) × (Nat → Int32) × Int32 × Int32 × Int32 × Int32 × (Nat → Int32) × (Nat → Int32) × (Nat → Int32) × (Nat → Int32) × Int32 × Int32 × Int32 × Int32 × Int32) =>
   vp_in 0 n15 ∧
   post 0 (u1.1, u1.2.1, u1.2.2.1, u1.2.2.2.1, u1.2.2.2.2.1, u1.2.2.2.2.2.1, u1.2.2.2.2.2.2.1, u1.2.2.2.2.2.2.2.1, u1.2.2.2.2.2.2.2.2.1, u1.2.2.2.2.2.2.2.2.2.1, u1.2.2.2.2.2.2.2.2.2.2.1, u1.2.2.2.2.2.2.2.2.2.2.2.1, u1.2.2.2.2.2.2.2.2.2.2.2.2.1, u1.2.2.2.2.2.2.2.2.2.2.2.2.2.1, u1.2.2.2.2.2.2.2.2.2.2.2.2.2.2.1, u1.2.2.2.2.2.2.2.2.2.2.2.2.2.2.2.1, u1.2.2.2.2.2.2.2.2.2.2.2.2.2.2.2.2.1, u1.2.2.2.2.2.2.2.2.2.2.2.2.2.2.2.2.2.1, u1.2.2.2.2.2.2.2.2.2.2.2.2.2.2.2.2.2.2.1, u1.2.2.2.2.2.2.2.2.2.2.2.2.2.2.2.2.2.2.2.1, u1.2.2.2.2.2.2.2.2.2.2.2.2.2.2.2.2.2.2.2.2, (vp_updL f15 (0 : Int32).toNatClampNeg (r2.toInt64)))) (fun (E : String) (u1 : Int32 × Int32 × Int32 × Int32 × (Nat → Int32) × (Nat → Int32) × (Nat → Int32) × (Nat → Int32) × Int32 × Int32 × Int32 × Int32 × (Nat → Int32) × (Nat → Int32) × (Nat → Int32) × (Nat → Int32) × Int32 × Int32 × Int32 × Int32 × Int32) =>
   (E = "java/lang/IllegalArgumentException" →
    post 1 (u1.1, u1.2.1, u1.2.2.1, u1.2.2.2.1, u1.2.2.2.2.1, u1.2.2.2.2.2.1, u1.2.2.2.2.2.2.1, u1.2.2.2.2.2.2.2.1, u1.2.2.2.2.2.2.2.2.1, u1.2.2.2.2.2.2.2.2.2.1, u1.2.2.2.2.2.2.2.2.2.2.1, u1.2.2.2.2.2.2.2.2.2.2.2.1, u1.2.2.2.2.2.2.2.2.2.2.2.2.1, u1.2.2.2.2.2.2.2.2.2.2.2.2.2.1, u1.2.2.2.2.2.2.2.2.2.2.2.2.2.2.1, u1.2.2.2.2.2.2.2.2.2.2.2.2.2.2.2.1, u1.2.2.2.2.2.2.2.2.2.2.2.2.2.2.2.2.1, u1.2.2.2.2.2.2.2.2.2.2.2.2.2.2.2.2.2.1, u1.2.2.2.2.2.2.2.2.2.2.2.2.2.2.2.2.2.2.1, u1.2.2.2.2.2.2.2.2.2.2.2.2.2.2.2.2.2.2.2.1, u1.2.2.2.2.2.2.2.2.2.2.2.2.2.2.2.2.2.2.2.2, f15)) ∧ (E = "java/lang/UnsupportedOperationException" →
    post 2 (u1.1, u1.2.1, u1.2.2.1, u1.2.2.2.1, u1.2.2.2.2.1, u1.2.2.2.2.2.1, u1.2.2.2.2.2.2.1, u1.2.2.2.2.2.2.2.1, u1.2.2.2.2.2.2.2.2.1, u1.2.2.2.2.2.2.2.2.2.1, u1.2.2.2.2.2.2.2.2.2.2.1, u1.2.2.2.2.2.2.2.2.2.2.2.1, u1.2.2.2.2.2.2.2.2.2.2.2.2.1, u1.2.2.2.2.2.2.2.2.2.2.2.2.2.1, u1.2.2.2.2.2.2.2.2.2.2.2.2.2.2.1, u1.2.2.2.2.2.2.2.2.2.2.2.2.2.2.2.1, u1.2.2.2.2.2.2.2.2.2.2.2.2.2.2.2.2.1, u1.2.2.2.2.2.2.2.2.2.2.2.2.2.2.2.2.2.1, u1.2.2.2.2.2.2.2.2.2.2.2.2.2.2.2.2.2.2.1, u1.2.2.2.2.2.2.2.2.2.2.2.2.2.2.2.2.2.2.2.1, u1.2.2.2.2.2.2.2.2.2.2.2.2.2.2.2.2.2.2.2.2, f15)) ∧ (E = "java/lang/IllegalArgumentException" ∨ E = "java/lang/UnsupportedOperationException")) f14 g0_wrongByte g2_ways g2_wallCount g2_texts f3 f4 f5 f6 g7_underWay g8_ways g8_wallCount g8_texts f9 f10 f11 f12 g13_size g13_here g13_behind g13_digits g13_value
def wpL_law (n9 : Nat) (post : Int32 → (Int32 × Int32 × Int32 × (Nat → Int32) × Int32 × Int32 × Int32 × Int32 × Int32 × Int32 × Int32 × (Nat → Int32) × Int32 × (Nat → Int64)) → Prop) (f4 : Nat → Int32) (g0_wrongByte : Int32) (g1_size : Int32) (g1_lines : Int32) (f2 : Nat → Int32) (g3_size : Int32) (g3_here : Int32) (g3_behind : Int32) (g3_digits : Int32) (g3_value : Int32) (g6_size : Int32) (g6_lines : Int32) (f7 : Nat → Int32) (g8_underWay : Int32) (f9 : Nat → Int64) : Prop :=
  wpX10_law (fun (r2 : Int32) (u1 : Int32 × Int32 × Int32 × (Nat → Int32) × Int32 × Int32 × Int32 × Int32 × Int32 × Int32 × Int32 × (Nat → Int32) × Int32) =>
   vp_in 0 n9 ∧
   post 0 (u1.1, u1.2.1, u1.2.2.1, u1.2.2.2.1, u1.2.2.2.2.1, u1.2.2.2.2.2.1, u1.2.2.2.2.2.2.1, u1.2.2.2.2.2.2.2.1, u1.2.2.2.2.2.2.2.2.1, u1.2.2.2.2.2.2.2.2.2.1, u1.2.2.2.2.2.2.2.2.2.2.1, u1.2.2.2.2.2.2.2.2.2.2.2.1, u1.2.2.2.2.2.2.2.2.2.2.2.2, (vp_updL f9 (0 : Int32).toNatClampNeg (r2.toInt64)))) (fun (E : String) (u1 : Int32 × Int32 × Int32 × (Nat → Int32) × Int32 × Int32 × Int32 × Int32 × Int32 × Int32 × Int32 × (Nat → Int32) × Int32) =>
   (E = "java/lang/IllegalArgumentException" →
    post 1 (u1.1, u1.2.1, u1.2.2.1, u1.2.2.2.1, u1.2.2.2.2.1, u1.2.2.2.2.2.1, u1.2.2.2.2.2.2.1, u1.2.2.2.2.2.2.2.1, u1.2.2.2.2.2.2.2.2.1, u1.2.2.2.2.2.2.2.2.2.1, u1.2.2.2.2.2.2.2.2.2.2.1, u1.2.2.2.2.2.2.2.2.2.2.2.1, u1.2.2.2.2.2.2.2.2.2.2.2.2, f9)) ∧ (E = "java/lang/IllegalArgumentException")) f4 g0_wrongByte g1_size g1_lines f2 g3_size g3_here g3_behind g3_digits g3_value g6_size g6_lines f7 g8_underWay
def wpL_corner (n6 : Nat) (post : Int32 → ((Nat → Int64)) → Prop) (g2_ways : Int32) (f3 : Nat → Int32) (f4 : Nat → Int32) (f5 : Nat → Int32) (f6 : Nat → Int64) (p1 : Int32) (p2 : Int32) (p3 : Int32) : Prop :=
  wpX10_corner (fun (r2 : Int32) (u1 : Unit) =>
   vp_in 0 n6 ∧
   post 0 ((vp_updL f6 (0 : Int32).toNatClampNeg (r2.toInt64)))) (fun (E : String) (u1 : Unit) =>
   (E = "java/lang/IndexOutOfBoundsException" →
    post 1 (f6)) ∧ (E = "java/lang/IndexOutOfBoundsException")) g2_ways f3 f4 f5 p1 p2 p3
def wpL_corners (n4 : Nat) (post : Int32 → ((Nat → Int64)) → Prop) (g2_ways : Int32) (f3 : Nat → Int32) (f4 : Nat → Int64) (p1 : Int32) : Prop :=
  wpX10_corners (fun (r2 : Int32) (u1 : Unit) =>
   vp_in 0 n4 ∧
   post 0 ((vp_updL f4 (0 : Int32).toNatClampNeg (r2.toInt64)))) (fun (E : String) (u1 : Unit) =>
   (E = "java/lang/IndexOutOfBoundsException" →
    post 1 (f4)) ∧ (E = "java/lang/IndexOutOfBoundsException")) g2_ways f3 p1
def wpL_far (n6 : Nat) (post : Int32 → ((Nat → Int64)) → Prop) (g2_ways : Int32) (f3 : Nat → Int32) (f4 : Nat → Int32) (f5 : Nat → Int32) (f6 : Nat → Int64) (p1 : Int32) (p2 : Int32) (p3 : Int32) (p4 : Int32) : Prop :=
  wpX10_far (fun (r2 : Int32) (u1 : Unit) =>
   vp_in 0 n6 ∧
   post 0 ((vp_updL f6 (0 : Int32).toNatClampNeg (r2.toInt64)))) (fun (E : String) (u1 : Unit) =>
   (E = "java/lang/IndexOutOfBoundsException" →
    post 1 (f6)) ∧ (E = "java/lang/IndexOutOfBoundsException")) g2_ways f3 f4 f5 p1 p2 p3 p4
def wpL_shut (n10 : Nat) (post : Int32 → ((Nat → Int32) × (Nat → Int64)) → Prop) (g2_ways : Int32) (g2_wallCount : Int32) (f3 : Nat → Int32) (f4 : Nat → Int32) (f5 : Nat → Int32) (f6 : Nat → Int32) (g7_size : Int32) (f9 : Nat → Int32) (f8 : Nat → Int32) (f10 : Nat → Int64) (p1 : Int32) (p2 : Int32) (p3 : Int32) (p4 : Int32) : Prop :=
  wpX10_shut (fun (r2 : Int32) (u1 : (Nat → Int32)) =>
   (r2 = 0 →
    vp_in 0 n10 ∧
    post 0 (u1, (vp_updL f10 (0 : Int32).toNatClampNeg 0))) ∧
   (¬ r2 = 0 →
    vp_in 0 n10 ∧
    post 0 (u1, (vp_updL f10 (0 : Int32).toNatClampNeg 1)))) (fun (E : String) (u1 : (Nat → Int32)) =>
   (E = "java/lang/IndexOutOfBoundsException" →
    post 1 (u1, f10)) ∧ (E = "java/lang/IndexOutOfBoundsException")) g2_ways g2_wallCount f3 f4 f5 f6 g7_size f9 f8 p1 p2 p3 p4
def wpL_least (n13 : Nat) (post : Int32 → ((Nat → Int32) × Int32 × Int32 × (Nat → Int32) × (Nat → Int32) × (Nat → Int64)) → Prop) (g2_ways : Int32) (g2_wallCount : Int32) (f3 : Nat → Int32) (f4 : Nat → Int32) (f5 : Nat → Int32) (f6 : Nat → Int32) (g7_size : Int32) (f9 : Nat → Int32) (f8 : Nat → Int32) (g10_rows : Int32) (g10_columns : Int32) (f11 : Nat → Int32) (f12 : Nat → Int32) (f13 : Nat → Int64) (p1 : Int32) (p2 : Int32) : Prop :=
  wpX10_least (fun (r2 : Int32) (u1 : (Nat → Int32) × Int32 × Int32 × (Nat → Int32) × (Nat → Int32)) =>
   vp_in 0 n13 ∧
   post 0 (u1.1, u1.2.1, u1.2.2.1, u1.2.2.2.1, u1.2.2.2.2, (vp_updL f13 (0 : Int32).toNatClampNeg (r2.toInt64)))) (fun (E : String) (u1 : (Nat → Int32) × Int32 × Int32 × (Nat → Int32) × (Nat → Int32)) =>
   (E = "java/lang/IndexOutOfBoundsException" →
    post 1 (u1.1, u1.2.1, u1.2.2.1, u1.2.2.2.1, u1.2.2.2.2, f13)) ∧ (E = "java/lang/IndexOutOfBoundsException")) g2_ways g2_wallCount f3 f4 f5 f6 g7_size f9 f8 g10_rows g10_columns f11 f12 p1 p2
def wpL_first (n13 : Nat) (post : Int32 → ((Nat → Int32) × Int32 × Int32 × (Nat → Int32) × (Nat → Int32) × (Nat → Int64)) → Prop) (g2_ways : Int32) (g2_wallCount : Int32) (f3 : Nat → Int32) (f4 : Nat → Int32) (f5 : Nat → Int32) (f6 : Nat → Int32) (g7_size : Int32) (f9 : Nat → Int32) (f8 : Nat → Int32) (g10_rows : Int32) (g10_columns : Int32) (f11 : Nat → Int32) (f12 : Nat → Int32) (f13 : Nat → Int64) (p1 : Int32) (p2 : Int32) (p3 : Int32) : Prop :=
  wpX10_first (fun (r2 : Int32) (u1 : (Nat → Int32) × Int32 × Int32 × (Nat → Int32) × (Nat → Int32)) =>
   vp_in 0 n13 ∧
   post 0 (u1.1, u1.2.1, u1.2.2.1, u1.2.2.2.1, u1.2.2.2.2, (vp_updL f13 (0 : Int32).toNatClampNeg (r2.toInt64)))) (fun (E : String) (u1 : (Nat → Int32) × Int32 × Int32 × (Nat → Int32) × (Nat → Int32)) =>
   (E = "java/lang/IndexOutOfBoundsException" →
    post 1 (u1.1, u1.2.1, u1.2.2.1, u1.2.2.2.1, u1.2.2.2.2, f13)) ∧ (E = "java/lang/IllegalArgumentException" →
    post 2 (u1.1, u1.2.1, u1.2.2.1, u1.2.2.2.1, u1.2.2.2.2, f13)) ∧ (E = "java/lang/IndexOutOfBoundsException" ∨ E = "java/lang/IllegalArgumentException")) g2_ways g2_wallCount f3 f4 f5 f6 g7_size f9 f8 g10_rows g10_columns f11 f12 p1 p2 p3
def wpL_bars (n13 : Nat) (post : Int32 → ((Nat → Int32) × Int32 × Int32 × (Nat → Int32) × (Nat → Int32) × (Nat → Int64)) → Prop) (g2_ways : Int32) (g2_wallCount : Int32) (f3 : Nat → Int32) (f4 : Nat → Int32) (f5 : Nat → Int32) (f6 : Nat → Int32) (g7_size : Int32) (f9 : Nat → Int32) (f8 : Nat → Int32) (g10_rows : Int32) (g10_columns : Int32) (f11 : Nat → Int32) (f12 : Nat → Int32) (f13 : Nat → Int64) (p1 : Int32) (p2 : Int32) : Prop :=
  wpX10_bars (fun (r2 : Int32) (u1 : (Nat → Int32) × Int32 × Int32 × (Nat → Int32) × (Nat → Int32)) =>
   vp_in 0 n13 ∧
   post 0 (u1.1, u1.2.1, u1.2.2.1, u1.2.2.2.1, u1.2.2.2.2, (vp_updL f13 (0 : Int32).toNatClampNeg (r2.toInt64)))) (fun (E : String) (u1 : (Nat → Int32) × Int32 × Int32 × (Nat → Int32) × (Nat → Int32)) =>
   (E = "java/lang/IndexOutOfBoundsException" →
    post 1 (u1.1, u1.2.1, u1.2.2.1, u1.2.2.2.1, u1.2.2.2.2, f13)) ∧ (E = "java/lang/IndexOutOfBoundsException")) g2_ways g2_wallCount f3 f4 f5 f6 g7_size f9 f8 g10_rows g10_columns f11 f12 p1 p2
def wpL_judge (n12 : Nat) (post : Int32 → (Int32 × (Nat → Int32) × (Nat → Int64)) → Prop) (f2 : Nat → Int32) (g4_ways : Int32) (g4_wallCount : Int32) (f5 : Nat → Int32) (f6 : Nat → Int32) (f7 : Nat → Int32) (f8 : Nat → Int32) (g9_size : Int32) (f11 : Nat → Int32) (g1_size : Int32) (f10 : Nat → Int32) (f12 : Nat → Int64) (p1 : Int32) (p2 : Int32) (p3 : Int32) : Prop :=
  wpX10_judge (fun (r2 : Int32) (u1 : Int32 × (Nat → Int32)) =>
   vp_in 0 n12 ∧
   post 0 (u1.1, u1.2, (vp_updL f12 (0 : Int32).toNatClampNeg (r2.toInt64)))) (fun (E : String) (u1 : Int32 × (Nat → Int32)) =>
   (E = "java/lang/IndexOutOfBoundsException" →
    post 1 (u1.1, u1.2, f12)) ∧ (E = "java/lang/IllegalArgumentException" →
    post 2 (u1.1, u1.2, f12)) ∧ (E = "java/lang/IndexOutOfBoundsException" ∨ E = "java/lang/IllegalArgumentException")) f2 g4_ways g4_wallCount f5 f6 f7 f8 g9_size f11 g1_size f10 p1 p2 p3
def wpL_parts (n12 : Nat) (post : Int32 → ((Nat → Int32) × (Nat → Int32) × (Nat → Int32) × (Nat → Int32) × (Nat → Int32) × (Nat → Int64)) → Prop) (g2_ways : Int32) (f3 : Nat → Int32) (f4 : Nat → Int32) (f5 : Nat → Int32) (f7 : Nat → Int32) (f8 : Nat → Int32) (f9 : Nat → Int32) (f10 : Nat → Int32) (f11 : Nat → Int32) (f12 : Nat → Int64) (p1 : Int32) (p2 : Int32) (p3 : Int32) : Prop :=
  wpX10_parts (fun (r2 : Int64) (u1 : (Nat → Int32) × (Nat → Int32) × (Nat → Int32) × (Nat → Int32) × (Nat → Int32)) =>
   vp_in 0 n12 ∧
   post 0 (u1.1, u1.2.1, u1.2.2.1, u1.2.2.2.1, u1.2.2.2.2, (vp_updL f12 (0 : Int32).toNatClampNeg r2))) (fun (E : String) (u1 : (Nat → Int32) × (Nat → Int32) × (Nat → Int32) × (Nat → Int32) × (Nat → Int32)) =>
   (E = "java/lang/IndexOutOfBoundsException" →
    post 1 (u1.1, u1.2.1, u1.2.2.1, u1.2.2.2.1, u1.2.2.2.2, f12)) ∧ (E = "java/lang/IllegalArgumentException" →
    post 2 (u1.1, u1.2.1, u1.2.2.1, u1.2.2.2.1, u1.2.2.2.2, f12)) ∧ (E = "java/lang/IndexOutOfBoundsException" ∨ E = "java/lang/IllegalArgumentException")) g2_ways f3 f4 f5 f7 f8 f9 f10 f11 p1 p2 p3
def wpL_back (n13 : Nat) (post : Int32 → ((Nat → Int32) × Int32 × Int32 × (Nat → Int32) × (Nat → Int32) × (Nat → Int64)) → Prop) (g2_ways : Int32) (g2_wallCount : Int32) (f3 : Nat → Int32) (f4 : Nat → Int32) (f5 : Nat → Int32) (f6 : Nat → Int32) (g7_size : Int32) (f9 : Nat → Int32) (f8 : Nat → Int32) (g10_rows : Int32) (g10_columns : Int32) (f11 : Nat → Int32) (f12 : Nat → Int32) (f13 : Nat → Int64) (p1 : Int32) (p2 : Int32) : Prop :=
  wpX10_back (fun (r2 : Int32) (u1 : (Nat → Int32) × Int32 × Int32 × (Nat → Int32) × (Nat → Int32)) =>
   vp_in 0 n13 ∧
   post 0 (u1.1, u1.2.1, u1.2.2.1, u1.2.2.2.1, u1.2.2.2.2, (vp_updL f13 (0 : Int32).toNatClampNeg (r2.toInt64)))) (fun (E : String) (u1 : (Nat → Int32) × Int32 × Int32 × (Nat → Int32) × (Nat → Int32)) =>
   (E = "java/lang/IndexOutOfBoundsException" →
    post 1 (u1.1, u1.2.1, u1.2.2.1, u1.2.2.2.1, u1.2.2.2.2, f13)) ∧ (E = "java/lang/IndexOutOfBoundsException")) g2_ways g2_wallCount f3 f4 f5 f6 g7_size f9 f8 g10_rows g10_columns f11 f12 p1 p2
def wpL_ring (n13 : Nat) (post : Int32 → ((Nat → Int32) × Int32 × Int32 × (Nat → Int32) × (Nat → Int32) × (Nat → Int64)) → Prop) (g2_ways : Int32) (g2_wallCount : Int32) (f3 : Nat → Int32) (f4 : Nat → Int32) (f5 : Nat → Int32) (f6 : Nat → Int32) (g7_size : Int32) (f9 : Nat → Int32) (f8 : Nat → Int32) (g10_rows : Int32) (g10_columns : Int32) (f11 : Nat → Int32) (f12 : Nat → Int32) (f13 : Nat → Int64) (p1 : Int32) (p2 : Int32) (p3 : Int32) : Prop :=
  wpX10_ring (fun (r2 : Int32) (u1 : (Nat → Int32) × Int32 × Int32 × (Nat → Int32) × (Nat → Int32)) =>
   vp_in 0 n13 ∧
   post 0 (u1.1, u1.2.1, u1.2.2.1, u1.2.2.2.1, u1.2.2.2.2, (vp_updL f13 (0 : Int32).toNatClampNeg (r2.toInt64)))) (fun (E : String) (u1 : (Nat → Int32) × Int32 × Int32 × (Nat → Int32) × (Nat → Int32)) =>
   (E = "java/lang/IndexOutOfBoundsException" →
    post 1 (u1.1, u1.2.1, u1.2.2.1, u1.2.2.2.1, u1.2.2.2.2, f13)) ∧ (E = "java/lang/IndexOutOfBoundsException")) g2_ways g2_wallCount f3 f4 f5 f6 g7_size f9 f8 g10_rows g10_columns f11 f12 p1 p2 p3
def wpL_dogs (n16 : Nat) (post : Int32 → ((Nat → Int32) × Int32 × Int32 × (Nat → Int32) × (Nat → Int32) × (Nat → Int32) × (Nat → Int32) × (Nat → Int32) × (Nat → Int64)) → Prop) (g2_ways : Int32) (g2_wallCount : Int32) (f3 : Nat → Int32) (f4 : Nat → Int32) (f5 : Nat → Int32) (f6 : Nat → Int32) (g7_size : Int32) (f9 : Nat → Int32) (f8 : Nat → Int32) (g10_ones : Int32) (g10_others : Int32) (f11 : Nat → Int32) (f12 : Nat → Int32) (f13 : Nat → Int32) (f14 : Nat → Int32) (f15 : Nat → Int32) (f16 : Nat → Int64) (p1 : Int32) (p2 : Int32) (p3 : Int32) : Prop :=
  wpX10_dogs (fun (r2 : Int32) (u1 : (Nat → Int32) × Int32 × Int32 × (Nat → Int32) × (Nat → Int32) × (Nat → Int32) × (Nat → Int32) × (Nat → Int32)) =>
   vp_in 0 n16 ∧
   post 0 (u1.1, u1.2.1, u1.2.2.1, u1.2.2.2.1, u1.2.2.2.2.1, u1.2.2.2.2.2.1, u1.2.2.2.2.2.2.1, u1.2.2.2.2.2.2.2, (vp_updL f16 (0 : Int32).toNatClampNeg (r2.toInt64)))) (fun (E : String) (u1 : (Nat → Int32) × Int32 × Int32 × (Nat → Int32) × (Nat → Int32) × (Nat → Int32) × (Nat → Int32) × (Nat → Int32)) =>
   (E = "java/lang/IndexOutOfBoundsException" →
    post 1 (u1.1, u1.2.1, u1.2.2.1, u1.2.2.2.1, u1.2.2.2.2.1, u1.2.2.2.2.2.1, u1.2.2.2.2.2.2.1, u1.2.2.2.2.2.2.2, f16)) ∧ (E = "java/lang/IndexOutOfBoundsException")) g2_ways g2_wallCount f3 f4 f5 f6 g7_size f9 f8 g10_ones g10_others f11 f12 f13 f14 f15 p1 p2 p3
def wpL_three (n16 : Nat) (post : Int32 → ((Nat → Int32) × Int32 × Int32 × (Nat → Int32) × (Nat → Int32) × (Nat → Int32) × (Nat → Int32) × (Nat → Int32) × (Nat → Int64)) → Prop) (g2_ways : Int32) (g2_wallCount : Int32) (f3 : Nat → Int32) (f4 : Nat → Int32) (f5 : Nat → Int32) (f6 : Nat → Int32) (g7_size : Int32) (f9 : Nat → Int32) (f8 : Nat → Int32) (g10_ones : Int32) (g10_others : Int32) (f11 : Nat → Int32) (f12 : Nat → Int32) (f13 : Nat → Int32) (f14 : Nat → Int32) (f15 : Nat → Int32) (f16 : Nat → Int64) (p1 : Int32) (p2 : Int32) (p3 : Int32) : Prop :=
  wpX10_three (fun (r2 : Int32) (u1 : (Nat → Int32) × Int32 × Int32 × (Nat → Int32) × (Nat → Int32) × (Nat → Int32) × (Nat → Int32) × (Nat → Int32)) =>
   vp_in 0 n16 ∧
   post 0 (u1.1, u1.2.1, u1.2.2.1, u1.2.2.2.1, u1.2.2.2.2.1, u1.2.2.2.2.2.1, u1.2.2.2.2.2.2.1, u1.2.2.2.2.2.2.2, (vp_updL f16 (0 : Int32).toNatClampNeg (r2.toInt64)))) (fun (E : String) (u1 : (Nat → Int32) × Int32 × Int32 × (Nat → Int32) × (Nat → Int32) × (Nat → Int32) × (Nat → Int32) × (Nat → Int32)) =>
   (E = "java/lang/IndexOutOfBoundsException" →
    post 1 (u1.1, u1.2.1, u1.2.2.1, u1.2.2.2.1, u1.2.2.2.2.1, u1.2.2.2.2.2.1, u1.2.2.2.2.2.2.1, u1.2.2.2.2.2.2.2, f16)) ∧ (E = "java/lang/IndexOutOfBoundsException")) g2_ways g2_wallCount f3 f4 f5 f6 g7_size f9 f8 g10_ones g10_others f11 f12 f13 f14 f15 p1 p2 p3
def wpL_drag (n13 : Nat) (post : Int32 → ((Nat → Int32) × Int32 × Int32 × (Nat → Int32) × (Nat → Int32) × (Nat → Int64)) → Prop) (g2_ways : Int32) (g2_wallCount : Int32) (f3 : Nat → Int32) (f4 : Nat → Int32) (f5 : Nat → Int32) (f6 : Nat → Int32) (g7_size : Int32) (f9 : Nat → Int32) (f8 : Nat → Int32) (g10_rows : Int32) (g10_columns : Int32) (f11 : Nat → Int32) (f12 : Nat → Int32) (f13 : Nat → Int64) (p1 : Int32) (p2 : Int32) : Prop :=
  wpX10_drag (fun (r2 : Int64) (u1 : (Nat → Int32) × Int32 × Int32 × (Nat → Int32) × (Nat → Int32)) =>
   vp_in 0 n13 ∧
   post 0 (u1.1, u1.2.1, u1.2.2.1, u1.2.2.2.1, u1.2.2.2.2, (vp_updL f13 (0 : Int32).toNatClampNeg r2))) (fun (E : String) (u1 : (Nat → Int32) × Int32 × Int32 × (Nat → Int32) × (Nat → Int32)) =>
   (E = "java/lang/IndexOutOfBoundsException" →
    post 1 (u1.1, u1.2.1, u1.2.2.1, u1.2.2.2.1, u1.2.2.2.2, f13)) ∧ (E = "java/lang/IndexOutOfBoundsException")) g2_ways g2_wallCount f3 f4 f5 f6 g7_size f9 f8 g10_rows g10_columns f11 f12 p1 p2
def wpL_nearest (n13 : Nat) (post : Int32 → ((Nat → Int32) × Int32 × Int32 × (Nat → Int32) × (Nat → Int32) × (Nat → Int64)) → Prop) (g2_ways : Int32) (g2_wallCount : Int32) (f3 : Nat → Int32) (f4 : Nat → Int32) (f5 : Nat → Int32) (f6 : Nat → Int32) (g7_size : Int32) (f9 : Nat → Int32) (f8 : Nat → Int32) (g10_rows : Int32) (g10_columns : Int32) (f11 : Nat → Int32) (f12 : Nat → Int32) (f13 : Nat → Int64) (p1 : Int32) (p2 : Int32) : Prop :=
  wpX10_nearest (fun (r2 : Int32) (u1 : (Nat → Int32) × Int32 × Int32 × (Nat → Int32) × (Nat → Int32)) =>
   vp_in 0 n13 ∧
   post 0 (u1.1, u1.2.1, u1.2.2.1, u1.2.2.2.1, u1.2.2.2.2, (vp_updL f13 (0 : Int32).toNatClampNeg (r2.toInt64)))) (fun (E : String) (u1 : (Nat → Int32) × Int32 × Int32 × (Nat → Int32) × (Nat → Int32)) =>
   (E = "java/lang/IndexOutOfBoundsException" →
    post 1 (u1.1, u1.2.1, u1.2.2.1, u1.2.2.2.1, u1.2.2.2.2, f13)) ∧ (E = "java/lang/IndexOutOfBoundsException")) g2_ways g2_wallCount f3 f4 f5 f6 g7_size f9 f8 g10_rows g10_columns f11 f12 p1 p2
def wpL_fewer (n9 : Nat) (post : Int32 → ((Nat → Int32) × (Nat → Int32) × (Nat → Int64)) → Prop) (g2_ways : Int32) (f3 : Nat → Int32) (f4 : Nat → Int32) (f5 : Nat → Int32) (f7 : Nat → Int32) (f8 : Nat → Int32) (f9 : Nat → Int64) (p1 : Int32) (p2 : Int32) : Prop :=
  wpX10_fewer (fun (r2 : Int32) (u1 : (Nat → Int32) × (Nat → Int32)) =>
   vp_in 0 n9 ∧
   post 0 (u1.1, u1.2, (vp_updL f9 (0 : Int32).toNatClampNeg (r2.toInt64)))) (fun (E : String) (u1 : (Nat → Int32) × (Nat → Int32)) =>
   (E = "java/lang/IndexOutOfBoundsException" →
    post 1 (u1.1, u1.2, f9)) ∧ (E = "java/lang/IllegalArgumentException" →
    post 2 (u1.1, u1.2, f9)) ∧ (E = "java/lang/IndexOutOfBoundsException" ∨ E = "java/lang/IllegalArgumentException")) g2_ways f3 f4 f5 f7 f8 p1 p2
def wpL_forged (n13 : Nat) (post : Int32 → ((Nat → Int32) × Int32 × Int32 × (Nat → Int32) × (Nat → Int32) × (Nat → Int64)) → Prop) (g2_ways : Int32) (g2_wallCount : Int32) (f3 : Nat → Int32) (f4 : Nat → Int32) (f5 : Nat → Int32) (f6 : Nat → Int32) (g7_size : Int32) (f9 : Nat → Int32) (f8 : Nat → Int32) (g10_rows : Int32) (g10_columns : Int32) (f11 : Nat → Int32) (f12 : Nat → Int32) (f13 : Nat → Int64) (p1 : Int32) (p2 : Int32) : Prop :=
  wpX10_forged (fun (r2 : Int32) (u1 : (Nat → Int32) × Int32 × Int32 × (Nat → Int32) × (Nat → Int32)) =>
   (r2 = 0 →
    vp_in 0 n13 ∧
    post 0 (u1.1, u1.2.1, u1.2.2.1, u1.2.2.2.1, u1.2.2.2.2, (vp_updL f13 (0 : Int32).toNatClampNeg 0))) ∧
   (¬ r2 = 0 →
    vp_in 0 n13 ∧
    post 0 (u1.1, u1.2.1, u1.2.2.1, u1.2.2.2.1, u1.2.2.2.2, (vp_updL f13 (0 : Int32).toNatClampNeg 1)))) (fun (E : String) (u1 : (Nat → Int32) × Int32 × Int32 × (Nat → Int32) × (Nat → Int32)) =>
   (E = "java/lang/IndexOutOfBoundsException" →
    post 1 (u1.1, u1.2.1, u1.2.2.1, u1.2.2.2.1, u1.2.2.2.2, f13)) ∧ (E = "java/lang/IndexOutOfBoundsException")) g2_ways g2_wallCount f3 f4 f5 f6 g7_size f9 f8 g10_rows g10_columns f11 f12 p1 p2
def wpL_mark (n7 : Nat) (post : Int32 → (Int32 × (Nat → Int32) × (Nat → Int32) × (Nat → Int32) × (Nat → Int32) × (Nat → Int64)) → Prop) (g2_size : Int32) (f3 : Nat → Int32) (f4 : Nat → Int32) (f5 : Nat → Int32) (f6 : Nat → Int32) (f7 : Nat → Int64) (p1 : Int32) (p2 : Int32) (p3 : Int32) (p4 : Int32) : Prop :=
  wpX10_mark (fun (r2 : Int32) (u1 : Int32 × (Nat → Int32) × (Nat → Int32) × (Nat → Int32) × (Nat → Int32)) =>
   vp_in 0 n7 ∧
   post 0 (u1.1, u1.2.1, u1.2.2.1, u1.2.2.2.1, u1.2.2.2.2, (vp_updL f7 (0 : Int32).toNatClampNeg (r2.toInt64)))) (fun (E : String) (u1 : Int32 × (Nat → Int32) × (Nat → Int32) × (Nat → Int32) × (Nat → Int32)) =>
   (E = "java/lang/IllegalArgumentException" →
    post 1 (u1.1, u1.2.1, u1.2.2.1, u1.2.2.2.1, u1.2.2.2.2, f7)) ∧ (E = "java/lang/UnsupportedOperationException" →
    post 2 (u1.1, u1.2.1, u1.2.2.1, u1.2.2.2.1, u1.2.2.2.2, f7)) ∧ (E = "java/lang/IllegalArgumentException" ∨ E = "java/lang/UnsupportedOperationException")) g2_size f3 f4 f5 f6 p1 p2 p3 p4
def wpL_fits (n7 : Nat) (post : Int32 → ((Nat → Int64)) → Prop) (g2_size : Int32) (f3 : Nat → Int32) (f4 : Nat → Int32) (f5 : Nat → Int32) (f6 : Nat → Int32) (f7 : Nat → Int64) (p1 : Int32) (p2 : Int32) (p3 : Int32) : Prop :=
  wpX10_fits (fun (r2 : Int32) (u1 : Unit) =>
   vp_in 0 n7 ∧
   post 0 ((vp_updL f7 (0 : Int32).toNatClampNeg (r2.toInt64)))) (fun (E : String) (u1 : Unit) =>
   (E = "java/lang/IllegalArgumentException" →
    post 1 (f7)) ∧ (E = "java/lang/IllegalArgumentException")) g2_size f3 f4 f5 f6 p1 p2 p3
def wpL_begin (n11 : Nat) (post : Int32 → ((Nat → Int32) × Int32 × Int32 × Int32 × Int32 × Int32 × Int32 × Int32 × Int32 × Int32 × (Nat → Int64)) → Prop) (g2_ways : Int32) (g2_wallCount : Int32) (f3 : Nat → Int32) (f4 : Nat → Int32) (f5 : Nat → Int32) (f6 : Nat → Int32) (g7_size : Int32) (f9 : Nat → Int32) (f8 : Nat → Int32) (g10_underWay : Int32) (g10_way : Int32) (g10_other : Int32) (g10_lead : Int32) (g10_man : Int32) (g10_dog : Int32) (g10_gone : Int32) (g10_greatest : Int32) (g10_remembered : Int32) (f11 : Nat → Int64) (p1 : Int32) (p2 : Int32) (p3 : Int32) : Prop :=
  wpX10_begin (fun (r2 : Int32) (u1 : (Nat → Int32) × Int32 × Int32 × Int32 × Int32 × Int32 × Int32 × Int32 × Int32 × Int32) =>
   (r2 = 0 →
    vp_in 0 n11 ∧
    post 0 (u1.1, u1.2.1, u1.2.2.1, u1.2.2.2.1, u1.2.2.2.2.1, u1.2.2.2.2.2.1, u1.2.2.2.2.2.2.1, u1.2.2.2.2.2.2.2.1, u1.2.2.2.2.2.2.2.2.1, u1.2.2.2.2.2.2.2.2.2, (vp_updL f11 (0 : Int32).toNatClampNeg 0))) ∧
   (¬ r2 = 0 →
    vp_in 0 n11 ∧
    post 0 (u1.1, u1.2.1, u1.2.2.1, u1.2.2.2.1, u1.2.2.2.2.1, u1.2.2.2.2.2.1, u1.2.2.2.2.2.2.1, u1.2.2.2.2.2.2.2.1, u1.2.2.2.2.2.2.2.2.1, u1.2.2.2.2.2.2.2.2.2, (vp_updL f11 (0 : Int32).toNatClampNeg 1)))) (fun (E : String) (u1 : (Nat → Int32) × Int32 × Int32 × Int32 × Int32 × Int32 × Int32 × Int32 × Int32 × Int32) =>
   (E = "java/lang/IndexOutOfBoundsException" →
    post 1 (u1.1, u1.2.1, u1.2.2.1, u1.2.2.2.1, u1.2.2.2.2.1, u1.2.2.2.2.2.1, u1.2.2.2.2.2.2.1, u1.2.2.2.2.2.2.2.1, u1.2.2.2.2.2.2.2.2.1, u1.2.2.2.2.2.2.2.2.2, f11)) ∧ (E = "java/lang/IllegalArgumentException" →
    post 2 (u1.1, u1.2.1, u1.2.2.1, u1.2.2.2.1, u1.2.2.2.2.1, u1.2.2.2.2.2.1, u1.2.2.2.2.2.2.1, u1.2.2.2.2.2.2.2.1, u1.2.2.2.2.2.2.2.2.1, u1.2.2.2.2.2.2.2.2.2, f11)) ∧ (E = "java/lang/IndexOutOfBoundsException" ∨ E = "java/lang/IllegalArgumentException")) g2_ways g2_wallCount f3 f4 f5 f6 g7_size f9 f8 g10_underWay g10_way g10_other g10_lead g10_man g10_dog g10_gone g10_greatest g10_remembered p1 p2 p3
def wpL_step (n13 : Nat) (post : Int32 → (Int32 × Int32 × Int32 × Int32 × Int32 × (Nat → Int32) × (Nat → Int32) × (Nat → Int32) × (Nat → Int64)) → Prop) (g2_underWay : Int32) (g2_way : Int32) (g2_other : Int32) (g2_lead : Int32) (g5_ways : Int32) (g5_wallCount : Int32) (f6 : Nat → Int32) (f7 : Nat → Int32) (f8 : Nat → Int32) (f9 : Nat → Int32) (g10_size : Int32) (f12 : Nat → Int32) (g2_man : Int32) (g2_dog : Int32) (g2_gone : Int32) (g2_greatest : Int32) (g2_remembered : Int32) (f3 : Nat → Int32) (f4 : Nat → Int32) (f11 : Nat → Int32) (f13 : Nat → Int64) (p1 : Int32) : Prop :=
  wpX10_step (fun (r2 : Int32) (u1 : Int32 × Int32 × Int32 × Int32 × Int32 × (Nat → Int32) × (Nat → Int32) × (Nat → Int32)) =>
   vp_in 0 n13 ∧
   post 0 (u1.1, u1.2.1, u1.2.2.1, u1.2.2.2.1, u1.2.2.2.2.1, u1.2.2.2.2.2.1, u1.2.2.2.2.2.2.1, u1.2.2.2.2.2.2.2, (vp_updL f13 (0 : Int32).toNatClampNeg (r2.toInt64)))) (fun (E : String) (u1 : Int32 × Int32 × Int32 × Int32 × Int32 × (Nat → Int32) × (Nat → Int32) × (Nat → Int32)) =>
   (E = "java/lang/IllegalArgumentException" →
    post 1 (u1.1, u1.2.1, u1.2.2.1, u1.2.2.2.1, u1.2.2.2.2.1, u1.2.2.2.2.2.1, u1.2.2.2.2.2.2.1, u1.2.2.2.2.2.2.2, f13)) ∧ (E = "java/lang/IllegalArgumentException")) g2_underWay g2_way g2_other g2_lead g5_ways g5_wallCount f6 f7 f8 f9 g10_size f12 g2_man g2_dog g2_gone g2_greatest g2_remembered f3 f4 f11 p1
def wpL_live (n13 : Nat) (post : Int32 → (Int32 × Int32 × Int32 × Int32 × Int32 × Int32 × (Nat → Int32) × (Nat → Int32) × (Nat → Int32) × (Nat → Int64)) → Prop) (g2_underWay : Int32) (g2_way : Int32) (g2_other : Int32) (g2_lead : Int32) (g5_ways : Int32) (g5_wallCount : Int32) (f6 : Nat → Int32) (f7 : Nat → Int32) (f8 : Nat → Int32) (f9 : Nat → Int32) (g10_size : Int32) (f12 : Nat → Int32) (g1_drawSeed : Int32) (g2_man : Int32) (g2_dog : Int32) (g2_gone : Int32) (g2_greatest : Int32) (g2_remembered : Int32) (f3 : Nat → Int32) (f4 : Nat → Int32) (f11 : Nat → Int32) (f13 : Nat → Int64) (p1 : Int32) : Prop :=
  wpX10_live (fun (r2 : Int32) (u1 : Int32 × Int32 × Int32 × Int32 × Int32 × Int32 × (Nat → Int32) × (Nat → Int32) × (Nat → Int32)) =>
   vp_in 0 n13 ∧
   post 0 (u1.1, u1.2.1, u1.2.2.1, u1.2.2.2.1, u1.2.2.2.2.1, u1.2.2.2.2.2.1, u1.2.2.2.2.2.2.1, u1.2.2.2.2.2.2.2.1, u1.2.2.2.2.2.2.2.2, (vp_updL f13 (0 : Int32).toNatClampNeg (r2.toInt64)))) (fun (E : String) (u1 : Int32 × Int32 × Int32 × Int32 × Int32 × Int32 × (Nat → Int32) × (Nat → Int32) × (Nat → Int32)) =>
   (E = "java/lang/IllegalArgumentException" →
    post 1 (u1.1, u1.2.1, u1.2.2.1, u1.2.2.2.1, u1.2.2.2.2.1, u1.2.2.2.2.2.1, u1.2.2.2.2.2.2.1, u1.2.2.2.2.2.2.2.1, u1.2.2.2.2.2.2.2.2, f13)) ∧ (E = "java/lang/IllegalArgumentException")) g2_underWay g2_way g2_other g2_lead g5_ways g5_wallCount f6 f7 f8 f9 g10_size f12 g1_drawSeed g2_man g2_dog g2_gone g2_greatest g2_remembered f3 f4 f11 p1
def wpL_on (n5 : Nat) (post : Int32 → ((Nat → Int64)) → Prop) (g2_underWay : Int32) (g2_way : Int32) (g2_other : Int32) (g2_lead : Int32) (g2_man : Int32) (g2_dog : Int32) (g2_gone : Int32) (g2_greatest : Int32) (g2_remembered : Int32) (g3_ways : Int32) (f4 : Nat → Int32) (f5 : Nat → Int64) (p1 : Int32) : Prop :=
  wpX10_on (fun (r2 : Int32) (u1 : Unit) =>
   vp_in 0 n5 ∧
   post 0 ((vp_updL f5 (0 : Int32).toNatClampNeg (r2.toInt64)))) (fun (E : String) (u1 : Unit) =>
   (E = "java/util/NoSuchElementException" →
    post 1 (f5)) ∧ (E = "java/util/NoSuchElementException")) g2_underWay g2_way g2_other g2_lead g2_man g2_dog g2_gone g2_greatest g2_remembered g3_ways f4 p1
abbrev tX8 : Type := (Nat → Int32) × Int32 × Int32 × Int32 × Int32 × Int32
abbrev tX1 : Type := (Nat → Int32) × (Nat → Int32) × (Nat → Int32) × (Nat → Int32) × Int32 × Int32 × Int32
abbrev tX2 : Type := (Nat → Int32) × (Nat → Int32) × Int32 × Int32
abbrev tX3 : Type := (Nat → Int32) × (Nat → Int32) × (Nat → Int32) × (Nat → Int32) × Int32
abbrev tX7 : Type := Int32 × Int32 × Int32 × Int32 × Int32 × Int32 × Int32 × Int32 × Int32 × (Nat → Int32) × (Nat → Int32)
abbrev tX6 : Type := tX1 × tX2 × tX3 × tX7 × Int32
abbrev tX0 : Type := (Nat → Int32) × (Nat → Int32) × Int32 × Int32
abbrev tX4 : Type := (Nat → Int32) × (Nat → Int32) × (Nat → Int32) × (Nat → Int32) × (Nat → Int32) × Int32 × Int32
abbrev tX5 : Type := (Nat → Int32) × (Nat → Int32) × (Nat → Int32) × (Nat → Int32) × (Nat → Int32)
abbrev tX9 : Type := (Nat → Int32) × (Nat → Int32)
abbrev tX10 : Type := tX8 × tX6 × tX6 × tX1 × tX2 × tX0 × tX4 × tX5 × tX9 × Int32 × Int32
abbrev tX11 : Type := Int32 × (Nat → Int32) × (Nat → Int32) × (Nat → Int32) × Int32 × (Nat → Int32) × Int32 × (Nat → Int32) × Int32 × Int32 × Int32 × Int32 × Int32 × Int32 × (Nat → Int32) × Int32 × (Nat → Int32) × (Nat → Int32) × Int32 × Int32 × (Nat → Int32) × (Nat → Int32) × (Nat → Int32) × (Nat → Int32) × (Nat → Int32) × (Nat → Int32) × (Nat → Int32) × (Nat → Int32) × (Nat → Int32) × (Nat → Int32) × (Nat → Int32) × (Nat → Int64) × (Nat → Int32) × (Nat → Int32)
def wpL_204 (L : Nat) (xs : Nat → Int32) (kk : tX10 → tX11 → (Nat → Int64) → Int32 → Prop) (u : tX10) (v : tX11) (o : Nat → Int64) (i : Int32) : Prop :=
  vp_in (i + 1) L ∧
  vp_in (i + 2) L ∧
  vp_in (i + 3) L ∧
  vp_in (i + 4) L ∧
  vp_in (i + 5) L ∧
  wpX10_feed (fun (r2 : Int32) (u1 : Int32 × (Nat → Int32)) =>
   vp_in (i + 1) L ∧
   vp_in (i + 2) L ∧
   vp_in (i + 3) L ∧
   vp_in (i + 4) L ∧
   vp_in (i + 5) L ∧
   wpX11_feed (fun (r4 : Int32) (u3 : Int32 × Int32 × (Nat → Int32) × (Nat → Int32)) =>
    (r2 = r4 →
     ∀ v5 : Int32, v5 = i + 6 →
     kk ((u1.2, u1.1, u.1.2.2.1, u.1.2.2.2.1, u.1.2.2.2.2.1, u.1.2.2.2.2.2), u.2.1, u.2.2.1, u.2.2.2.1, u.2.2.2.2.1, u.2.2.2.2.2.1, u.2.2.2.2.2.2.1, u.2.2.2.2.2.2.2.1, u.2.2.2.2.2.2.2.2.1, u.2.2.2.2.2.2.2.2.2.1, u.2.2.2.2.2.2.2.2.2.2) (u3.1, v.2.1, v.2.2.1, v.2.2.2.1, v.2.2.2.2.1, v.2.2.2.2.2.1, v.2.2.2.2.2.2.1, u3.2.2.2, u3.2.1, v.2.2.2.2.2.2.2.2.2.1, v.2.2.2.2.2.2.2.2.2.2.1, v.2.2.2.2.2.2.2.2.2.2.2.1, v.2.2.2.2.2.2.2.2.2.2.2.2.1, v.2.2.2.2.2.2.2.2.2.2.2.2.2.1, u3.2.2.1, v.2.2.2.2.2.2.2.2.2.2.2.2.2.2.2.1, v.2.2.2.2.2.2.2.2.2.2.2.2.2.2.2.2.1, v.2.2.2.2.2.2.2.2.2.2.2.2.2.2.2.2.2.1, v.2.2.2.2.2.2.2.2.2.2.2.2.2.2.2.2.2.2.1, v.2.2.2.2.2.2.2.2.2.2.2.2.2.2.2.2.2.2.2.1, v.2.2.2.2.2.2.2.2.2.2.2.2.2.2.2.2.2.2.2.2.1, v.2.2.2.2.2.2.2.2.2.2.2.2.2.2.2.2.2.2.2.2.2.1, v.2.2.2.2.2.2.2.2.2.2.2.2.2.2.2.2.2.2.2.2.2.2.1, v.2.2.2.2.2.2.2.2.2.2.2.2.2.2.2.2.2.2.2.2.2.2.2.1, v.2.2.2.2.2.2.2.2.2.2.2.2.2.2.2.2.2.2.2.2.2.2.2.2.1, v.2.2.2.2.2.2.2.2.2.2.2.2.2.2.2.2.2.2.2.2.2.2.2.2.2.1, v.2.2.2.2.2.2.2.2.2.2.2.2.2.2.2.2.2.2.2.2.2.2.2.2.2.2.1, v.2.2.2.2.2.2.2.2.2.2.2.2.2.2.2.2.2.2.2.2.2.2.2.2.2.2.2.1, v.2.2.2.2.2.2.2.2.2.2.2.2.2.2.2.2.2.2.2.2.2.2.2.2.2.2.2.2.1, v.2.2.2.2.2.2.2.2.2.2.2.2.2.2.2.2.2.2.2.2.2.2.2.2.2.2.2.2.2.1, v.2.2.2.2.2.2.2.2.2.2.2.2.2.2.2.2.2.2.2.2.2.2.2.2.2.2.2.2.2.2.1, v.2.2.2.2.2.2.2.2.2.2.2.2.2.2.2.2.2.2.2.2.2.2.2.2.2.2.2.2.2.2.2.1, v.2.2.2.2.2.2.2.2.2.2.2.2.2.2.2.2.2.2.2.2.2.2.2.2.2.2.2.2.2.2.2.2.1, v.2.2.2.2.2.2.2.2.2.2.2.2.2.2.2.2.2.2.2.2.2.2.2.2.2.2.2.2.2.2.2.2.2) o v5) ∧
    (¬ r2 = r4 →
     False)) v.1 v.2.2.2.2.2.2.2.2.1 v.2.2.2.2.2.2.2.2.2.2.2.2.2.2.1 v.2.2.2.2.2.2.2.1 (xs (i + 1).toNatClampNeg) (xs (i + 2).toNatClampNeg) (xs (i + 3).toNatClampNeg) (xs (i + 4).toNatClampNeg) (xs (i + 5).toNatClampNeg)) u.1.2.1 u.1.1 (xs (i + 1).toNatClampNeg) (xs (i + 2).toNatClampNeg) (xs (i + 3).toNatClampNeg) (xs (i + 4).toNatClampNeg) (xs (i + 5).toNatClampNeg)
def wpL_277 (L : Nat) (xs : Nat → Int32) (kk : tX10 → tX11 → (Nat → Int64) → Int32 → Prop) (u : tX10) (v : tX11) (o : Nat → Int64) (i : Int32) : Prop :=
  vp_in (i + 1) L ∧
  wpX10_end (fun (r2 : Int32) (u1 : Int32) =>
   vp_in (i + 1) L ∧
   wpX11_end (fun (r4 : Int32) (u3 : Int32 × Int32) =>
    (r2 = r4 →
     ∀ v5 : Int32, v5 = i + 6 →
     kk ((u.1.1, u1, u.1.2.2.1, u.1.2.2.2.1, u.1.2.2.2.2.1, u.1.2.2.2.2.2), u.2.1, u.2.2.1, u.2.2.2.1, u.2.2.2.2.1, u.2.2.2.2.2.1, u.2.2.2.2.2.2.1, u.2.2.2.2.2.2.2.1, u.2.2.2.2.2.2.2.2.1, u.2.2.2.2.2.2.2.2.2.1, u.2.2.2.2.2.2.2.2.2.2) (u3.1, v.2.1, v.2.2.1, v.2.2.2.1, v.2.2.2.2.1, v.2.2.2.2.2.1, v.2.2.2.2.2.2.1, v.2.2.2.2.2.2.2.1, u3.2, v.2.2.2.2.2.2.2.2.2.1, v.2.2.2.2.2.2.2.2.2.2.1, v.2.2.2.2.2.2.2.2.2.2.2.1, v.2.2.2.2.2.2.2.2.2.2.2.2.1, v.2.2.2.2.2.2.2.2.2.2.2.2.2.1, v.2.2.2.2.2.2.2.2.2.2.2.2.2.2.1, v.2.2.2.2.2.2.2.2.2.2.2.2.2.2.2.1, v.2.2.2.2.2.2.2.2.2.2.2.2.2.2.2.2.1, v.2.2.2.2.2.2.2.2.2.2.2.2.2.2.2.2.2.1, v.2.2.2.2.2.2.2.2.2.2.2.2.2.2.2.2.2.2.1, v.2.2.2.2.2.2.2.2.2.2.2.2.2.2.2.2.2.2.2.1, v.2.2.2.2.2.2.2.2.2.2.2.2.2.2.2.2.2.2.2.2.1, v.2.2.2.2.2.2.2.2.2.2.2.2.2.2.2.2.2.2.2.2.2.1, v.2.2.2.2.2.2.2.2.2.2.2.2.2.2.2.2.2.2.2.2.2.2.1, v.2.2.2.2.2.2.2.2.2.2.2.2.2.2.2.2.2.2.2.2.2.2.2.1, v.2.2.2.2.2.2.2.2.2.2.2.2.2.2.2.2.2.2.2.2.2.2.2.2.1, v.2.2.2.2.2.2.2.2.2.2.2.2.2.2.2.2.2.2.2.2.2.2.2.2.2.1, v.2.2.2.2.2.2.2.2.2.2.2.2.2.2.2.2.2.2.2.2.2.2.2.2.2.2.1, v.2.2.2.2.2.2.2.2.2.2.2.2.2.2.2.2.2.2.2.2.2.2.2.2.2.2.2.1, v.2.2.2.2.2.2.2.2.2.2.2.2.2.2.2.2.2.2.2.2.2.2.2.2.2.2.2.2.1, v.2.2.2.2.2.2.2.2.2.2.2.2.2.2.2.2.2.2.2.2.2.2.2.2.2.2.2.2.2.1, v.2.2.2.2.2.2.2.2.2.2.2.2.2.2.2.2.2.2.2.2.2.2.2.2.2.2.2.2.2.2.1, v.2.2.2.2.2.2.2.2.2.2.2.2.2.2.2.2.2.2.2.2.2.2.2.2.2.2.2.2.2.2.2.1, v.2.2.2.2.2.2.2.2.2.2.2.2.2.2.2.2.2.2.2.2.2.2.2.2.2.2.2.2.2.2.2.2.1, v.2.2.2.2.2.2.2.2.2.2.2.2.2.2.2.2.2.2.2.2.2.2.2.2.2.2.2.2.2.2.2.2.2) o v5) ∧
    (¬ r2 = r4 →
     False)) v.1 v.2.2.2.2.2.2.2.2.1 (xs (i + 1).toNatClampNeg)) u.1.2.1 (xs (i + 1).toNatClampNeg)
def wpL_302 (L : Nat) (xs : Nat → Int32) (kk : tX10 → tX11 → (Nat → Int64) → Int32 → Prop) (u : tX10) (v : tX11) (o : Nat → Int64) (i : Int32) : Prop :=
  wpL_park 1 (fun (r2 : Int32) (u1 : Int32 × Int32 × Int32 × Int32 × (Nat → Int32) × (Nat → Int32) × (Nat → Int32) × (Nat → Int32) × Int32 × Int32 × Int32 × Int32 × (Nat → Int32) × (Nat → Int32) × (Nat → Int32) × (Nat → Int32) × Int32 × Int32 × Int32 × Int32 × Int32 × (Nat → Int64)) =>
   wpX11_park (fun (r4 : Int32) (u3 : Int32 × Int32 × Int32 × Int32 × Int32 × Int32 × Int32 × Int32 × Int32 × (Nat → Int32) × (Nat → Int32)) =>
    wpX11_thrown (fun (r6 : Int32) (u5 : Unit) =>
     (r6 = r2 →
      (¬ r2 = 0 →
       ∀ v7 : Int32, v7 = i + 6 →
       kk ((u.1.1, u1.2.2.2.2.2.2.2.2.2.2.2.2.2.2.2.2.1, u1.2.2.2.2.2.2.2.2.2.2.2.2.2.2.2.2.2.1, u1.2.2.2.2.2.2.2.2.2.2.2.2.2.2.2.2.2.2.1, u1.2.2.2.2.2.2.2.2.2.2.2.2.2.2.2.2.2.2.2.1, u1.2.2.2.2.2.2.2.2.2.2.2.2.2.2.2.2.2.2.2.2.1), ((u1.2.2.2.2.1, u1.2.2.2.2.2.1, u1.2.2.2.2.2.2.1, u1.2.2.2.2.2.2.2.1, u1.2.1, u1.2.2.1, u1.2.2.2.1), u.2.1.2.1, u.2.1.2.2.1, (u1.2.2.2.2.2.2.2.2.1, u.2.1.2.2.2.1.2.1, u.2.1.2.2.2.1.2.2.1, u.2.1.2.2.2.1.2.2.2.1, u.2.1.2.2.2.1.2.2.2.2.1, u.2.1.2.2.2.1.2.2.2.2.2.1, u.2.1.2.2.2.1.2.2.2.2.2.2.1, u.2.1.2.2.2.1.2.2.2.2.2.2.2.1, u.2.1.2.2.2.1.2.2.2.2.2.2.2.2.1, u.2.1.2.2.2.1.2.2.2.2.2.2.2.2.2.1, u.2.1.2.2.2.1.2.2.2.2.2.2.2.2.2.2), u.2.1.2.2.2.2), u.2.2.1, (u1.2.2.2.2.2.2.2.2.2.2.2.2.1, u1.2.2.2.2.2.2.2.2.2.2.2.2.2.1, u1.2.2.2.2.2.2.2.2.2.2.2.2.2.2.1, u1.2.2.2.2.2.2.2.2.2.2.2.2.2.2.2.1, u1.2.2.2.2.2.2.2.2.2.1, u1.2.2.2.2.2.2.2.2.2.2.1, u1.2.2.2.2.2.2.2.2.2.2.2.1), u.2.2.2.2.1, u.2.2.2.2.2.1, u.2.2.2.2.2.2.1, u.2.2.2.2.2.2.2.1, u.2.2.2.2.2.2.2.2.1, u.2.2.2.2.2.2.2.2.2.1, u1.1) (u3.1, u3.2.2.2.2.2.2.2.2.2.1, v.2.2.1, u3.2.2.2.2.2.2.2.2.2.2, v.2.2.2.2.1, v.2.2.2.2.2.1, u3.2.1, v.2.2.2.2.2.2.2.1, u3.2.2.1, u3.2.2.2.1, u3.2.2.2.2.1, u3.2.2.2.2.2.1, u3.2.2.2.2.2.2.1, u3.2.2.2.2.2.2.2.1, v.2.2.2.2.2.2.2.2.2.2.2.2.2.2.1, u3.2.2.2.2.2.2.2.2.1, v.2.2.2.2.2.2.2.2.2.2.2.2.2.2.2.2.1, v.2.2.2.2.2.2.2.2.2.2.2.2.2.2.2.2.2.1, v.2.2.2.2.2.2.2.2.2.2.2.2.2.2.2.2.2.2.1, v.2.2.2.2.2.2.2.2.2.2.2.2.2.2.2.2.2.2.2.1, v.2.2.2.2.2.2.2.2.2.2.2.2.2.2.2.2.2.2.2.2.1, v.2.2.2.2.2.2.2.2.2.2.2.2.2.2.2.2.2.2.2.2.2.1, v.2.2.2.2.2.2.2.2.2.2.2.2.2.2.2.2.2.2.2.2.2.2.1, v.2.2.2.2.2.2.2.2.2.2.2.2.2.2.2.2.2.2.2.2.2.2.2.1, v.2.2.2.2.2.2.2.2.2.2.2.2.2.2.2.2.2.2.2.2.2.2.2.2.1, v.2.2.2.2.2.2.2.2.2.2.2.2.2.2.2.2.2.2.2.2.2.2.2.2.2.1, v.2.2.2.2.2.2.2.2.2.2.2.2.2.2.2.2.2.2.2.2.2.2.2.2.2.2.1, v.2.2.2.2.2.2.2.2.2.2.2.2.2.2.2.2.2.2.2.2.2.2.2.2.2.2.2.1, v.2.2.2.2.2.2.2.2.2.2.2.2.2.2.2.2.2.2.2.2.2.2.2.2.2.2.2.2.1, v.2.2.2.2.2.2.2.2.2.2.2.2.2.2.2.2.2.2.2.2.2.2.2.2.2.2.2.2.2.1, v.2.2.2.2.2.2.2.2.2.2.2.2.2.2.2.2.2.2.2.2.2.2.2.2.2.2.2.2.2.2.1, v.2.2.2.2.2.2.2.2.2.2.2.2.2.2.2.2.2.2.2.2.2.2.2.2.2.2.2.2.2.2.2.1, v.2.2.2.2.2.2.2.2.2.2.2.2.2.2.2.2.2.2.2.2.2.2.2.2.2.2.2.2.2.2.2.2.1, v.2.2.2.2.2.2.2.2.2.2.2.2.2.2.2.2.2.2.2.2.2.2.2.2.2.2.2.2.2.2.2.2.2) u1.2.2.2.2.2.2.2.2.2.2.2.2.2.2.2.2.2.2.2.2.2 v7) ∧
      (r2 = 0 →
       vp_in 0 1 ∧
       ((lg_cmp (u1.2.2.2.2.2.2.2.2.2.2.2.2.2.2.2.2.2.2.2.2.2 (0 : Int32).toNatClampNeg) (r4.toInt64)) = 0 →
        ∀ v8 : Int32, v8 = i + 6 →
        kk ((u.1.1, u1.2.2.2.2.2.2.2.2.2.2.2.2.2.2.2.2.1, u1.2.2.2.2.2.2.2.2.2.2.2.2.2.2.2.2.2.1, u1.2.2.2.2.2.2.2.2.2.2.2.2.2.2.2.2.2.2.1, u1.2.2.2.2.2.2.2.2.2.2.2.2.2.2.2.2.2.2.2.1, u1.2.2.2.2.2.2.2.2.2.2.2.2.2.2.2.2.2.2.2.2.1), ((u1.2.2.2.2.1, u1.2.2.2.2.2.1, u1.2.2.2.2.2.2.1, u1.2.2.2.2.2.2.2.1, u1.2.1, u1.2.2.1, u1.2.2.2.1), u.2.1.2.1, u.2.1.2.2.1, (u1.2.2.2.2.2.2.2.2.1, u.2.1.2.2.2.1.2.1, u.2.1.2.2.2.1.2.2.1, u.2.1.2.2.2.1.2.2.2.1, u.2.1.2.2.2.1.2.2.2.2.1, u.2.1.2.2.2.1.2.2.2.2.2.1, u.2.1.2.2.2.1.2.2.2.2.2.2.1, u.2.1.2.2.2.1.2.2.2.2.2.2.2.1, u.2.1.2.2.2.1.2.2.2.2.2.2.2.2.1, u.2.1.2.2.2.1.2.2.2.2.2.2.2.2.2.1, u.2.1.2.2.2.1.2.2.2.2.2.2.2.2.2.2), u.2.1.2.2.2.2), u.2.2.1, (u1.2.2.2.2.2.2.2.2.2.2.2.2.1, u1.2.2.2.2.2.2.2.2.2.2.2.2.2.1, u1.2.2.2.2.2.2.2.2.2.2.2.2.2.2.1, u1.2.2.2.2.2.2.2.2.2.2.2.2.2.2.2.1, u1.2.2.2.2.2.2.2.2.2.1, u1.2.2.2.2.2.2.2.2.2.2.1, u1.2.2.2.2.2.2.2.2.2.2.2.1), u.2.2.2.2.1, u.2.2.2.2.2.1, u.2.2.2.2.2.2.1, u.2.2.2.2.2.2.2.1, u.2.2.2.2.2.2.2.2.1, u.2.2.2.2.2.2.2.2.2.1, u1.1) (u3.1, u3.2.2.2.2.2.2.2.2.2.1, v.2.2.1, u3.2.2.2.2.2.2.2.2.2.2, v.2.2.2.2.1, v.2.2.2.2.2.1, u3.2.1, v.2.2.2.2.2.2.2.1, u3.2.2.1, u3.2.2.2.1, u3.2.2.2.2.1, u3.2.2.2.2.2.1, u3.2.2.2.2.2.2.1, u3.2.2.2.2.2.2.2.1, v.2.2.2.2.2.2.2.2.2.2.2.2.2.2.1, u3.2.2.2.2.2.2.2.2.1, v.2.2.2.2.2.2.2.2.2.2.2.2.2.2.2.2.1, v.2.2.2.2.2.2.2.2.2.2.2.2.2.2.2.2.2.1, v.2.2.2.2.2.2.2.2.2.2.2.2.2.2.2.2.2.2.1, v.2.2.2.2.2.2.2.2.2.2.2.2.2.2.2.2.2.2.2.1, v.2.2.2.2.2.2.2.2.2.2.2.2.2.2.2.2.2.2.2.2.1, v.2.2.2.2.2.2.2.2.2.2.2.2.2.2.2.2.2.2.2.2.2.1, v.2.2.2.2.2.2.2.2.2.2.2.2.2.2.2.2.2.2.2.2.2.2.1, v.2.2.2.2.2.2.2.2.2.2.2.2.2.2.2.2.2.2.2.2.2.2.2.1, v.2.2.2.2.2.2.2.2.2.2.2.2.2.2.2.2.2.2.2.2.2.2.2.2.1, v.2.2.2.2.2.2.2.2.2.2.2.2.2.2.2.2.2.2.2.2.2.2.2.2.2.1, v.2.2.2.2.2.2.2.2.2.2.2.2.2.2.2.2.2.2.2.2.2.2.2.2.2.2.1, v.2.2.2.2.2.2.2.2.2.2.2.2.2.2.2.2.2.2.2.2.2.2.2.2.2.2.2.1, v.2.2.2.2.2.2.2.2.2.2.2.2.2.2.2.2.2.2.2.2.2.2.2.2.2.2.2.2.1, v.2.2.2.2.2.2.2.2.2.2.2.2.2.2.2.2.2.2.2.2.2.2.2.2.2.2.2.2.2.1, v.2.2.2.2.2.2.2.2.2.2.2.2.2.2.2.2.2.2.2.2.2.2.2.2.2.2.2.2.2.2.1, v.2.2.2.2.2.2.2.2.2.2.2.2.2.2.2.2.2.2.2.2.2.2.2.2.2.2.2.2.2.2.2.1, v.2.2.2.2.2.2.2.2.2.2.2.2.2.2.2.2.2.2.2.2.2.2.2.2.2.2.2.2.2.2.2.2.1, v.2.2.2.2.2.2.2.2.2.2.2.2.2.2.2.2.2.2.2.2.2.2.2.2.2.2.2.2.2.2.2.2.2) u1.2.2.2.2.2.2.2.2.2.2.2.2.2.2.2.2.2.2.2.2.2 v8) ∧
       (¬ (lg_cmp (u1.2.2.2.2.2.2.2.2.2.2.2.2.2.2.2.2.2.2.2.2.2 (0 : Int32).toNatClampNeg) (r4.toInt64)) = 0 →
        False))) ∧
     (¬ r6 = r2 →
      False)) u3.1) v.2.2.2.2.2.2.2.1 v.1 v.2.2.2.2.2.2.1 v.2.2.2.2.2.2.2.2.1 v.2.2.2.2.2.2.2.2.2.1 v.2.2.2.2.2.2.2.2.2.2.1 v.2.2.2.2.2.2.2.2.2.2.2.1 v.2.2.2.2.2.2.2.2.2.2.2.2.1 v.2.2.2.2.2.2.2.2.2.2.2.2.2.1 v.2.2.2.2.2.2.2.2.2.2.2.2.2.2.2.1 v.2.1 v.2.2.2.1) u.1.1 u.2.2.2.2.2.2.2.2.2.2 u.2.1.1.2.2.2.2.1 u.2.1.1.2.2.2.2.2.1 u.2.1.1.2.2.2.2.2.2 u.2.1.1.1 u.2.1.1.2.1 u.2.1.1.2.2.1 u.2.1.1.2.2.2.1 u.2.1.2.2.2.1.1 u.2.2.2.1.2.2.2.2.1 u.2.2.2.1.2.2.2.2.2.1 u.2.2.2.1.2.2.2.2.2.2 u.2.2.2.1.1 u.2.2.2.1.2.1 u.2.2.2.1.2.2.1 u.2.2.2.1.2.2.2.1 u.1.2.1 u.1.2.2.1 u.1.2.2.2.1 u.1.2.2.2.2.1 u.1.2.2.2.2.2 o
def wpL_346 (L : Nat) (xs : Nat → Int32) (kk : tX10 → tX11 → (Nat → Int64) → Int32 → Prop) (u : tX10) (v : tX11) (o : Nat → Int64) (i : Int32) : Prop :=
  wpL_law 1 (fun (r2 : Int32) (u1 : Int32 × Int32 × Int32 × (Nat → Int32) × Int32 × Int32 × Int32 × Int32 × Int32 × Int32 × Int32 × (Nat → Int32) × Int32 × (Nat → Int64)) =>
   wpX11_law (fun (r4 : Int32) (u3 : Int32 × Int32 × Int32 × Int32 × Int32 × Int32 × Int32 × Int32 × Int32 × (Nat → Int32)) =>
    wpX11_thrown (fun (r6 : Int32) (u5 : Unit) =>
     (r6 = r2 →
      (¬ r2 = 0 →
       ∀ v7 : Int32, v7 = i + 6 →
       kk ((u.1.1, u1.2.2.2.2.1, u1.2.2.2.2.2.1, u1.2.2.2.2.2.2.1, u1.2.2.2.2.2.2.2.1, u1.2.2.2.2.2.2.2.2.1), (u.2.1.1, (u1.2.2.2.2.2.2.2.2.2.2.2.1, u.2.1.2.1.2.1, u1.2.2.2.2.2.2.2.2.2.1, u1.2.2.2.2.2.2.2.2.2.2.1), u.2.1.2.2.1, (u1.2.2.2.2.2.2.2.2.2.2.2.2.1, u.2.1.2.2.2.1.2.1, u.2.1.2.2.2.1.2.2.1, u.2.1.2.2.2.1.2.2.2.1, u.2.1.2.2.2.1.2.2.2.2.1, u.2.1.2.2.2.1.2.2.2.2.2.1, u.2.1.2.2.2.1.2.2.2.2.2.2.1, u.2.1.2.2.2.1.2.2.2.2.2.2.2.1, u.2.1.2.2.2.1.2.2.2.2.2.2.2.2.1, u.2.1.2.2.2.1.2.2.2.2.2.2.2.2.2.1, u.2.1.2.2.2.1.2.2.2.2.2.2.2.2.2.2), u.2.1.2.2.2.2), u.2.2.1, u.2.2.2.1, (u1.2.2.2.1, u.2.2.2.2.1.2.1, u1.2.1, u1.2.2.1), u.2.2.2.2.2.1, u.2.2.2.2.2.2.1, u.2.2.2.2.2.2.2.1, u.2.2.2.2.2.2.2.2.1, u.2.2.2.2.2.2.2.2.2.1, u1.1) (u3.1, u3.2.2.2.2.2.2.2.2.2, v.2.2.1, v.2.2.2.1, v.2.2.2.2.1, v.2.2.2.2.2.1, u3.2.1, v.2.2.2.2.2.2.2.1, u3.2.2.1, u3.2.2.2.1, u3.2.2.2.2.1, u3.2.2.2.2.2.1, u3.2.2.2.2.2.2.1, u3.2.2.2.2.2.2.2.1, v.2.2.2.2.2.2.2.2.2.2.2.2.2.2.1, u3.2.2.2.2.2.2.2.2.1, v.2.2.2.2.2.2.2.2.2.2.2.2.2.2.2.2.1, v.2.2.2.2.2.2.2.2.2.2.2.2.2.2.2.2.2.1, v.2.2.2.2.2.2.2.2.2.2.2.2.2.2.2.2.2.2.1, v.2.2.2.2.2.2.2.2.2.2.2.2.2.2.2.2.2.2.2.1, v.2.2.2.2.2.2.2.2.2.2.2.2.2.2.2.2.2.2.2.2.1, v.2.2.2.2.2.2.2.2.2.2.2.2.2.2.2.2.2.2.2.2.2.1, v.2.2.2.2.2.2.2.2.2.2.2.2.2.2.2.2.2.2.2.2.2.2.1, v.2.2.2.2.2.2.2.2.2.2.2.2.2.2.2.2.2.2.2.2.2.2.2.1, v.2.2.2.2.2.2.2.2.2.2.2.2.2.2.2.2.2.2.2.2.2.2.2.2.1, v.2.2.2.2.2.2.2.2.2.2.2.2.2.2.2.2.2.2.2.2.2.2.2.2.2.1, v.2.2.2.2.2.2.2.2.2.2.2.2.2.2.2.2.2.2.2.2.2.2.2.2.2.2.1, v.2.2.2.2.2.2.2.2.2.2.2.2.2.2.2.2.2.2.2.2.2.2.2.2.2.2.2.1, v.2.2.2.2.2.2.2.2.2.2.2.2.2.2.2.2.2.2.2.2.2.2.2.2.2.2.2.2.1, v.2.2.2.2.2.2.2.2.2.2.2.2.2.2.2.2.2.2.2.2.2.2.2.2.2.2.2.2.2.1, v.2.2.2.2.2.2.2.2.2.2.2.2.2.2.2.2.2.2.2.2.2.2.2.2.2.2.2.2.2.2.1, v.2.2.2.2.2.2.2.2.2.2.2.2.2.2.2.2.2.2.2.2.2.2.2.2.2.2.2.2.2.2.2.1, v.2.2.2.2.2.2.2.2.2.2.2.2.2.2.2.2.2.2.2.2.2.2.2.2.2.2.2.2.2.2.2.2.1, v.2.2.2.2.2.2.2.2.2.2.2.2.2.2.2.2.2.2.2.2.2.2.2.2.2.2.2.2.2.2.2.2.2) u1.2.2.2.2.2.2.2.2.2.2.2.2.2 v7) ∧
      (r2 = 0 →
       vp_in 0 1 ∧
       ((lg_cmp (u1.2.2.2.2.2.2.2.2.2.2.2.2.2 (0 : Int32).toNatClampNeg) (r4.toInt64)) = 0 →
        ∀ v8 : Int32, v8 = i + 6 →
        kk ((u.1.1, u1.2.2.2.2.1, u1.2.2.2.2.2.1, u1.2.2.2.2.2.2.1, u1.2.2.2.2.2.2.2.1, u1.2.2.2.2.2.2.2.2.1), (u.2.1.1, (u1.2.2.2.2.2.2.2.2.2.2.2.1, u.2.1.2.1.2.1, u1.2.2.2.2.2.2.2.2.2.1, u1.2.2.2.2.2.2.2.2.2.2.1), u.2.1.2.2.1, (u1.2.2.2.2.2.2.2.2.2.2.2.2.1, u.2.1.2.2.2.1.2.1, u.2.1.2.2.2.1.2.2.1, u.2.1.2.2.2.1.2.2.2.1, u.2.1.2.2.2.1.2.2.2.2.1, u.2.1.2.2.2.1.2.2.2.2.2.1, u.2.1.2.2.2.1.2.2.2.2.2.2.1, u.2.1.2.2.2.1.2.2.2.2.2.2.2.1, u.2.1.2.2.2.1.2.2.2.2.2.2.2.2.1, u.2.1.2.2.2.1.2.2.2.2.2.2.2.2.2.1, u.2.1.2.2.2.1.2.2.2.2.2.2.2.2.2.2), u.2.1.2.2.2.2), u.2.2.1, u.2.2.2.1, (u1.2.2.2.1, u.2.2.2.2.1.2.1, u1.2.1, u1.2.2.1), u.2.2.2.2.2.1, u.2.2.2.2.2.2.1, u.2.2.2.2.2.2.2.1, u.2.2.2.2.2.2.2.2.1, u.2.2.2.2.2.2.2.2.2.1, u1.1) (u3.1, u3.2.2.2.2.2.2.2.2.2, v.2.2.1, v.2.2.2.1, v.2.2.2.2.1, v.2.2.2.2.2.1, u3.2.1, v.2.2.2.2.2.2.2.1, u3.2.2.1, u3.2.2.2.1, u3.2.2.2.2.1, u3.2.2.2.2.2.1, u3.2.2.2.2.2.2.1, u3.2.2.2.2.2.2.2.1, v.2.2.2.2.2.2.2.2.2.2.2.2.2.2.1, u3.2.2.2.2.2.2.2.2.1, v.2.2.2.2.2.2.2.2.2.2.2.2.2.2.2.2.1, v.2.2.2.2.2.2.2.2.2.2.2.2.2.2.2.2.2.1, v.2.2.2.2.2.2.2.2.2.2.2.2.2.2.2.2.2.2.1, v.2.2.2.2.2.2.2.2.2.2.2.2.2.2.2.2.2.2.2.1, v.2.2.2.2.2.2.2.2.2.2.2.2.2.2.2.2.2.2.2.2.1, v.2.2.2.2.2.2.2.2.2.2.2.2.2.2.2.2.2.2.2.2.2.1, v.2.2.2.2.2.2.2.2.2.2.2.2.2.2.2.2.2.2.2.2.2.2.1, v.2.2.2.2.2.2.2.2.2.2.2.2.2.2.2.2.2.2.2.2.2.2.2.1, v.2.2.2.2.2.2.2.2.2.2.2.2.2.2.2.2.2.2.2.2.2.2.2.2.1, v.2.2.2.2.2.2.2.2.2.2.2.2.2.2.2.2.2.2.2.2.2.2.2.2.2.1, v.2.2.2.2.2.2.2.2.2.2.2.2.2.2.2.2.2.2.2.2.2.2.2.2.2.2.1, v.2.2.2.2.2.2.2.2.2.2.2.2.2.2.2.2.2.2.2.2.2.2.2.2.2.2.2.1, v.2.2.2.2.2.2.2.2.2.2.2.2.2.2.2.2.2.2.2.2.2.2.2.2.2.2.2.2.1, v.2.2.2.2.2.2.2.2.2.2.2.2.2.2.2.2.2.2.2.2.2.2.2.2.2.2.2.2.2.1, v.2.2.2.2.2.2.2.2.2.2.2.2.2.2.2.2.2.2.2.2.2.2.2.2.2.2.2.2.2.2.1, v.2.2.2.2.2.2.2.2.2.2.2.2.2.2.2.2.2.2.2.2.2.2.2.2.2.2.2.2.2.2.2.1, v.2.2.2.2.2.2.2.2.2.2.2.2.2.2.2.2.2.2.2.2.2.2.2.2.2.2.2.2.2.2.2.2.1, v.2.2.2.2.2.2.2.2.2.2.2.2.2.2.2.2.2.2.2.2.2.2.2.2.2.2.2.2.2.2.2.2.2) u1.2.2.2.2.2.2.2.2.2.2.2.2.2 v8) ∧
       (¬ (lg_cmp (u1.2.2.2.2.2.2.2.2.2.2.2.2.2 (0 : Int32).toNatClampNeg) (r4.toInt64)) = 0 →
        False))) ∧
     (¬ r6 = r2 →
      False)) u3.1) v.2.2.2.2.2.2.2.1 v.1 v.2.2.2.2.2.2.1 v.2.2.2.2.2.2.2.2.1 v.2.2.2.2.2.2.2.2.2.1 v.2.2.2.2.2.2.2.2.2.2.1 v.2.2.2.2.2.2.2.2.2.2.2.1 v.2.2.2.2.2.2.2.2.2.2.2.2.1 v.2.2.2.2.2.2.2.2.2.2.2.2.2.1 v.2.2.2.2.2.2.2.2.2.2.2.2.2.2.2.1 v.2.1) u.1.1 u.2.2.2.2.2.2.2.2.2.2 u.2.2.2.2.1.2.2.1 u.2.2.2.2.1.2.2.2 u.2.2.2.2.1.1 u.1.2.1 u.1.2.2.1 u.1.2.2.2.1 u.1.2.2.2.2.1 u.1.2.2.2.2.2 u.2.1.2.1.2.2.1 u.2.1.2.1.2.2.2 u.2.1.2.1.1 u.2.1.2.2.2.1.1 o
def wpL_390 (L : Nat) (xs : Nat → Int32) (kk : tX10 → tX11 → (Nat → Int64) → Int32 → Prop) (u : tX10) (v : tX11) (o : Nat → Int64) (i : Int32) : Prop :=
  wpX10_fault (fun (r2 : Int32) (u1 : Unit) =>
   wpX11_fault (fun (r4 : Int32) (u3 : Int32) =>
    (r2 = r4 →
     ∀ v5 : Int32, v5 = i + 6 →
     kk u (u3, v.2.1, v.2.2.1, v.2.2.2.1, v.2.2.2.2.1, v.2.2.2.2.2.1, v.2.2.2.2.2.2.1, v.2.2.2.2.2.2.2.1, v.2.2.2.2.2.2.2.2.1, v.2.2.2.2.2.2.2.2.2.1, v.2.2.2.2.2.2.2.2.2.2.1, v.2.2.2.2.2.2.2.2.2.2.2.1, v.2.2.2.2.2.2.2.2.2.2.2.2.1, v.2.2.2.2.2.2.2.2.2.2.2.2.2.1, v.2.2.2.2.2.2.2.2.2.2.2.2.2.2.1, v.2.2.2.2.2.2.2.2.2.2.2.2.2.2.2.1, v.2.2.2.2.2.2.2.2.2.2.2.2.2.2.2.2.1, v.2.2.2.2.2.2.2.2.2.2.2.2.2.2.2.2.2.1, v.2.2.2.2.2.2.2.2.2.2.2.2.2.2.2.2.2.2.1, v.2.2.2.2.2.2.2.2.2.2.2.2.2.2.2.2.2.2.2.1, v.2.2.2.2.2.2.2.2.2.2.2.2.2.2.2.2.2.2.2.2.1, v.2.2.2.2.2.2.2.2.2.2.2.2.2.2.2.2.2.2.2.2.2.1, v.2.2.2.2.2.2.2.2.2.2.2.2.2.2.2.2.2.2.2.2.2.2.1, v.2.2.2.2.2.2.2.2.2.2.2.2.2.2.2.2.2.2.2.2.2.2.2.1, v.2.2.2.2.2.2.2.2.2.2.2.2.2.2.2.2.2.2.2.2.2.2.2.2.1, v.2.2.2.2.2.2.2.2.2.2.2.2.2.2.2.2.2.2.2.2.2.2.2.2.2.1, v.2.2.2.2.2.2.2.2.2.2.2.2.2.2.2.2.2.2.2.2.2.2.2.2.2.2.1, v.2.2.2.2.2.2.2.2.2.2.2.2.2.2.2.2.2.2.2.2.2.2.2.2.2.2.2.1, v.2.2.2.2.2.2.2.2.2.2.2.2.2.2.2.2.2.2.2.2.2.2.2.2.2.2.2.2.1, v.2.2.2.2.2.2.2.2.2.2.2.2.2.2.2.2.2.2.2.2.2.2.2.2.2.2.2.2.2.1, v.2.2.2.2.2.2.2.2.2.2.2.2.2.2.2.2.2.2.2.2.2.2.2.2.2.2.2.2.2.2.1, v.2.2.2.2.2.2.2.2.2.2.2.2.2.2.2.2.2.2.2.2.2.2.2.2.2.2.2.2.2.2.2.1, v.2.2.2.2.2.2.2.2.2.2.2.2.2.2.2.2.2.2.2.2.2.2.2.2.2.2.2.2.2.2.2.2.1, v.2.2.2.2.2.2.2.2.2.2.2.2.2.2.2.2.2.2.2.2.2.2.2.2.2.2.2.2.2.2.2.2.2) o v5) ∧
    (¬ r2 = r4 →
     False)) v.2.2.2.2.2.2.2.2.2.2.2.2.2.1 v.1) u.2.2.2.2.2.2.2.2.2.2
def wpL_403 (L : Nat) (xs : Nat → Int32) (kk : tX10 → tX11 → (Nat → Int64) → Int32 → Prop) (u : tX10) (v : tX11) (o : Nat → Int64) (i : Int32) : Prop :=
  vp_in (i + 1) L ∧
  vp_in (i + 2) L ∧
  vp_in (i + 3) L ∧
  ((xs (i + 3).toNatClampNeg) = 0 →
   wpL_corner 1 (fun (r2 : Int32) (u1 : (Nat → Int64)) =>
    vp_in (i + 1) L ∧
    vp_in (i + 2) L ∧
    vp_in (i + 3) L ∧
    ((xs (i + 3).toNatClampNeg) = 0 →
     wpX11_corner (fun (r4 : Int32) (u3 : Int32) =>
      wpX11_thrown (fun (r6 : Int32) (u5 : Unit) =>
       (r6 = r2 →
        (¬ r2 = 0 →
         ∀ v7 : Int32, v7 = i + 6 →
         kk u (u3, v.2.1, v.2.2.1, v.2.2.2.1, v.2.2.2.2.1, v.2.2.2.2.2.1, v.2.2.2.2.2.2.1, v.2.2.2.2.2.2.2.1, v.2.2.2.2.2.2.2.2.1, v.2.2.2.2.2.2.2.2.2.1, v.2.2.2.2.2.2.2.2.2.2.1, v.2.2.2.2.2.2.2.2.2.2.2.1, v.2.2.2.2.2.2.2.2.2.2.2.2.1, v.2.2.2.2.2.2.2.2.2.2.2.2.2.1, v.2.2.2.2.2.2.2.2.2.2.2.2.2.2.1, v.2.2.2.2.2.2.2.2.2.2.2.2.2.2.2.1, v.2.2.2.2.2.2.2.2.2.2.2.2.2.2.2.2.1, v.2.2.2.2.2.2.2.2.2.2.2.2.2.2.2.2.2.1, v.2.2.2.2.2.2.2.2.2.2.2.2.2.2.2.2.2.2.1, v.2.2.2.2.2.2.2.2.2.2.2.2.2.2.2.2.2.2.2.1, v.2.2.2.2.2.2.2.2.2.2.2.2.2.2.2.2.2.2.2.2.1, v.2.2.2.2.2.2.2.2.2.2.2.2.2.2.2.2.2.2.2.2.2.1, v.2.2.2.2.2.2.2.2.2.2.2.2.2.2.2.2.2.2.2.2.2.2.1, v.2.2.2.2.2.2.2.2.2.2.2.2.2.2.2.2.2.2.2.2.2.2.2.1, v.2.2.2.2.2.2.2.2.2.2.2.2.2.2.2.2.2.2.2.2.2.2.2.2.1, v.2.2.2.2.2.2.2.2.2.2.2.2.2.2.2.2.2.2.2.2.2.2.2.2.2.1, v.2.2.2.2.2.2.2.2.2.2.2.2.2.2.2.2.2.2.2.2.2.2.2.2.2.2.1, v.2.2.2.2.2.2.2.2.2.2.2.2.2.2.2.2.2.2.2.2.2.2.2.2.2.2.2.1, v.2.2.2.2.2.2.2.2.2.2.2.2.2.2.2.2.2.2.2.2.2.2.2.2.2.2.2.2.1, v.2.2.2.2.2.2.2.2.2.2.2.2.2.2.2.2.2.2.2.2.2.2.2.2.2.2.2.2.2.1, v.2.2.2.2.2.2.2.2.2.2.2.2.2.2.2.2.2.2.2.2.2.2.2.2.2.2.2.2.2.2.1, v.2.2.2.2.2.2.2.2.2.2.2.2.2.2.2.2.2.2.2.2.2.2.2.2.2.2.2.2.2.2.2.1, v.2.2.2.2.2.2.2.2.2.2.2.2.2.2.2.2.2.2.2.2.2.2.2.2.2.2.2.2.2.2.2.2.1, v.2.2.2.2.2.2.2.2.2.2.2.2.2.2.2.2.2.2.2.2.2.2.2.2.2.2.2.2.2.2.2.2.2) u1 v7) ∧
        (r2 = 0 →
         vp_in 0 1 ∧
         ((lg_cmp (u1 (0 : Int32).toNatClampNeg) (r4.toInt64)) = 0 →
          ∀ v8 : Int32, v8 = i + 6 →
          kk u (u3, v.2.1, v.2.2.1, v.2.2.2.1, v.2.2.2.2.1, v.2.2.2.2.2.1, v.2.2.2.2.2.2.1, v.2.2.2.2.2.2.2.1, v.2.2.2.2.2.2.2.2.1, v.2.2.2.2.2.2.2.2.2.1, v.2.2.2.2.2.2.2.2.2.2.1, v.2.2.2.2.2.2.2.2.2.2.2.1, v.2.2.2.2.2.2.2.2.2.2.2.2.1, v.2.2.2.2.2.2.2.2.2.2.2.2.2.1, v.2.2.2.2.2.2.2.2.2.2.2.2.2.2.1, v.2.2.2.2.2.2.2.2.2.2.2.2.2.2.2.1, v.2.2.2.2.2.2.2.2.2.2.2.2.2.2.2.2.1, v.2.2.2.2.2.2.2.2.2.2.2.2.2.2.2.2.2.1, v.2.2.2.2.2.2.2.2.2.2.2.2.2.2.2.2.2.2.1, v.2.2.2.2.2.2.2.2.2.2.2.2.2.2.2.2.2.2.2.1, v.2.2.2.2.2.2.2.2.2.2.2.2.2.2.2.2.2.2.2.2.1, v.2.2.2.2.2.2.2.2.2.2.2.2.2.2.2.2.2.2.2.2.2.1, v.2.2.2.2.2.2.2.2.2.2.2.2.2.2.2.2.2.2.2.2.2.2.1, v.2.2.2.2.2.2.2.2.2.2.2.2.2.2.2.2.2.2.2.2.2.2.2.1, v.2.2.2.2.2.2.2.2.2.2.2.2.2.2.2.2.2.2.2.2.2.2.2.2.1, v.2.2.2.2.2.2.2.2.2.2.2.2.2.2.2.2.2.2.2.2.2.2.2.2.2.1, v.2.2.2.2.2.2.2.2.2.2.2.2.2.2.2.2.2.2.2.2.2.2.2.2.2.2.1, v.2.2.2.2.2.2.2.2.2.2.2.2.2.2.2.2.2.2.2.2.2.2.2.2.2.2.2.1, v.2.2.2.2.2.2.2.2.2.2.2.2.2.2.2.2.2.2.2.2.2.2.2.2.2.2.2.2.1, v.2.2.2.2.2.2.2.2.2.2.2.2.2.2.2.2.2.2.2.2.2.2.2.2.2.2.2.2.2.1, v.2.2.2.2.2.2.2.2.2.2.2.2.2.2.2.2.2.2.2.2.2.2.2.2.2.2.2.2.2.2.1, v.2.2.2.2.2.2.2.2.2.2.2.2.2.2.2.2.2.2.2.2.2.2.2.2.2.2.2.2.2.2.2.1, v.2.2.2.2.2.2.2.2.2.2.2.2.2.2.2.2.2.2.2.2.2.2.2.2.2.2.2.2.2.2.2.2.1, v.2.2.2.2.2.2.2.2.2.2.2.2.2.2.2.2.2.2.2.2.2.2.2.2.2.2.2.2.2.2.2.2.2) u1 v8) ∧
         (¬ (lg_cmp (u1 (0 : Int32).toNatClampNeg) (r4.toInt64)) = 0 →
          False))) ∧
       (¬ r6 = r2 →
        False)) u3) v.2.1 v.1 (xs (i + 1).toNatClampNeg) (xs (i + 2).toNatClampNeg) 0) ∧
    (¬ (xs (i + 3).toNatClampNeg) = 0 →
     wpX11_corner (fun (r10 : Int32) (u9 : Int32) =>
      wpX11_thrown (fun (r12 : Int32) (u11 : Unit) =>
       (r12 = r2 →
        (¬ r2 = 0 →
         ∀ v13 : Int32, v13 = i + 6 →
         kk u (u9, v.2.1, v.2.2.1, v.2.2.2.1, v.2.2.2.2.1, v.2.2.2.2.2.1, v.2.2.2.2.2.2.1, v.2.2.2.2.2.2.2.1, v.2.2.2.2.2.2.2.2.1, v.2.2.2.2.2.2.2.2.2.1, v.2.2.2.2.2.2.2.2.2.2.1, v.2.2.2.2.2.2.2.2.2.2.2.1, v.2.2.2.2.2.2.2.2.2.2.2.2.1, v.2.2.2.2.2.2.2.2.2.2.2.2.2.1, v.2.2.2.2.2.2.2.2.2.2.2.2.2.2.1, v.2.2.2.2.2.2.2.2.2.2.2.2.2.2.2.1, v.2.2.2.2.2.2.2.2.2.2.2.2.2.2.2.2.1, v.2.2.2.2.2.2.2.2.2.2.2.2.2.2.2.2.2.1, v.2.2.2.2.2.2.2.2.2.2.2.2.2.2.2.2.2.2.1, v.2.2.2.2.2.2.2.2.2.2.2.2.2.2.2.2.2.2.2.1, v.2.2.2.2.2.2.2.2.2.2.2.2.2.2.2.2.2.2.2.2.1, v.2.2.2.2.2.2.2.2.2.2.2.2.2.2.2.2.2.2.2.2.2.1, v.2.2.2.2.2.2.2.2.2.2.2.2.2.2.2.2.2.2.2.2.2.2.1, v.2.2.2.2.2.2.2.2.2.2.2.2.2.2.2.2.2.2.2.2.2.2.2.1, v.2.2.2.2.2.2.2.2.2.2.2.2.2.2.2.2.2.2.2.2.2.2.2.2.1, v.2.2.2.2.2.2.2.2.2.2.2.2.2.2.2.2.2.2.2.2.2.2.2.2.2.1, v.2.2.2.2.2.2.2.2.2.2.2.2.2.2.2.2.2.2.2.2.2.2.2.2.2.2.1, v.2.2.2.2.2.2.2.2.2.2.2.2.2.2.2.2.2.2.2.2.2.2.2.2.2.2.2.1, v.2.2.2.2.2.2.2.2.2.2.2.2.2.2.2.2.2.2.2.2.2.2.2.2.2.2.2.2.1, v.2.2.2.2.2.2.2.2.2.2.2.2.2.2.2.2.2.2.2.2.2.2.2.2.2.2.2.2.2.1, v.2.2.2.2.2.2.2.2.2.2.2.2.2.2.2.2.2.2.2.2.2.2.2.2.2.2.2.2.2.2.1, v.2.2.2.2.2.2.2.2.2.2.2.2.2.2.2.2.2.2.2.2.2.2.2.2.2.2.2.2.2.2.2.1, v.2.2.2.2.2.2.2.2.2.2.2.2.2.2.2.2.2.2.2.2.2.2.2.2.2.2.2.2.2.2.2.2.1, v.2.2.2.2.2.2.2.2.2.2.2.2.2.2.2.2.2.2.2.2.2.2.2.2.2.2.2.2.2.2.2.2.2) u1 v13) ∧
        (r2 = 0 →
         vp_in 0 1 ∧
         ((lg_cmp (u1 (0 : Int32).toNatClampNeg) (r10.toInt64)) = 0 →
          ∀ v14 : Int32, v14 = i + 6 →
          kk u (u9, v.2.1, v.2.2.1, v.2.2.2.1, v.2.2.2.2.1, v.2.2.2.2.2.1, v.2.2.2.2.2.2.1, v.2.2.2.2.2.2.2.1, v.2.2.2.2.2.2.2.2.1, v.2.2.2.2.2.2.2.2.2.1, v.2.2.2.2.2.2.2.2.2.2.1, v.2.2.2.2.2.2.2.2.2.2.2.1, v.2.2.2.2.2.2.2.2.2.2.2.2.1, v.2.2.2.2.2.2.2.2.2.2.2.2.2.1, v.2.2.2.2.2.2.2.2.2.2.2.2.2.2.1, v.2.2.2.2.2.2.2.2.2.2.2.2.2.2.2.1, v.2.2.2.2.2.2.2.2.2.2.2.2.2.2.2.2.1, v.2.2.2.2.2.2.2.2.2.2.2.2.2.2.2.2.2.1, v.2.2.2.2.2.2.2.2.2.2.2.2.2.2.2.2.2.2.1, v.2.2.2.2.2.2.2.2.2.2.2.2.2.2.2.2.2.2.2.1, v.2.2.2.2.2.2.2.2.2.2.2.2.2.2.2.2.2.2.2.2.1, v.2.2.2.2.2.2.2.2.2.2.2.2.2.2.2.2.2.2.2.2.2.1, v.2.2.2.2.2.2.2.2.2.2.2.2.2.2.2.2.2.2.2.2.2.2.1, v.2.2.2.2.2.2.2.2.2.2.2.2.2.2.2.2.2.2.2.2.2.2.2.1, v.2.2.2.2.2.2.2.2.2.2.2.2.2.2.2.2.2.2.2.2.2.2.2.2.1, v.2.2.2.2.2.2.2.2.2.2.2.2.2.2.2.2.2.2.2.2.2.2.2.2.2.1, v.2.2.2.2.2.2.2.2.2.2.2.2.2.2.2.2.2.2.2.2.2.2.2.2.2.2.1, v.2.2.2.2.2.2.2.2.2.2.2.2.2.2.2.2.2.2.2.2.2.2.2.2.2.2.2.1, v.2.2.2.2.2.2.2.2.2.2.2.2.2.2.2.2.2.2.2.2.2.2.2.2.2.2.2.2.1, v.2.2.2.2.2.2.2.2.2.2.2.2.2.2.2.2.2.2.2.2.2.2.2.2.2.2.2.2.2.1, v.2.2.2.2.2.2.2.2.2.2.2.2.2.2.2.2.2.2.2.2.2.2.2.2.2.2.2.2.2.2.1, v.2.2.2.2.2.2.2.2.2.2.2.2.2.2.2.2.2.2.2.2.2.2.2.2.2.2.2.2.2.2.2.1, v.2.2.2.2.2.2.2.2.2.2.2.2.2.2.2.2.2.2.2.2.2.2.2.2.2.2.2.2.2.2.2.2.1, v.2.2.2.2.2.2.2.2.2.2.2.2.2.2.2.2.2.2.2.2.2.2.2.2.2.2.2.2.2.2.2.2.2) u1 v14) ∧
         (¬ (lg_cmp (u1 (0 : Int32).toNatClampNeg) (r10.toInt64)) = 0 →
          False))) ∧
       (¬ r12 = r2 →
        False)) u9) v.2.1 v.1 (xs (i + 1).toNatClampNeg) (xs (i + 2).toNatClampNeg) 1)) u.2.1.1.2.2.2.2.1 u.2.1.1.2.2.1 u.2.1.1.2.1 u.2.1.1.1 o (xs (i + 1).toNatClampNeg) (xs (i + 2).toNatClampNeg) 0) ∧
  (¬ (xs (i + 3).toNatClampNeg) = 0 →
   wpL_corner 1 (fun (r16 : Int32) (u15 : (Nat → Int64)) =>
    vp_in (i + 1) L ∧
    vp_in (i + 2) L ∧
    vp_in (i + 3) L ∧
    ((xs (i + 3).toNatClampNeg) = 0 →
     wpX11_corner (fun (r18 : Int32) (u17 : Int32) =>
      wpX11_thrown (fun (r20 : Int32) (u19 : Unit) =>
       (r20 = r16 →
        (¬ r16 = 0 →
         ∀ v21 : Int32, v21 = i + 6 →
         kk u (u17, v.2.1, v.2.2.1, v.2.2.2.1, v.2.2.2.2.1, v.2.2.2.2.2.1, v.2.2.2.2.2.2.1, v.2.2.2.2.2.2.2.1, v.2.2.2.2.2.2.2.2.1, v.2.2.2.2.2.2.2.2.2.1, v.2.2.2.2.2.2.2.2.2.2.1, v.2.2.2.2.2.2.2.2.2.2.2.1, v.2.2.2.2.2.2.2.2.2.2.2.2.1, v.2.2.2.2.2.2.2.2.2.2.2.2.2.1, v.2.2.2.2.2.2.2.2.2.2.2.2.2.2.1, v.2.2.2.2.2.2.2.2.2.2.2.2.2.2.2.1, v.2.2.2.2.2.2.2.2.2.2.2.2.2.2.2.2.1, v.2.2.2.2.2.2.2.2.2.2.2.2.2.2.2.2.2.1, v.2.2.2.2.2.2.2.2.2.2.2.2.2.2.2.2.2.2.1, v.2.2.2.2.2.2.2.2.2.2.2.2.2.2.2.2.2.2.2.1, v.2.2.2.2.2.2.2.2.2.2.2.2.2.2.2.2.2.2.2.2.1, v.2.2.2.2.2.2.2.2.2.2.2.2.2.2.2.2.2.2.2.2.2.1, v.2.2.2.2.2.2.2.2.2.2.2.2.2.2.2.2.2.2.2.2.2.2.1, v.2.2.2.2.2.2.2.2.2.2.2.2.2.2.2.2.2.2.2.2.2.2.2.1, v.2.2.2.2.2.2.2.2.2.2.2.2.2.2.2.2.2.2.2.2.2.2.2.2.1, v.2.2.2.2.2.2.2.2.2.2.2.2.2.2.2.2.2.2.2.2.2.2.2.2.2.1, v.2.2.2.2.2.2.2.2.2.2.2.2.2.2.2.2.2.2.2.2.2.2.2.2.2.2.1, v.2.2.2.2.2.2.2.2.2.2.2.2.2.2.2.2.2.2.2.2.2.2.2.2.2.2.2.1, v.2.2.2.2.2.2.2.2.2.2.2.2.2.2.2.2.2.2.2.2.2.2.2.2.2.2.2.2.1, v.2.2.2.2.2.2.2.2.2.2.2.2.2.2.2.2.2.2.2.2.2.2.2.2.2.2.2.2.2.1, v.2.2.2.2.2.2.2.2.2.2.2.2.2.2.2.2.2.2.2.2.2.2.2.2.2.2.2.2.2.2.1, v.2.2.2.2.2.2.2.2.2.2.2.2.2.2.2.2.2.2.2.2.2.2.2.2.2.2.2.2.2.2.2.1, v.2.2.2.2.2.2.2.2.2.2.2.2.2.2.2.2.2.2.2.2.2.2.2.2.2.2.2.2.2.2.2.2.1, v.2.2.2.2.2.2.2.2.2.2.2.2.2.2.2.2.2.2.2.2.2.2.2.2.2.2.2.2.2.2.2.2.2) u15 v21) ∧
        (r16 = 0 →
         vp_in 0 1 ∧
         ((lg_cmp (u15 (0 : Int32).toNatClampNeg) (r18.toInt64)) = 0 →
          ∀ v22 : Int32, v22 = i + 6 →
          kk u (u17, v.2.1, v.2.2.1, v.2.2.2.1, v.2.2.2.2.1, v.2.2.2.2.2.1, v.2.2.2.2.2.2.1, v.2.2.2.2.2.2.2.1, v.2.2.2.2.2.2.2.2.1, v.2.2.2.2.2.2.2.2.2.1, v.2.2.2.2.2.2.2.2.2.2.1, v.2.2.2.2.2.2.2.2.2.2.2.1, v.2.2.2.2.2.2.2.2.2.2.2.2.1, v.2.2.2.2.2.2.2.2.2.2.2.2.2.1, v.2.2.2.2.2.2.2.2.2.2.2.2.2.2.1, v.2.2.2.2.2.2.2.2.2.2.2.2.2.2.2.1, v.2.2.2.2.2.2.2.2.2.2.2.2.2.2.2.2.1, v.2.2.2.2.2.2.2.2.2.2.2.2.2.2.2.2.2.1, v.2.2.2.2.2.2.2.2.2.2.2.2.2.2.2.2.2.2.1, v.2.2.2.2.2.2.2.2.2.2.2.2.2.2.2.2.2.2.2.1, v.2.2.2.2.2.2.2.2.2.2.2.2.2.2.2.2.2.2.2.2.1, v.2.2.2.2.2.2.2.2.2.2.2.2.2.2.2.2.2.2.2.2.2.1, v.2.2.2.2.2.2.2.2.2.2.2.2.2.2.2.2.2.2.2.2.2.2.1, v.2.2.2.2.2.2.2.2.2.2.2.2.2.2.2.2.2.2.2.2.2.2.2.1, v.2.2.2.2.2.2.2.2.2.2.2.2.2.2.2.2.2.2.2.2.2.2.2.2.1, v.2.2.2.2.2.2.2.2.2.2.2.2.2.2.2.2.2.2.2.2.2.2.2.2.2.1, v.2.2.2.2.2.2.2.2.2.2.2.2.2.2.2.2.2.2.2.2.2.2.2.2.2.2.1, v.2.2.2.2.2.2.2.2.2.2.2.2.2.2.2.2.2.2.2.2.2.2.2.2.2.2.2.1, v.2.2.2.2.2.2.2.2.2.2.2.2.2.2.2.2.2.2.2.2.2.2.2.2.2.2.2.2.1, v.2.2.2.2.2.2.2.2.2.2.2.2.2.2.2.2.2.2.2.2.2.2.2.2.2.2.2.2.2.1, v.2.2.2.2.2.2.2.2.2.2.2.2.2.2.2.2.2.2.2.2.2.2.2.2.2.2.2.2.2.2.1, v.2.2.2.2.2.2.2.2.2.2.2.2.2.2.2.2.2.2.2.2.2.2.2.2.2.2.2.2.2.2.2.1, v.2.2.2.2.2.2.2.2.2.2.2.2.2.2.2.2.2.2.2.2.2.2.2.2.2.2.2.2.2.2.2.2.1, v.2.2.2.2.2.2.2.2.2.2.2.2.2.2.2.2.2.2.2.2.2.2.2.2.2.2.2.2.2.2.2.2.2) u15 v22) ∧
         (¬ (lg_cmp (u15 (0 : Int32).toNatClampNeg) (r18.toInt64)) = 0 →
          False))) ∧
       (¬ r20 = r16 →
        False)) u17) v.2.1 v.1 (xs (i + 1).toNatClampNeg) (xs (i + 2).toNatClampNeg) 0) ∧
    (¬ (xs (i + 3).toNatClampNeg) = 0 →
     wpX11_corner (fun (r24 : Int32) (u23 : Int32) =>
      wpX11_thrown (fun (r26 : Int32) (u25 : Unit) =>
       (r26 = r16 →
        (¬ r16 = 0 →
         ∀ v27 : Int32, v27 = i + 6 →
         kk u (u23, v.2.1, v.2.2.1, v.2.2.2.1, v.2.2.2.2.1, v.2.2.2.2.2.1, v.2.2.2.2.2.2.1, v.2.2.2.2.2.2.2.1, v.2.2.2.2.2.2.2.2.1, v.2.2.2.2.2.2.2.2.2.1, v.2.2.2.2.2.2.2.2.2.2.1, v.2.2.2.2.2.2.2.2.2.2.2.1, v.2.2.2.2.2.2.2.2.2.2.2.2.1, v.2.2.2.2.2.2.2.2.2.2.2.2.2.1, v.2.2.2.2.2.2.2.2.2.2.2.2.2.2.1, v.2.2.2.2.2.2.2.2.2.2.2.2.2.2.2.1, v.2.2.2.2.2.2.2.2.2.2.2.2.2.2.2.2.1, v.2.2.2.2.2.2.2.2.2.2.2.2.2.2.2.2.2.1, v.2.2.2.2.2.2.2.2.2.2.2.2.2.2.2.2.2.2.1, v.2.2.2.2.2.2.2.2.2.2.2.2.2.2.2.2.2.2.2.1, v.2.2.2.2.2.2.2.2.2.2.2.2.2.2.2.2.2.2.2.2.1, v.2.2.2.2.2.2.2.2.2.2.2.2.2.2.2.2.2.2.2.2.2.1, v.2.2.2.2.2.2.2.2.2.2.2.2.2.2.2.2.2.2.2.2.2.2.1, v.2.2.2.2.2.2.2.2.2.2.2.2.2.2.2.2.2.2.2.2.2.2.2.1, v.2.2.2.2.2.2.2.2.2.2.2.2.2.2.2.2.2.2.2.2.2.2.2.2.1, v.2.2.2.2.2.2.2.2.2.2.2.2.2.2.2.2.2.2.2.2.2.2.2.2.2.1, v.2.2.2.2.2.2.2.2.2.2.2.2.2.2.2.2.2.2.2.2.2.2.2.2.2.2.1, v.2.2.2.2.2.2.2.2.2.2.2.2.2.2.2.2.2.2.2.2.2.2.2.2.2.2.2.1, v.2.2.2.2.2.2.2.2.2.2.2.2.2.2.2.2.2.2.2.2.2.2.2.2.2.2.2.2.1, v.2.2.2.2.2.2.2.2.2.2.2.2.2.2.2.2.2.2.2.2.2.2.2.2.2.2.2.2.2.1, v.2.2.2.2.2.2.2.2.2.2.2.2.2.2.2.2.2.2.2.2.2.2.2.2.2.2.2.2.2.2.1, v.2.2.2.2.2.2.2.2.2.2.2.2.2.2.2.2.2.2.2.2.2.2.2.2.2.2.2.2.2.2.2.1, v.2.2.2.2.2.2.2.2.2.2.2.2.2.2.2.2.2.2.2.2.2.2.2.2.2.2.2.2.2.2.2.2.1, v.2.2.2.2.2.2.2.2.2.2.2.2.2.2.2.2.2.2.2.2.2.2.2.2.2.2.2.2.2.2.2.2.2) u15 v27) ∧
        (r16 = 0 →
         vp_in 0 1 ∧
         ((lg_cmp (u15 (0 : Int32).toNatClampNeg) (r24.toInt64)) = 0 →
          ∀ v28 : Int32, v28 = i + 6 →
          kk u (u23, v.2.1, v.2.2.1, v.2.2.2.1, v.2.2.2.2.1, v.2.2.2.2.2.1, v.2.2.2.2.2.2.1, v.2.2.2.2.2.2.2.1, v.2.2.2.2.2.2.2.2.1, v.2.2.2.2.2.2.2.2.2.1, v.2.2.2.2.2.2.2.2.2.2.1, v.2.2.2.2.2.2.2.2.2.2.2.1, v.2.2.2.2.2.2.2.2.2.2.2.2.1, v.2.2.2.2.2.2.2.2.2.2.2.2.2.1, v.2.2.2.2.2.2.2.2.2.2.2.2.2.2.1, v.2.2.2.2.2.2.2.2.2.2.2.2.2.2.2.1, v.2.2.2.2.2.2.2.2.2.2.2.2.2.2.2.2.1, v.2.2.2.2.2.2.2.2.2.2.2.2.2.2.2.2.2.1, v.2.2.2.2.2.2.2.2.2.2.2.2.2.2.2.2.2.2.1, v.2.2.2.2.2.2.2.2.2.2.2.2.2.2.2.2.2.2.2.1, v.2.2.2.2.2.2.2.2.2.2.2.2.2.2.2.2.2.2.2.2.1, v.2.2.2.2.2.2.2.2.2.2.2.2.2.2.2.2.2.2.2.2.2.1, v.2.2.2.2.2.2.2.2.2.2.2.2.2.2.2.2.2.2.2.2.2.2.1, v.2.2.2.2.2.2.2.2.2.2.2.2.2.2.2.2.2.2.2.2.2.2.2.1, v.2.2.2.2.2.2.2.2.2.2.2.2.2.2.2.2.2.2.2.2.2.2.2.2.1, v.2.2.2.2.2.2.2.2.2.2.2.2.2.2.2.2.2.2.2.2.2.2.2.2.2.1, v.2.2.2.2.2.2.2.2.2.2.2.2.2.2.2.2.2.2.2.2.2.2.2.2.2.2.1, v.2.2.2.2.2.2.2.2.2.2.2.2.2.2.2.2.2.2.2.2.2.2.2.2.2.2.2.1, v.2.2.2.2.2.2.2.2.2.2.2.2.2.2.2.2.2.2.2.2.2.2.2.2.2.2.2.2.1, v.2.2.2.2.2.2.2.2.2.2.2.2.2.2.2.2.2.2.2.2.2.2.2.2.2.2.2.2.2.1, v.2.2.2.2.2.2.2.2.2.2.2.2.2.2.2.2.2.2.2.2.2.2.2.2.2.2.2.2.2.2.1, v.2.2.2.2.2.2.2.2.2.2.2.2.2.2.2.2.2.2.2.2.2.2.2.2.2.2.2.2.2.2.2.1, v.2.2.2.2.2.2.2.2.2.2.2.2.2.2.2.2.2.2.2.2.2.2.2.2.2.2.2.2.2.2.2.2.1, v.2.2.2.2.2.2.2.2.2.2.2.2.2.2.2.2.2.2.2.2.2.2.2.2.2.2.2.2.2.2.2.2.2) u15 v28) ∧
         (¬ (lg_cmp (u15 (0 : Int32).toNatClampNeg) (r24.toInt64)) = 0 →
          False))) ∧
       (¬ r26 = r16 →
        False)) u23) v.2.1 v.1 (xs (i + 1).toNatClampNeg) (xs (i + 2).toNatClampNeg) 1)) u.2.1.1.2.2.2.2.1 u.2.1.1.2.2.1 u.2.1.1.2.1 u.2.1.1.1 o (xs (i + 1).toNatClampNeg) (xs (i + 2).toNatClampNeg) 1)
def wpL_499 (L : Nat) (xs : Nat → Int32) (kk : tX10 → tX11 → (Nat → Int64) → Int32 → Prop) (u : tX10) (v : tX11) (o : Nat → Int64) (i : Int32) : Prop :=
  vp_in (i + 1) L ∧
  wpL_corners 1 (fun (r2 : Int32) (u1 : (Nat → Int64)) =>
   vp_in (i + 1) L ∧
   wpX11_corners (fun (r4 : Int32) (u3 : Int32) =>
    wpX11_thrown (fun (r6 : Int32) (u5 : Unit) =>
     (r6 = r2 →
      (¬ r2 = 0 →
       ∀ v7 : Int32, v7 = i + 6 →
       kk u (u3, v.2.1, v.2.2.1, v.2.2.2.1, v.2.2.2.2.1, v.2.2.2.2.2.1, v.2.2.2.2.2.2.1, v.2.2.2.2.2.2.2.1, v.2.2.2.2.2.2.2.2.1, v.2.2.2.2.2.2.2.2.2.1, v.2.2.2.2.2.2.2.2.2.2.1, v.2.2.2.2.2.2.2.2.2.2.2.1, v.2.2.2.2.2.2.2.2.2.2.2.2.1, v.2.2.2.2.2.2.2.2.2.2.2.2.2.1, v.2.2.2.2.2.2.2.2.2.2.2.2.2.2.1, v.2.2.2.2.2.2.2.2.2.2.2.2.2.2.2.1, v.2.2.2.2.2.2.2.2.2.2.2.2.2.2.2.2.1, v.2.2.2.2.2.2.2.2.2.2.2.2.2.2.2.2.2.1, v.2.2.2.2.2.2.2.2.2.2.2.2.2.2.2.2.2.2.1, v.2.2.2.2.2.2.2.2.2.2.2.2.2.2.2.2.2.2.2.1, v.2.2.2.2.2.2.2.2.2.2.2.2.2.2.2.2.2.2.2.2.1, v.2.2.2.2.2.2.2.2.2.2.2.2.2.2.2.2.2.2.2.2.2.1, v.2.2.2.2.2.2.2.2.2.2.2.2.2.2.2.2.2.2.2.2.2.2.1, v.2.2.2.2.2.2.2.2.2.2.2.2.2.2.2.2.2.2.2.2.2.2.2.1, v.2.2.2.2.2.2.2.2.2.2.2.2.2.2.2.2.2.2.2.2.2.2.2.2.1, v.2.2.2.2.2.2.2.2.2.2.2.2.2.2.2.2.2.2.2.2.2.2.2.2.2.1, v.2.2.2.2.2.2.2.2.2.2.2.2.2.2.2.2.2.2.2.2.2.2.2.2.2.2.1, v.2.2.2.2.2.2.2.2.2.2.2.2.2.2.2.2.2.2.2.2.2.2.2.2.2.2.2.1, v.2.2.2.2.2.2.2.2.2.2.2.2.2.2.2.2.2.2.2.2.2.2.2.2.2.2.2.2.1, v.2.2.2.2.2.2.2.2.2.2.2.2.2.2.2.2.2.2.2.2.2.2.2.2.2.2.2.2.2.1, v.2.2.2.2.2.2.2.2.2.2.2.2.2.2.2.2.2.2.2.2.2.2.2.2.2.2.2.2.2.2.1, v.2.2.2.2.2.2.2.2.2.2.2.2.2.2.2.2.2.2.2.2.2.2.2.2.2.2.2.2.2.2.2.1, v.2.2.2.2.2.2.2.2.2.2.2.2.2.2.2.2.2.2.2.2.2.2.2.2.2.2.2.2.2.2.2.2.1, v.2.2.2.2.2.2.2.2.2.2.2.2.2.2.2.2.2.2.2.2.2.2.2.2.2.2.2.2.2.2.2.2.2) u1 v7) ∧
      (r2 = 0 →
       vp_in 0 1 ∧
       ((lg_cmp (u1 (0 : Int32).toNatClampNeg) (r4.toInt64)) = 0 →
        ∀ v8 : Int32, v8 = i + 6 →
        kk u (u3, v.2.1, v.2.2.1, v.2.2.2.1, v.2.2.2.2.1, v.2.2.2.2.2.1, v.2.2.2.2.2.2.1, v.2.2.2.2.2.2.2.1, v.2.2.2.2.2.2.2.2.1, v.2.2.2.2.2.2.2.2.2.1, v.2.2.2.2.2.2.2.2.2.2.1, v.2.2.2.2.2.2.2.2.2.2.2.1, v.2.2.2.2.2.2.2.2.2.2.2.2.1, v.2.2.2.2.2.2.2.2.2.2.2.2.2.1, v.2.2.2.2.2.2.2.2.2.2.2.2.2.2.1, v.2.2.2.2.2.2.2.2.2.2.2.2.2.2.2.1, v.2.2.2.2.2.2.2.2.2.2.2.2.2.2.2.2.1, v.2.2.2.2.2.2.2.2.2.2.2.2.2.2.2.2.2.1, v.2.2.2.2.2.2.2.2.2.2.2.2.2.2.2.2.2.2.1, v.2.2.2.2.2.2.2.2.2.2.2.2.2.2.2.2.2.2.2.1, v.2.2.2.2.2.2.2.2.2.2.2.2.2.2.2.2.2.2.2.2.1, v.2.2.2.2.2.2.2.2.2.2.2.2.2.2.2.2.2.2.2.2.2.1, v.2.2.2.2.2.2.2.2.2.2.2.2.2.2.2.2.2.2.2.2.2.2.1, v.2.2.2.2.2.2.2.2.2.2.2.2.2.2.2.2.2.2.2.2.2.2.2.1, v.2.2.2.2.2.2.2.2.2.2.2.2.2.2.2.2.2.2.2.2.2.2.2.2.1, v.2.2.2.2.2.2.2.2.2.2.2.2.2.2.2.2.2.2.2.2.2.2.2.2.2.1, v.2.2.2.2.2.2.2.2.2.2.2.2.2.2.2.2.2.2.2.2.2.2.2.2.2.2.1, v.2.2.2.2.2.2.2.2.2.2.2.2.2.2.2.2.2.2.2.2.2.2.2.2.2.2.2.1, v.2.2.2.2.2.2.2.2.2.2.2.2.2.2.2.2.2.2.2.2.2.2.2.2.2.2.2.2.1, v.2.2.2.2.2.2.2.2.2.2.2.2.2.2.2.2.2.2.2.2.2.2.2.2.2.2.2.2.2.1, v.2.2.2.2.2.2.2.2.2.2.2.2.2.2.2.2.2.2.2.2.2.2.2.2.2.2.2.2.2.2.1, v.2.2.2.2.2.2.2.2.2.2.2.2.2.2.2.2.2.2.2.2.2.2.2.2.2.2.2.2.2.2.2.1, v.2.2.2.2.2.2.2.2.2.2.2.2.2.2.2.2.2.2.2.2.2.2.2.2.2.2.2.2.2.2.2.2.1, v.2.2.2.2.2.2.2.2.2.2.2.2.2.2.2.2.2.2.2.2.2.2.2.2.2.2.2.2.2.2.2.2.2) u1 v8) ∧
       (¬ (lg_cmp (u1 (0 : Int32).toNatClampNeg) (r4.toInt64)) = 0 →
        False))) ∧
     (¬ r6 = r2 →
      False)) u3) v.2.1 v.1 (xs (i + 1).toNatClampNeg)) u.2.1.1.2.2.2.2.1 u.2.1.1.2.2.1 o (xs (i + 1).toNatClampNeg)
def wpL_555 (L : Nat) (xs : Nat → Int32) (kk : tX10 → tX11 → (Nat → Int64) → Int32 → Prop) (u : tX10) (v : tX11) (o : Nat → Int64) (i : Int32) : Prop :=
  vp_in (i + 1) L ∧
  vp_in (i + 2) L ∧
  vp_in (i + 3) L ∧
  vp_in (i + 4) L ∧
  wpL_far 1 (fun (r2 : Int32) (u1 : (Nat → Int64)) =>
   vp_in (i + 1) L ∧
   vp_in (i + 2) L ∧
   vp_in (i + 3) L ∧
   vp_in (i + 4) L ∧
   wpX11_far (fun (r4 : Int32) (u3 : Int32) =>
    wpX11_thrown (fun (r6 : Int32) (u5 : Unit) =>
     (r6 = r2 →
      (¬ r2 = 0 →
       ∀ v7 : Int32, v7 = i + 6 →
       kk u (u3, v.2.1, v.2.2.1, v.2.2.2.1, v.2.2.2.2.1, v.2.2.2.2.2.1, v.2.2.2.2.2.2.1, v.2.2.2.2.2.2.2.1, v.2.2.2.2.2.2.2.2.1, v.2.2.2.2.2.2.2.2.2.1, v.2.2.2.2.2.2.2.2.2.2.1, v.2.2.2.2.2.2.2.2.2.2.2.1, v.2.2.2.2.2.2.2.2.2.2.2.2.1, v.2.2.2.2.2.2.2.2.2.2.2.2.2.1, v.2.2.2.2.2.2.2.2.2.2.2.2.2.2.1, v.2.2.2.2.2.2.2.2.2.2.2.2.2.2.2.1, v.2.2.2.2.2.2.2.2.2.2.2.2.2.2.2.2.1, v.2.2.2.2.2.2.2.2.2.2.2.2.2.2.2.2.2.1, v.2.2.2.2.2.2.2.2.2.2.2.2.2.2.2.2.2.2.1, v.2.2.2.2.2.2.2.2.2.2.2.2.2.2.2.2.2.2.2.1, v.2.2.2.2.2.2.2.2.2.2.2.2.2.2.2.2.2.2.2.2.1, v.2.2.2.2.2.2.2.2.2.2.2.2.2.2.2.2.2.2.2.2.2.1, v.2.2.2.2.2.2.2.2.2.2.2.2.2.2.2.2.2.2.2.2.2.2.1, v.2.2.2.2.2.2.2.2.2.2.2.2.2.2.2.2.2.2.2.2.2.2.2.1, v.2.2.2.2.2.2.2.2.2.2.2.2.2.2.2.2.2.2.2.2.2.2.2.2.1, v.2.2.2.2.2.2.2.2.2.2.2.2.2.2.2.2.2.2.2.2.2.2.2.2.2.1, v.2.2.2.2.2.2.2.2.2.2.2.2.2.2.2.2.2.2.2.2.2.2.2.2.2.2.1, v.2.2.2.2.2.2.2.2.2.2.2.2.2.2.2.2.2.2.2.2.2.2.2.2.2.2.2.1, v.2.2.2.2.2.2.2.2.2.2.2.2.2.2.2.2.2.2.2.2.2.2.2.2.2.2.2.2.1, v.2.2.2.2.2.2.2.2.2.2.2.2.2.2.2.2.2.2.2.2.2.2.2.2.2.2.2.2.2.1, v.2.2.2.2.2.2.2.2.2.2.2.2.2.2.2.2.2.2.2.2.2.2.2.2.2.2.2.2.2.2.1, v.2.2.2.2.2.2.2.2.2.2.2.2.2.2.2.2.2.2.2.2.2.2.2.2.2.2.2.2.2.2.2.1, v.2.2.2.2.2.2.2.2.2.2.2.2.2.2.2.2.2.2.2.2.2.2.2.2.2.2.2.2.2.2.2.2.1, v.2.2.2.2.2.2.2.2.2.2.2.2.2.2.2.2.2.2.2.2.2.2.2.2.2.2.2.2.2.2.2.2.2) u1 v7) ∧
      (r2 = 0 →
       vp_in 0 1 ∧
       ((lg_cmp (u1 (0 : Int32).toNatClampNeg) (r4.toInt64)) = 0 →
        ∀ v8 : Int32, v8 = i + 6 →
        kk u (u3, v.2.1, v.2.2.1, v.2.2.2.1, v.2.2.2.2.1, v.2.2.2.2.2.1, v.2.2.2.2.2.2.1, v.2.2.2.2.2.2.2.1, v.2.2.2.2.2.2.2.2.1, v.2.2.2.2.2.2.2.2.2.1, v.2.2.2.2.2.2.2.2.2.2.1, v.2.2.2.2.2.2.2.2.2.2.2.1, v.2.2.2.2.2.2.2.2.2.2.2.2.1, v.2.2.2.2.2.2.2.2.2.2.2.2.2.1, v.2.2.2.2.2.2.2.2.2.2.2.2.2.2.1, v.2.2.2.2.2.2.2.2.2.2.2.2.2.2.2.1, v.2.2.2.2.2.2.2.2.2.2.2.2.2.2.2.2.1, v.2.2.2.2.2.2.2.2.2.2.2.2.2.2.2.2.2.1, v.2.2.2.2.2.2.2.2.2.2.2.2.2.2.2.2.2.2.1, v.2.2.2.2.2.2.2.2.2.2.2.2.2.2.2.2.2.2.2.1, v.2.2.2.2.2.2.2.2.2.2.2.2.2.2.2.2.2.2.2.2.1, v.2.2.2.2.2.2.2.2.2.2.2.2.2.2.2.2.2.2.2.2.2.1, v.2.2.2.2.2.2.2.2.2.2.2.2.2.2.2.2.2.2.2.2.2.2.1, v.2.2.2.2.2.2.2.2.2.2.2.2.2.2.2.2.2.2.2.2.2.2.2.1, v.2.2.2.2.2.2.2.2.2.2.2.2.2.2.2.2.2.2.2.2.2.2.2.2.1, v.2.2.2.2.2.2.2.2.2.2.2.2.2.2.2.2.2.2.2.2.2.2.2.2.2.1, v.2.2.2.2.2.2.2.2.2.2.2.2.2.2.2.2.2.2.2.2.2.2.2.2.2.2.1, v.2.2.2.2.2.2.2.2.2.2.2.2.2.2.2.2.2.2.2.2.2.2.2.2.2.2.2.1, v.2.2.2.2.2.2.2.2.2.2.2.2.2.2.2.2.2.2.2.2.2.2.2.2.2.2.2.2.1, v.2.2.2.2.2.2.2.2.2.2.2.2.2.2.2.2.2.2.2.2.2.2.2.2.2.2.2.2.2.1, v.2.2.2.2.2.2.2.2.2.2.2.2.2.2.2.2.2.2.2.2.2.2.2.2.2.2.2.2.2.2.1, v.2.2.2.2.2.2.2.2.2.2.2.2.2.2.2.2.2.2.2.2.2.2.2.2.2.2.2.2.2.2.2.1, v.2.2.2.2.2.2.2.2.2.2.2.2.2.2.2.2.2.2.2.2.2.2.2.2.2.2.2.2.2.2.2.2.1, v.2.2.2.2.2.2.2.2.2.2.2.2.2.2.2.2.2.2.2.2.2.2.2.2.2.2.2.2.2.2.2.2.2) u1 v8) ∧
       (¬ (lg_cmp (u1 (0 : Int32).toNatClampNeg) (r4.toInt64)) = 0 →
        False))) ∧
     (¬ r6 = r2 →
      False)) u3) v.2.1 v.1 (xs (i + 1).toNatClampNeg) (xs (i + 2).toNatClampNeg) (xs (i + 3).toNatClampNeg) (xs (i + 4).toNatClampNeg)) u.2.1.1.2.2.2.2.1 u.2.1.1.2.2.1 u.2.1.1.1 u.2.1.1.2.1 o (xs (i + 1).toNatClampNeg) (xs (i + 2).toNatClampNeg) (xs (i + 3).toNatClampNeg) (xs (i + 4).toNatClampNeg)
def wpL_647 (L : Nat) (xs : Nat → Int32) (kk : tX10 → tX11 → (Nat → Int64) → Int32 → Prop) (u : tX10) (v : tX11) (o : Nat → Int64) (i : Int32) : Prop :=
  vp_in (i + 1) L ∧
  vp_in (i + 2) L ∧
  vp_in (i + 3) L ∧
  vp_in (i + 4) L ∧
  wpL_shut 1 (fun (r2 : Int32) (u1 : (Nat → Int32) × (Nat → Int64)) =>
   vp_in (i + 1) L ∧
   vp_in (i + 2) L ∧
   vp_in (i + 3) L ∧
   vp_in (i + 4) L ∧
   wpX11_shut (fun (r4 : Int32) (u3 : Int32 × (Nat → Int32)) =>
    wpX11_thrown (fun (r6 : Int32) (u5 : Unit) =>
     (r6 = r2 →
      (¬ r2 = 0 →
       ∀ v7 : Int32, v7 = i + 6 →
       kk (u.1, (u.2.1.1, (u.2.1.2.1.1, u1.1, u.2.1.2.1.2.2.1, u.2.1.2.1.2.2.2), u.2.1.2.2.1, u.2.1.2.2.2.1, u.2.1.2.2.2.2), u.2.2.1, u.2.2.2.1, u.2.2.2.2.1, u.2.2.2.2.2.1, u.2.2.2.2.2.2.1, u.2.2.2.2.2.2.2.1, u.2.2.2.2.2.2.2.2.1, u.2.2.2.2.2.2.2.2.2.1, u.2.2.2.2.2.2.2.2.2.2) (u3.1, v.2.1, v.2.2.1, v.2.2.2.1, v.2.2.2.2.1, v.2.2.2.2.2.1, v.2.2.2.2.2.2.1, v.2.2.2.2.2.2.2.1, v.2.2.2.2.2.2.2.2.1, v.2.2.2.2.2.2.2.2.2.1, v.2.2.2.2.2.2.2.2.2.2.1, v.2.2.2.2.2.2.2.2.2.2.2.1, v.2.2.2.2.2.2.2.2.2.2.2.2.1, v.2.2.2.2.2.2.2.2.2.2.2.2.2.1, v.2.2.2.2.2.2.2.2.2.2.2.2.2.2.1, v.2.2.2.2.2.2.2.2.2.2.2.2.2.2.2.1, u3.2, v.2.2.2.2.2.2.2.2.2.2.2.2.2.2.2.2.2.1, v.2.2.2.2.2.2.2.2.2.2.2.2.2.2.2.2.2.2.1, v.2.2.2.2.2.2.2.2.2.2.2.2.2.2.2.2.2.2.2.1, v.2.2.2.2.2.2.2.2.2.2.2.2.2.2.2.2.2.2.2.2.1, v.2.2.2.2.2.2.2.2.2.2.2.2.2.2.2.2.2.2.2.2.2.1, v.2.2.2.2.2.2.2.2.2.2.2.2.2.2.2.2.2.2.2.2.2.2.1, v.2.2.2.2.2.2.2.2.2.2.2.2.2.2.2.2.2.2.2.2.2.2.2.1, v.2.2.2.2.2.2.2.2.2.2.2.2.2.2.2.2.2.2.2.2.2.2.2.2.1, v.2.2.2.2.2.2.2.2.2.2.2.2.2.2.2.2.2.2.2.2.2.2.2.2.2.1, v.2.2.2.2.2.2.2.2.2.2.2.2.2.2.2.2.2.2.2.2.2.2.2.2.2.2.1, v.2.2.2.2.2.2.2.2.2.2.2.2.2.2.2.2.2.2.2.2.2.2.2.2.2.2.2.1, v.2.2.2.2.2.2.2.2.2.2.2.2.2.2.2.2.2.2.2.2.2.2.2.2.2.2.2.2.1, v.2.2.2.2.2.2.2.2.2.2.2.2.2.2.2.2.2.2.2.2.2.2.2.2.2.2.2.2.2.1, v.2.2.2.2.2.2.2.2.2.2.2.2.2.2.2.2.2.2.2.2.2.2.2.2.2.2.2.2.2.2.1, v.2.2.2.2.2.2.2.2.2.2.2.2.2.2.2.2.2.2.2.2.2.2.2.2.2.2.2.2.2.2.2.1, v.2.2.2.2.2.2.2.2.2.2.2.2.2.2.2.2.2.2.2.2.2.2.2.2.2.2.2.2.2.2.2.2.1, v.2.2.2.2.2.2.2.2.2.2.2.2.2.2.2.2.2.2.2.2.2.2.2.2.2.2.2.2.2.2.2.2.2) u1.2 v7) ∧
      (r2 = 0 →
       vp_in 0 1 ∧
       (r4 = 0 →
        ((lg_cmp (u1.2 (0 : Int32).toNatClampNeg) 0) = 0 →
         ∀ v8 : Int32, v8 = i + 6 →
         kk (u.1, (u.2.1.1, (u.2.1.2.1.1, u1.1, u.2.1.2.1.2.2.1, u.2.1.2.1.2.2.2), u.2.1.2.2.1, u.2.1.2.2.2.1, u.2.1.2.2.2.2), u.2.2.1, u.2.2.2.1, u.2.2.2.2.1, u.2.2.2.2.2.1, u.2.2.2.2.2.2.1, u.2.2.2.2.2.2.2.1, u.2.2.2.2.2.2.2.2.1, u.2.2.2.2.2.2.2.2.2.1, u.2.2.2.2.2.2.2.2.2.2) (u3.1, v.2.1, v.2.2.1, v.2.2.2.1, v.2.2.2.2.1, v.2.2.2.2.2.1, v.2.2.2.2.2.2.1, v.2.2.2.2.2.2.2.1, v.2.2.2.2.2.2.2.2.1, v.2.2.2.2.2.2.2.2.2.1, v.2.2.2.2.2.2.2.2.2.2.1, v.2.2.2.2.2.2.2.2.2.2.2.1, v.2.2.2.2.2.2.2.2.2.2.2.2.1, v.2.2.2.2.2.2.2.2.2.2.2.2.2.1, v.2.2.2.2.2.2.2.2.2.2.2.2.2.2.1, v.2.2.2.2.2.2.2.2.2.2.2.2.2.2.2.1, u3.2, v.2.2.2.2.2.2.2.2.2.2.2.2.2.2.2.2.2.1, v.2.2.2.2.2.2.2.2.2.2.2.2.2.2.2.2.2.2.1, v.2.2.2.2.2.2.2.2.2.2.2.2.2.2.2.2.2.2.2.1, v.2.2.2.2.2.2.2.2.2.2.2.2.2.2.2.2.2.2.2.2.1, v.2.2.2.2.2.2.2.2.2.2.2.2.2.2.2.2.2.2.2.2.2.1, v.2.2.2.2.2.2.2.2.2.2.2.2.2.2.2.2.2.2.2.2.2.2.1, v.2.2.2.2.2.2.2.2.2.2.2.2.2.2.2.2.2.2.2.2.2.2.2.1, v.2.2.2.2.2.2.2.2.2.2.2.2.2.2.2.2.2.2.2.2.2.2.2.2.1, v.2.2.2.2.2.2.2.2.2.2.2.2.2.2.2.2.2.2.2.2.2.2.2.2.2.1, v.2.2.2.2.2.2.2.2.2.2.2.2.2.2.2.2.2.2.2.2.2.2.2.2.2.2.1, v.2.2.2.2.2.2.2.2.2.2.2.2.2.2.2.2.2.2.2.2.2.2.2.2.2.2.2.1, v.2.2.2.2.2.2.2.2.2.2.2.2.2.2.2.2.2.2.2.2.2.2.2.2.2.2.2.2.1, v.2.2.2.2.2.2.2.2.2.2.2.2.2.2.2.2.2.2.2.2.2.2.2.2.2.2.2.2.2.1, v.2.2.2.2.2.2.2.2.2.2.2.2.2.2.2.2.2.2.2.2.2.2.2.2.2.2.2.2.2.2.1, v.2.2.2.2.2.2.2.2.2.2.2.2.2.2.2.2.2.2.2.2.2.2.2.2.2.2.2.2.2.2.2.1, v.2.2.2.2.2.2.2.2.2.2.2.2.2.2.2.2.2.2.2.2.2.2.2.2.2.2.2.2.2.2.2.2.1, v.2.2.2.2.2.2.2.2.2.2.2.2.2.2.2.2.2.2.2.2.2.2.2.2.2.2.2.2.2.2.2.2.2) u1.2 v8) ∧
        (¬ (lg_cmp (u1.2 (0 : Int32).toNatClampNeg) 0) = 0 →
         False)) ∧
       (¬ r4 = 0 →
        ((lg_cmp (u1.2 (0 : Int32).toNatClampNeg) 1) = 0 →
         ∀ v9 : Int32, v9 = i + 6 →
         kk (u.1, (u.2.1.1, (u.2.1.2.1.1, u1.1, u.2.1.2.1.2.2.1, u.2.1.2.1.2.2.2), u.2.1.2.2.1, u.2.1.2.2.2.1, u.2.1.2.2.2.2), u.2.2.1, u.2.2.2.1, u.2.2.2.2.1, u.2.2.2.2.2.1, u.2.2.2.2.2.2.1, u.2.2.2.2.2.2.2.1, u.2.2.2.2.2.2.2.2.1, u.2.2.2.2.2.2.2.2.2.1, u.2.2.2.2.2.2.2.2.2.2) (u3.1, v.2.1, v.2.2.1, v.2.2.2.1, v.2.2.2.2.1, v.2.2.2.2.2.1, v.2.2.2.2.2.2.1, v.2.2.2.2.2.2.2.1, v.2.2.2.2.2.2.2.2.1, v.2.2.2.2.2.2.2.2.2.1, v.2.2.2.2.2.2.2.2.2.2.1, v.2.2.2.2.2.2.2.2.2.2.2.1, v.2.2.2.2.2.2.2.2.2.2.2.2.1, v.2.2.2.2.2.2.2.2.2.2.2.2.2.1, v.2.2.2.2.2.2.2.2.2.2.2.2.2.2.1, v.2.2.2.2.2.2.2.2.2.2.2.2.2.2.2.1, u3.2, v.2.2.2.2.2.2.2.2.2.2.2.2.2.2.2.2.2.1, v.2.2.2.2.2.2.2.2.2.2.2.2.2.2.2.2.2.2.1, v.2.2.2.2.2.2.2.2.2.2.2.2.2.2.2.2.2.2.2.1, v.2.2.2.2.2.2.2.2.2.2.2.2.2.2.2.2.2.2.2.2.1, v.2.2.2.2.2.2.2.2.2.2.2.2.2.2.2.2.2.2.2.2.2.1, v.2.2.2.2.2.2.2.2.2.2.2.2.2.2.2.2.2.2.2.2.2.2.1, v.2.2.2.2.2.2.2.2.2.2.2.2.2.2.2.2.2.2.2.2.2.2.2.1, v.2.2.2.2.2.2.2.2.2.2.2.2.2.2.2.2.2.2.2.2.2.2.2.2.1, v.2.2.2.2.2.2.2.2.2.2.2.2.2.2.2.2.2.2.2.2.2.2.2.2.2.1, v.2.2.2.2.2.2.2.2.2.2.2.2.2.2.2.2.2.2.2.2.2.2.2.2.2.2.1, v.2.2.2.2.2.2.2.2.2.2.2.2.2.2.2.2.2.2.2.2.2.2.2.2.2.2.2.1, v.2.2.2.2.2.2.2.2.2.2.2.2.2.2.2.2.2.2.2.2.2.2.2.2.2.2.2.2.1, v.2.2.2.2.2.2.2.2.2.2.2.2.2.2.2.2.2.2.2.2.2.2.2.2.2.2.2.2.2.1, v.2.2.2.2.2.2.2.2.2.2.2.2.2.2.2.2.2.2.2.2.2.2.2.2.2.2.2.2.2.2.1, v.2.2.2.2.2.2.2.2.2.2.2.2.2.2.2.2.2.2.2.2.2.2.2.2.2.2.2.2.2.2.2.1, v.2.2.2.2.2.2.2.2.2.2.2.2.2.2.2.2.2.2.2.2.2.2.2.2.2.2.2.2.2.2.2.2.1, v.2.2.2.2.2.2.2.2.2.2.2.2.2.2.2.2.2.2.2.2.2.2.2.2.2.2.2.2.2.2.2.2.2) u1.2 v9) ∧
        (¬ (lg_cmp (u1.2 (0 : Int32).toNatClampNeg) 1) = 0 →
         False)))) ∧
     (¬ r6 = r2 →
      False)) u3.1) v.2.1 v.1 v.2.2.2.2.2.2.2.2.2.2.2.2.2.2.2.2.1 (xs (i + 1).toNatClampNeg) (xs (i + 2).toNatClampNeg) (xs (i + 3).toNatClampNeg) (xs (i + 4).toNatClampNeg)) u.2.1.1.2.2.2.2.1 u.2.1.1.2.2.2.2.2.1 u.2.1.1.2.2.1 u.2.1.1.1 u.2.1.1.2.1 u.2.1.1.2.2.2.1 u.2.1.2.1.2.2.1 u.2.1.2.1.1 u.2.1.2.1.2.1 o (xs (i + 1).toNatClampNeg) (xs (i + 2).toNatClampNeg) (xs (i + 3).toNatClampNeg) (xs (i + 4).toNatClampNeg)
def wpL_746 (L : Nat) (xs : Nat → Int32) (kk : tX10 → tX11 → (Nat → Int64) → Int32 → Prop) (u : tX10) (v : tX11) (o : Nat → Int64) (i : Int32) : Prop :=
  vp_in (i + 1) L ∧
  vp_in (i + 2) L ∧
  wpL_least 1 (fun (r2 : Int32) (u1 : (Nat → Int32) × Int32 × Int32 × (Nat → Int32) × (Nat → Int32) × (Nat → Int64)) =>
   vp_in (i + 1) L ∧
   vp_in (i + 2) L ∧
   wpX11_least (fun (r4 : Int32) (u3 : Int32 × Int32 × Int32 × (Nat → Int32) × (Nat → Int32) × (Nat → Int32)) =>
    wpX11_thrown (fun (r6 : Int32) (u5 : Unit) =>
     (r6 = r2 →
      (¬ r2 = 0 →
       ∀ v7 : Int32, v7 = i + 6 →
       kk (u.1, (u.2.1.1, (u.2.1.2.1.1, u1.1, u.2.1.2.1.2.2.1, u.2.1.2.1.2.2.2), u.2.1.2.2.1, u.2.1.2.2.2.1, u.2.1.2.2.2.2), u.2.2.1, u.2.2.2.1, u.2.2.2.2.1, (u1.2.2.2.1, u1.2.2.2.2.1, u1.2.1, u1.2.2.1), u.2.2.2.2.2.2.1, u.2.2.2.2.2.2.2.1, u.2.2.2.2.2.2.2.2.1, u.2.2.2.2.2.2.2.2.2.1, u.2.2.2.2.2.2.2.2.2.2) (u3.1, v.2.1, v.2.2.1, v.2.2.2.1, v.2.2.2.2.1, v.2.2.2.2.2.1, v.2.2.2.2.2.2.1, v.2.2.2.2.2.2.2.1, v.2.2.2.2.2.2.2.2.1, v.2.2.2.2.2.2.2.2.2.1, v.2.2.2.2.2.2.2.2.2.2.1, v.2.2.2.2.2.2.2.2.2.2.2.1, v.2.2.2.2.2.2.2.2.2.2.2.2.1, v.2.2.2.2.2.2.2.2.2.2.2.2.2.1, v.2.2.2.2.2.2.2.2.2.2.2.2.2.2.1, v.2.2.2.2.2.2.2.2.2.2.2.2.2.2.2.1, u3.2.2.2.1, u3.2.2.2.2.1, u3.2.1, u3.2.2.1, u3.2.2.2.2.2, v.2.2.2.2.2.2.2.2.2.2.2.2.2.2.2.2.2.2.2.2.2.1, v.2.2.2.2.2.2.2.2.2.2.2.2.2.2.2.2.2.2.2.2.2.2.1, v.2.2.2.2.2.2.2.2.2.2.2.2.2.2.2.2.2.2.2.2.2.2.2.1, v.2.2.2.2.2.2.2.2.2.2.2.2.2.2.2.2.2.2.2.2.2.2.2.2.1, v.2.2.2.2.2.2.2.2.2.2.2.2.2.2.2.2.2.2.2.2.2.2.2.2.2.1, v.2.2.2.2.2.2.2.2.2.2.2.2.2.2.2.2.2.2.2.2.2.2.2.2.2.2.1, v.2.2.2.2.2.2.2.2.2.2.2.2.2.2.2.2.2.2.2.2.2.2.2.2.2.2.2.1, v.2.2.2.2.2.2.2.2.2.2.2.2.2.2.2.2.2.2.2.2.2.2.2.2.2.2.2.2.1, v.2.2.2.2.2.2.2.2.2.2.2.2.2.2.2.2.2.2.2.2.2.2.2.2.2.2.2.2.2.1, v.2.2.2.2.2.2.2.2.2.2.2.2.2.2.2.2.2.2.2.2.2.2.2.2.2.2.2.2.2.2.1, v.2.2.2.2.2.2.2.2.2.2.2.2.2.2.2.2.2.2.2.2.2.2.2.2.2.2.2.2.2.2.2.1, v.2.2.2.2.2.2.2.2.2.2.2.2.2.2.2.2.2.2.2.2.2.2.2.2.2.2.2.2.2.2.2.2.1, v.2.2.2.2.2.2.2.2.2.2.2.2.2.2.2.2.2.2.2.2.2.2.2.2.2.2.2.2.2.2.2.2.2) u1.2.2.2.2.2 v7) ∧
      (r2 = 0 →
       vp_in 0 1 ∧
       ((lg_cmp (u1.2.2.2.2.2 (0 : Int32).toNatClampNeg) (r4.toInt64)) = 0 →
        ∀ v8 : Int32, v8 = i + 6 →
        kk (u.1, (u.2.1.1, (u.2.1.2.1.1, u1.1, u.2.1.2.1.2.2.1, u.2.1.2.1.2.2.2), u.2.1.2.2.1, u.2.1.2.2.2.1, u.2.1.2.2.2.2), u.2.2.1, u.2.2.2.1, u.2.2.2.2.1, (u1.2.2.2.1, u1.2.2.2.2.1, u1.2.1, u1.2.2.1), u.2.2.2.2.2.2.1, u.2.2.2.2.2.2.2.1, u.2.2.2.2.2.2.2.2.1, u.2.2.2.2.2.2.2.2.2.1, u.2.2.2.2.2.2.2.2.2.2) (u3.1, v.2.1, v.2.2.1, v.2.2.2.1, v.2.2.2.2.1, v.2.2.2.2.2.1, v.2.2.2.2.2.2.1, v.2.2.2.2.2.2.2.1, v.2.2.2.2.2.2.2.2.1, v.2.2.2.2.2.2.2.2.2.1, v.2.2.2.2.2.2.2.2.2.2.1, v.2.2.2.2.2.2.2.2.2.2.2.1, v.2.2.2.2.2.2.2.2.2.2.2.2.1, v.2.2.2.2.2.2.2.2.2.2.2.2.2.1, v.2.2.2.2.2.2.2.2.2.2.2.2.2.2.1, v.2.2.2.2.2.2.2.2.2.2.2.2.2.2.2.1, u3.2.2.2.1, u3.2.2.2.2.1, u3.2.1, u3.2.2.1, u3.2.2.2.2.2, v.2.2.2.2.2.2.2.2.2.2.2.2.2.2.2.2.2.2.2.2.2.1, v.2.2.2.2.2.2.2.2.2.2.2.2.2.2.2.2.2.2.2.2.2.2.1, v.2.2.2.2.2.2.2.2.2.2.2.2.2.2.2.2.2.2.2.2.2.2.2.1, v.2.2.2.2.2.2.2.2.2.2.2.2.2.2.2.2.2.2.2.2.2.2.2.2.1, v.2.2.2.2.2.2.2.2.2.2.2.2.2.2.2.2.2.2.2.2.2.2.2.2.2.1, v.2.2.2.2.2.2.2.2.2.2.2.2.2.2.2.2.2.2.2.2.2.2.2.2.2.2.1, v.2.2.2.2.2.2.2.2.2.2.2.2.2.2.2.2.2.2.2.2.2.2.2.2.2.2.2.1, v.2.2.2.2.2.2.2.2.2.2.2.2.2.2.2.2.2.2.2.2.2.2.2.2.2.2.2.2.1, v.2.2.2.2.2.2.2.2.2.2.2.2.2.2.2.2.2.2.2.2.2.2.2.2.2.2.2.2.2.1, v.2.2.2.2.2.2.2.2.2.2.2.2.2.2.2.2.2.2.2.2.2.2.2.2.2.2.2.2.2.2.1, v.2.2.2.2.2.2.2.2.2.2.2.2.2.2.2.2.2.2.2.2.2.2.2.2.2.2.2.2.2.2.2.1, v.2.2.2.2.2.2.2.2.2.2.2.2.2.2.2.2.2.2.2.2.2.2.2.2.2.2.2.2.2.2.2.2.1, v.2.2.2.2.2.2.2.2.2.2.2.2.2.2.2.2.2.2.2.2.2.2.2.2.2.2.2.2.2.2.2.2.2) u1.2.2.2.2.2 v8) ∧
       (¬ (lg_cmp (u1.2.2.2.2.2 (0 : Int32).toNatClampNeg) (r4.toInt64)) = 0 →
        False))) ∧
     (¬ r6 = r2 →
      False)) u3.1) v.2.1 v.1 v.2.2.2.2.2.2.2.2.2.2.2.2.2.2.2.2.2.2.1 v.2.2.2.2.2.2.2.2.2.2.2.2.2.2.2.2.2.2.2.1 v.2.2.2.2.2.2.2.2.2.2.2.2.2.2.2.2.1 v.2.2.2.2.2.2.2.2.2.2.2.2.2.2.2.2.2.1 v.2.2.2.2.2.2.2.2.2.2.2.2.2.2.2.2.2.2.2.2.1 (xs (i + 1).toNatClampNeg) (xs (i + 2).toNatClampNeg)) u.2.1.1.2.2.2.2.1 u.2.1.1.2.2.2.2.2.1 u.2.1.1.2.2.1 u.2.1.1.1 u.2.1.1.2.1 u.2.1.1.2.2.2.1 u.2.1.2.1.2.2.1 u.2.1.2.1.1 u.2.1.2.1.2.1 u.2.2.2.2.2.1.2.2.1 u.2.2.2.2.2.1.2.2.2 u.2.2.2.2.2.1.1 u.2.2.2.2.2.1.2.1 o (xs (i + 1).toNatClampNeg) (xs (i + 2).toNatClampNeg)
def wpL_814 (L : Nat) (xs : Nat → Int32) (kk : tX10 → tX11 → (Nat → Int64) → Int32 → Prop) (u : tX10) (v : tX11) (o : Nat → Int64) (i : Int32) : Prop :=
  vp_in (i + 1) L ∧
  vp_in (i + 2) L ∧
  vp_in (i + 3) L ∧
  wpL_first 1 (fun (r2 : Int32) (u1 : (Nat → Int32) × Int32 × Int32 × (Nat → Int32) × (Nat → Int32) × (Nat → Int64)) =>
   vp_in (i + 1) L ∧
   vp_in (i + 2) L ∧
   vp_in (i + 3) L ∧
   wpX11_first (fun (r4 : Int32) (u3 : Int32 × Int32 × Int32 × (Nat → Int32) × (Nat → Int32) × (Nat → Int32) × (Nat → Int32) × (Nat → Int32)) =>
    wpX11_thrown (fun (r6 : Int32) (u5 : Unit) =>
     (r6 = r2 →
      (¬ r2 = 0 →
       ∀ v7 : Int32, v7 = i + 6 →
       kk (u.1, (u.2.1.1, (u.2.1.2.1.1, u1.1, u.2.1.2.1.2.2.1, u.2.1.2.1.2.2.2), u.2.1.2.2.1, u.2.1.2.2.2.1, u.2.1.2.2.2.2), u.2.2.1, u.2.2.2.1, u.2.2.2.2.1, (u1.2.2.2.1, u1.2.2.2.2.1, u1.2.1, u1.2.2.1), u.2.2.2.2.2.2.1, u.2.2.2.2.2.2.2.1, u.2.2.2.2.2.2.2.2.1, u.2.2.2.2.2.2.2.2.2.1, u.2.2.2.2.2.2.2.2.2.2) (u3.1, v.2.1, v.2.2.1, v.2.2.2.1, v.2.2.2.2.1, v.2.2.2.2.2.1, v.2.2.2.2.2.2.1, v.2.2.2.2.2.2.2.1, v.2.2.2.2.2.2.2.2.1, v.2.2.2.2.2.2.2.2.2.1, v.2.2.2.2.2.2.2.2.2.2.1, v.2.2.2.2.2.2.2.2.2.2.2.1, v.2.2.2.2.2.2.2.2.2.2.2.2.1, v.2.2.2.2.2.2.2.2.2.2.2.2.2.1, v.2.2.2.2.2.2.2.2.2.2.2.2.2.2.1, v.2.2.2.2.2.2.2.2.2.2.2.2.2.2.2.1, u3.2.2.2.1, u3.2.2.2.2.1, u3.2.1, u3.2.2.1, u3.2.2.2.2.2.1, u3.2.2.2.2.2.2.2, u3.2.2.2.2.2.2.1, v.2.2.2.2.2.2.2.2.2.2.2.2.2.2.2.2.2.2.2.2.2.2.2.1, v.2.2.2.2.2.2.2.2.2.2.2.2.2.2.2.2.2.2.2.2.2.2.2.2.1, v.2.2.2.2.2.2.2.2.2.2.2.2.2.2.2.2.2.2.2.2.2.2.2.2.2.1, v.2.2.2.2.2.2.2.2.2.2.2.2.2.2.2.2.2.2.2.2.2.2.2.2.2.2.1, v.2.2.2.2.2.2.2.2.2.2.2.2.2.2.2.2.2.2.2.2.2.2.2.2.2.2.2.1, v.2.2.2.2.2.2.2.2.2.2.2.2.2.2.2.2.2.2.2.2.2.2.2.2.2.2.2.2.1, v.2.2.2.2.2.2.2.2.2.2.2.2.2.2.2.2.2.2.2.2.2.2.2.2.2.2.2.2.2.1, v.2.2.2.2.2.2.2.2.2.2.2.2.2.2.2.2.2.2.2.2.2.2.2.2.2.2.2.2.2.2.1, v.2.2.2.2.2.2.2.2.2.2.2.2.2.2.2.2.2.2.2.2.2.2.2.2.2.2.2.2.2.2.2.1, v.2.2.2.2.2.2.2.2.2.2.2.2.2.2.2.2.2.2.2.2.2.2.2.2.2.2.2.2.2.2.2.2.1, v.2.2.2.2.2.2.2.2.2.2.2.2.2.2.2.2.2.2.2.2.2.2.2.2.2.2.2.2.2.2.2.2.2) u1.2.2.2.2.2 v7) ∧
      (r2 = 0 →
       vp_in 0 1 ∧
       ((lg_cmp (u1.2.2.2.2.2 (0 : Int32).toNatClampNeg) (r4.toInt64)) = 0 →
        ∀ v8 : Int32, v8 = i + 6 →
        kk (u.1, (u.2.1.1, (u.2.1.2.1.1, u1.1, u.2.1.2.1.2.2.1, u.2.1.2.1.2.2.2), u.2.1.2.2.1, u.2.1.2.2.2.1, u.2.1.2.2.2.2), u.2.2.1, u.2.2.2.1, u.2.2.2.2.1, (u1.2.2.2.1, u1.2.2.2.2.1, u1.2.1, u1.2.2.1), u.2.2.2.2.2.2.1, u.2.2.2.2.2.2.2.1, u.2.2.2.2.2.2.2.2.1, u.2.2.2.2.2.2.2.2.2.1, u.2.2.2.2.2.2.2.2.2.2) (u3.1, v.2.1, v.2.2.1, v.2.2.2.1, v.2.2.2.2.1, v.2.2.2.2.2.1, v.2.2.2.2.2.2.1, v.2.2.2.2.2.2.2.1, v.2.2.2.2.2.2.2.2.1, v.2.2.2.2.2.2.2.2.2.1, v.2.2.2.2.2.2.2.2.2.2.1, v.2.2.2.2.2.2.2.2.2.2.2.1, v.2.2.2.2.2.2.2.2.2.2.2.2.1, v.2.2.2.2.2.2.2.2.2.2.2.2.2.1, v.2.2.2.2.2.2.2.2.2.2.2.2.2.2.1, v.2.2.2.2.2.2.2.2.2.2.2.2.2.2.2.1, u3.2.2.2.1, u3.2.2.2.2.1, u3.2.1, u3.2.2.1, u3.2.2.2.2.2.1, u3.2.2.2.2.2.2.2, u3.2.2.2.2.2.2.1, v.2.2.2.2.2.2.2.2.2.2.2.2.2.2.2.2.2.2.2.2.2.2.2.1, v.2.2.2.2.2.2.2.2.2.2.2.2.2.2.2.2.2.2.2.2.2.2.2.2.1, v.2.2.2.2.2.2.2.2.2.2.2.2.2.2.2.2.2.2.2.2.2.2.2.2.2.1, v.2.2.2.2.2.2.2.2.2.2.2.2.2.2.2.2.2.2.2.2.2.2.2.2.2.2.1, v.2.2.2.2.2.2.2.2.2.2.2.2.2.2.2.2.2.2.2.2.2.2.2.2.2.2.2.1, v.2.2.2.2.2.2.2.2.2.2.2.2.2.2.2.2.2.2.2.2.2.2.2.2.2.2.2.2.1, v.2.2.2.2.2.2.2.2.2.2.2.2.2.2.2.2.2.2.2.2.2.2.2.2.2.2.2.2.2.1, v.2.2.2.2.2.2.2.2.2.2.2.2.2.2.2.2.2.2.2.2.2.2.2.2.2.2.2.2.2.2.1, v.2.2.2.2.2.2.2.2.2.2.2.2.2.2.2.2.2.2.2.2.2.2.2.2.2.2.2.2.2.2.2.1, v.2.2.2.2.2.2.2.2.2.2.2.2.2.2.2.2.2.2.2.2.2.2.2.2.2.2.2.2.2.2.2.2.1, v.2.2.2.2.2.2.2.2.2.2.2.2.2.2.2.2.2.2.2.2.2.2.2.2.2.2.2.2.2.2.2.2.2) u1.2.2.2.2.2 v8) ∧
       (¬ (lg_cmp (u1.2.2.2.2.2 (0 : Int32).toNatClampNeg) (r4.toInt64)) = 0 →
        False))) ∧
     (¬ r6 = r2 →
      False)) u3.1) v.2.1 v.1 v.2.2.2.2.2.2.2.2.2.2.2.2.2.2.2.2.2.2.1 v.2.2.2.2.2.2.2.2.2.2.2.2.2.2.2.2.2.2.2.1 v.2.2.2.2.2.2.2.2.2.2.2.2.2.2.2.2.1 v.2.2.2.2.2.2.2.2.2.2.2.2.2.2.2.2.2.1 v.2.2.2.2.2.2.2.2.2.2.2.2.2.2.2.2.2.2.2.2.1 v.2.2.2.2.2.2.2.2.2.2.2.2.2.2.2.2.2.2.2.2.2.2.1 v.2.2.2.2.2.2.2.2.2.2.2.2.2.2.2.2.2.2.2.2.2.1 (xs (i + 1).toNatClampNeg) (xs (i + 2).toNatClampNeg) (xs (i + 3).toNatClampNeg)) u.2.1.1.2.2.2.2.1 u.2.1.1.2.2.2.2.2.1 u.2.1.1.2.2.1 u.2.1.1.1 u.2.1.1.2.1 u.2.1.1.2.2.2.1 u.2.1.2.1.2.2.1 u.2.1.2.1.1 u.2.1.2.1.2.1 u.2.2.2.2.2.1.2.2.1 u.2.2.2.2.2.1.2.2.2 u.2.2.2.2.2.1.1 u.2.2.2.2.2.1.2.1 o (xs (i + 1).toNatClampNeg) (xs (i + 2).toNatClampNeg) (xs (i + 3).toNatClampNeg)
