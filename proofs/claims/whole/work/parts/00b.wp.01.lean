def wpX0_leastGoingBack_85 (k73 : (Nat → Int32) → Int32 → Int32 → Int32 → Prop) (k53 : (Nat → Int32) → Int32 → Int32 → Prop) (post : Int32 → ((Nat → Int32)) → Prop) (g0_rows : Int32) (g0_columns : Int32) (f2 : Nat → Int32) : Nat → (Nat → Int32) → Int32 → Int32 → Int32 → Int32 → Prop
  | 0, _, _, _, _, _ => False
  | n_85 + 1, f1, x1, x2, x3, x4 =>
    (x4 < 0 →
     ∀ v1 : Int32, v1 = x3 + (-1) →
     k73 f1 x1 x2 v1) ∧
    (¬ x4 < 0 →
     wpX0_cell (fun (r3 : Int32) (u2 : Unit) =>
      wpX0_improve (fun (r5 : Int32) (u4 : (Nat → Int32)) =>
       ∀ v6 : Int32, v6 = x1 ||| r5 →
       ∀ v7 : Int32, v7 = x4 + (-1) →
       wpX0_leastGoingBack_85 k73 k53 post g0_rows g0_columns f2 n_85 u4 v6 x2 x3 v7) f2 f1 r3) x3 x4)
def wpX0_leastGoingBack_73 (k53 : (Nat → Int32) → Int32 → Int32 → Prop) (post : Int32 → ((Nat → Int32)) → Prop) (g0_rows : Int32) (g0_columns : Int32) (f2 : Nat → Int32) : Nat → (Nat → Int32) → Int32 → Int32 → Int32 → Prop
  | 0, _, _, _, _ => False
  | n_73 + 1, f1, x1, x2, x3 =>
    (x3 < 0 →
     ∃ n_117 : Nat, wpX0_leastGoingBack_117 k53 post g0_rows g0_columns f2 n_117 f1 x1 x2 0) ∧
    (¬ x3 < 0 →
     ∀ v1 : Int32, v1 = g0_columns - 1 →
     ∃ n_85 : Nat, wpX0_leastGoingBack_85 (fun y0 y1 y2 y3 => wpX0_leastGoingBack_73 k53 post g0_rows g0_columns f2 n_73 y0 y1 y2 y3) k53 post g0_rows g0_columns f2 n_85 f1 x1 x2 x3 v1)
def wpX0_leastGoingBack_53 (post : Int32 → ((Nat → Int32)) → Prop) (g0_rows : Int32) (g0_columns : Int32) (f2 : Nat → Int32) : Nat → (Nat → Int32) → Int32 → Int32 → Prop
  | 0, _, _, _ => False
  | n_53 + 1, f1, x1, x2 =>
    (x1 = 0 →
     wpX0_leastGoingBack_168 post g0_rows g0_columns f2 f1) ∧
    (¬ x1 = 0 →
     (900 ≤ x2 →
      wpX0_leastGoingBack_168 post g0_rows g0_columns f2 f1) ∧
     (¬ 900 ≤ x2 →
      ∀ v1 : Int32, v1 = g0_rows - 1 →
      ∃ n_73 : Nat, wpX0_leastGoingBack_73 (fun y0 y1 y2 => wpX0_leastGoingBack_53 post g0_rows g0_columns f2 n_53 y0 y1 y2) post g0_rows g0_columns f2 n_73 f1 0 x2 v1))
def wpX0_leastGoingBack (post : Int32 → ((Nat → Int32)) → Prop) (g0_rows : Int32) (g0_columns : Int32) (f2 : Nat → Int32) (f1 : Nat → Int32) : Prop :=
  wpJ7_fill_53178 1089 (fun (u1 : (Nat → Int32)) =>
   wpX0_cell (fun (r3 : Int32) (u2 : Unit) =>
    wpX0_cell (fun (r5 : Int32) (u4 : Unit) =>
     vp_in r5 1089 ∧
     vp_in r3 1089 ∧
     ∃ n_53 : Nat, wpX0_leastGoingBack_53 post g0_rows g0_columns f2 n_53 (upd u1 r3.toNatClampNeg (f2 r5.toNatClampNeg)) 1 0) (g0_rows - 1) (g0_columns - 1)) (g0_rows - 1) (g0_columns - 1)) f1 2147483647
def wpX10_orNone (post : Int32 → Unit → Prop) (p0 : Int32) : Prop :=
  (¬ p0 = 2147483647 →
   post p0 ()) ∧
  (p0 = 2147483647 →
   post (-1) ())
def wpX0_leastRound_82 (k48 : (Nat → Int32) → Int32 → Int32 → Int32 → Int32 → Int32 → Int32 → Prop) (post : Int32 → ((Nat → Int32)) → Prop) (g0_rows : Int32) (g0_columns : Int32) (f2 : Nat → Int32) (f1 : Nat → Int32) (x1 : Int32) (x2 : Int32) (x3 : Int32) (x4 : Int32) (x5 : Int32) (x6 : Int32) : Prop :=
  ∀ v1 : Int32, v1 = x6 + 1 →
  k48 f1 x1 x2 x3 x4 x5 v1
def wpX0_leastRound_48 (post : Int32 → ((Nat → Int32)) → Prop) (g0_rows : Int32) (g0_columns : Int32) (f2 : Nat → Int32) : Nat → (Nat → Int32) → Int32 → Int32 → Int32 → Int32 → Int32 → Int32 → Prop
  | 0, _, _, _, _, _, _, _ => False
  | n_48 + 1, f1, x1, x2, x3, x4, x5, x6 =>
    (g0_columns ≤ x6 →
     (x1 = 0 →
      wpX10_orNone (fun (r2 : Int32) (u1 : Unit) =>
       post r2 (f1)) x4) ∧
     (¬ x1 = 0 →
      post x5 (f1))) ∧
    (¬ g0_columns ≤ x6 →
     wpX0_settle (fun (r4 : Int32) (u3 : (Nat → Int32)) =>
      (x4 ≤ r4 →
       wpX0_leastRound_82 (fun y0 y1 y2 y3 y4 y5 y6 => wpX0_leastRound_48 post g0_rows g0_columns f2 n_48 y0 y1 y2 y3 y4 y5 y6) post g0_rows g0_columns f2 u3 x1 x2 x3 x4 x5 x6) ∧
      (¬ x4 ≤ r4 →
       wpX0_leastRound_82 (fun y0 y1 y2 y3 y4 y5 y6 => wpX0_leastRound_48 post g0_rows g0_columns f2 n_48 y0 y1 y2 y3 y4 y5 y6) post g0_rows g0_columns f2 u3 x1 x2 x3 r4 x6 x6)) g0_rows g0_columns f2 f1 x2 x3 x6)
def wpX0_leastRound_37 (post : Int32 → ((Nat → Int32)) → Prop) (g0_rows : Int32) (g0_columns : Int32) (f2 : Nat → Int32) (f1 : Nat → Int32) (x1 : Int32) (x2 : Int32) (s0 : Int32) : Prop :=
  ∃ n_48 : Nat, wpX0_leastRound_48 post g0_rows g0_columns f2 n_48 f1 x1 x2 s0 2147483647 (-1) 0
def wpX0_leastRound_18 (post : Int32 → ((Nat → Int32)) → Prop) (g0_rows : Int32) (g0_columns : Int32) (f2 : Nat → Int32) (f1 : Nat → Int32) (x1 : Int32) (s0 : Int32) : Prop :=
  (¬ g0_columns = 1 →
   wpX0_leastRound_37 post g0_rows g0_columns f2 f1 x1 s0 (g0_columns + 1)) ∧
  (g0_columns = 1 →
   wpX0_leastRound_37 post g0_rows g0_columns f2 f1 x1 s0 1)
def wpX0_leastRound (post : Int32 → ((Nat → Int32)) → Prop) (g0_rows : Int32) (g0_columns : Int32) (f2 : Nat → Int32) (f1 : Nat → Int32) (p0 : Int32) : Prop :=
  (¬ g0_rows = 1 →
   wpX0_leastRound_18 post g0_rows g0_columns f2 f1 p0 (g0_rows + 1)) ∧
  (g0_rows = 1 →
   wpX0_leastRound_18 post g0_rows g0_columns f2 f1 p0 1)
def wpX4_measureBetween_55 (k15 : (Nat → Int32) → Int32 → Int32 → Int32 → Int32 → Int32 → Prop) (k3 : (Nat → Int32) → Int32 → Int32 → Int32 → Int32 → Prop) (post : ((Nat → Int32)) → Prop) (g0_ones : Int32) (g0_others : Int32) (f3 : Nat → Int32) (f4 : Nat → Int32) (f1 : Nat → Int32) (x2 : Int32) (x3 : Int32) (x4 : Int32) (x5 : Int32) (x6 : Int32) (s1 : Int32) (s2 : Int32) : Prop :=
  vp_in s1 900 ∧
  ∀ v1 : Int32, v1 = x6 + 1 →
  k15 (upd f1 s1.toNatClampNeg s2) x2 x3 x4 x5 v1
def wpX4_measureBetween_15 (k3 : (Nat → Int32) → Int32 → Int32 → Int32 → Int32 → Prop) (post : ((Nat → Int32)) → Prop) (g0_ones : Int32) (g0_others : Int32) (f3 : Nat → Int32) (f4 : Nat → Int32) : Nat → (Nat → Int32) → Int32 → Int32 → Int32 → Int32 → Int32 → Prop
  | 0, _, _, _, _, _, _ => False
  | n_15 + 1, f1, x2, x3, x4, x5, x6 =>
    (g0_others ≤ x6 →
     ∀ v1 : Int32, v1 = x5 + 1 →
     k3 f1 x2 x3 x4 v1) ∧
    (¬ g0_others ≤ x6 →
     (x4 = 0 →
      wpX4_measureBetween_55 (fun y0 y1 y2 y3 y4 y5 => wpX4_measureBetween_15 k3 post g0_ones g0_others f3 f4 n_15 y0 y1 y2 y3 y4 y5) k3 post g0_ones g0_others f3 f4 f1 x2 x3 x4 x5 x6 ((x5 * 30) + x6) 0) ∧
     (¬ x4 = 0 →
      wpX1_distance (fun (r3 : Int32) (u2 : Unit) =>
       wpX4_measureBetween_55 (fun y0 y1 y2 y3 y4 y5 => wpX4_measureBetween_15 k3 post g0_ones g0_others f3 f4 n_15 y0 y1 y2 y3 y4 y5) k3 post g0_ones g0_others f3 f4 f1 x2 x3 x4 x5 x6 ((x5 * 30) + x6) r3) f3 f4 x2 x5 x3 x6))
def wpX4_measureBetween_3 (post : ((Nat → Int32)) → Prop) (g0_ones : Int32) (g0_others : Int32) (f3 : Nat → Int32) (f4 : Nat → Int32) : Nat → (Nat → Int32) → Int32 → Int32 → Int32 → Int32 → Prop
  | 0, _, _, _, _, _ => False
  | n_3 + 1, f1, x2, x3, x4, x5 =>
    (g0_ones ≤ x5 →
     post (f1)) ∧
    (¬ g0_ones ≤ x5 →
     ∃ n_15 : Nat, wpX4_measureBetween_15 (fun y0 y1 y2 y3 y4 => wpX4_measureBetween_3 post g0_ones g0_others f3 f4 n_3 y0 y1 y2 y3 y4) post g0_ones g0_others f3 f4 n_15 f1 x2 x3 x4 x5 0)
def wpX4_measureBetween (post : ((Nat → Int32)) → Prop) (g0_ones : Int32) (g0_others : Int32) (f3 : Nat → Int32) (f4 : Nat → Int32) (f1 : Nat → Int32) (p1 : Int32) (p2 : Int32) (p3 : Int32) : Prop :=
  ∃ n_3 : Nat, wpX4_measureBetween_3 post g0_ones g0_others f3 f4 n_3 f1 p1 p2 p3 0
def wpX4_measure_67 (n9 : Nat) (k3 : (Nat → Int32) → (Nat → Int32) → Int32 → Int32 → Int32 → Int32 → Int32 → Prop) (post : ((Nat → Int32) × (Nat → Int32)) → Prop) (g1_wallCount : Int32) (f2 : Nat → Int32) (f3 : Nat → Int32) (f4 : Nat → Int32) (f5 : Nat → Int32) (g6_size : Int32) (f8 : Nat → Int32) (f7 : Nat → Int32) (f9 : Nat → Int32) (x1 : Int32) (x2 : Int32) (x3 : Int32) (x5 : Int32) (x6 : Int32) (s1 : Int32) (s2 : Int32) : Prop :=
  vp_in s1 n9 ∧
  ∀ v1 : Int32, v1 = x6 + 1 →
  k3 f7 (upd f9 s1.toNatClampNeg s2) x1 x2 x3 x5 v1
def wpX4_measure_39 (n9 : Nat) (k3 : (Nat → Int32) → (Nat → Int32) → Int32 → Int32 → Int32 → Int32 → Int32 → Prop) (post : ((Nat → Int32) × (Nat → Int32)) → Prop) (g1_wallCount : Int32) (f2 : Nat → Int32) (f3 : Nat → Int32) (f4 : Nat → Int32) (f5 : Nat → Int32) (g6_size : Int32) (f8 : Nat → Int32) (f7 : Nat → Int32) (f9 : Nat → Int32) (x1 : Int32) (x2 : Int32) (x3 : Int32) (x5 : Int32) (x6 : Int32) (s0 : Int32) : Prop :=
  (s0 = 0 →
   wpX1_distance (fun (r2 : Int32) (u1 : Unit) =>
    wpX4_measure_67 n9 k3 post g1_wallCount f2 f3 f4 f5 g6_size f8 f7 f9 x1 x2 x3 x5 x6 x6 r2) f3 f4 x1 x2 x3 x6) ∧
  (¬ s0 = 0 →
   wpX4_measure_67 n9 k3 post g1_wallCount f2 f3 f4 f5 g6_size f8 f7 f9 x1 x2 x3 x5 x6 x6 2147483647)
def wpX4_measure_38 (n9 : Nat) (k3 : (Nat → Int32) → (Nat → Int32) → Int32 → Int32 → Int32 → Int32 → Int32 → Prop) (post : ((Nat → Int32) × (Nat → Int32)) → Prop) (g1_wallCount : Int32) (f2 : Nat → Int32) (f3 : Nat → Int32) (f4 : Nat → Int32) (f5 : Nat → Int32) (g6_size : Int32) (f8 : Nat → Int32) (f7 : Nat → Int32) (f9 : Nat → Int32) (x1 : Int32) (x2 : Int32) (x3 : Int32) (x5 : Int32) (x6 : Int32) : Prop :=
  wpX4_measure_39 n9 k3 post g1_wallCount f2 f3 f4 f5 g6_size f8 f7 f9 x1 x2 x3 x5 x6 0
def wpX4_measure_3 (n9 : Nat) (post : ((Nat → Int32) × (Nat → Int32)) → Prop) (g1_wallCount : Int32) (f2 : Nat → Int32) (f3 : Nat → Int32) (f4 : Nat → Int32) (f5 : Nat → Int32) (g6_size : Int32) (f8 : Nat → Int32) : Nat → (Nat → Int32) → (Nat → Int32) → Int32 → Int32 → Int32 → Int32 → Int32 → Prop
  | 0, _, _, _, _, _, _, _ => False
  | n_3 + 1, f7, f9, x1, x2, x3, x5, x6 =>
    vp_in x3 12 ∧
    ((f2 x3.toNatClampNeg) ≤ x6 →
     post (f7, f9)) ∧
    (¬ (f2 x3.toNatClampNeg) ≤ x6 →
     (¬ x5 = 0 →
      wpX4_measure_38 n9 (fun y0 y1 y2 y3 y4 y5 y6 => wpX4_measure_3 n9 post g1_wallCount f2 f3 f4 f5 g6_size f8 n_3 y0 y1 y2 y3 y4 y5 y6) post g1_wallCount f2 f3 f4 f5 g6_size f8 f7 f9 x1 x2 x3 x5 x6) ∧
     (x5 = 0 →
      wpX6_isShut (fun (r2 : Int32) (u1 : (Nat → Int32)) =>
       (r2 = 0 →
        wpX4_measure_38 n9 (fun y0 y1 y2 y3 y4 y5 y6 => wpX4_measure_3 n9 post g1_wallCount f2 f3 f4 f5 g6_size f8 n_3 y0 y1 y2 y3 y4 y5 y6) post g1_wallCount f2 f3 f4 f5 g6_size f8 u1 f9 x1 x2 x3 x5 x6) ∧
       (¬ r2 = 0 →
        wpX4_measure_39 n9 (fun y0 y1 y2 y3 y4 y5 y6 => wpX4_measure_3 n9 post g1_wallCount f2 f3 f4 f5 g6_size f8 n_3 y0 y1 y2 y3 y4 y5 y6) post g1_wallCount f2 f3 f4 f5 g6_size f8 u1 f9 x1 x2 x3 x5 x6 1)) g1_wallCount f3 f4 f5 g6_size f8 f7 x1 x2 x3 x6))
def wpX4_measure (n9 : Nat) (post : ((Nat → Int32) × (Nat → Int32)) → Prop) (g1_wallCount : Int32) (f2 : Nat → Int32) (f3 : Nat → Int32) (f4 : Nat → Int32) (f5 : Nat → Int32) (g6_size : Int32) (f8 : Nat → Int32) (f7 : Nat → Int32) (f9 : Nat → Int32) (p1 : Int32) (p2 : Int32) (p3 : Int32) (p5 : Int32) : Prop :=
  ∃ n_3 : Nat, wpX4_measure_3 n9 post g1_wallCount f2 f3 f4 f5 g6_size f8 n_3 f7 f9 p1 p2 p3 p5 0
def wpX4_passLayer_13 (n4 : Nat) (n5 : Nat) (k2 : (Nat → Int32) → Int32 → Prop) (post : ((Nat → Int32)) → Prop) (g0_ones : Int32) (g0_others : Int32) (f1 : Nat → Int32) (f2 : Nat → Int32) (f3 : Nat → Int32) (f4 : Nat → Int32) : Nat → (Nat → Int32) → Int32 → Int32 → Prop
  | 0, _, _, _ => False
  | n_13 + 1, f5, x3, x4 =>
    (g0_others ≤ x4 →
     ∀ v1 : Int32, v1 = x3 + 1 →
     k2 f5 v1) ∧
    (¬ g0_others ≤ x4 →
     ∀ v2 : Int32, v2 = (((x3 + 1) * 31) + x4) + 1 →
     vp_in ((x3 * 30) + x4) 900 ∧
     vp_in x3 30 ∧
     vp_in x4 30 ∧
     ∀ v3 : Int32, v3 = iMax (f1 ((x3 * 30) + x4).toNatClampNeg) (iMax (f2 x3.toNatClampNeg) (f3 x4.toNatClampNeg)) →
     vp_in (v2 - 1) n5 ∧
     vp_in (v2 - 31) n5 ∧
     vp_in ((v2 - 31) - 1) n5 ∧
     ∀ v4 : Int32, v4 = iMin (f5 (v2 - 1).toNatClampNeg) (iMin (f5 (v2 - 31).toNatClampNeg) (f5 ((v2 - 31) - 1).toNatClampNeg)) →
     vp_in v2 n4 ∧
     vp_in (v2 - 1) n4 ∧
     vp_in (v2 - 31) n4 ∧
     vp_in ((v2 - 31) - 1) n4 ∧
     ∀ v5 : Int32, v5 = iMin (iMin (f4 v2.toNatClampNeg) (f4 (v2 - 1).toNatClampNeg)) (iMin (f4 (v2 - 31).toNatClampNeg) (f4 ((v2 - 31) - 1).toNatClampNeg)) →
     vp_in v2 n5 ∧
     ∀ v6 : Int32, v6 = x4 + 1 →
     wpX4_passLayer_13 n4 n5 k2 post g0_ones g0_others f1 f2 f3 f4 n_13 (upd f5 v2.toNatClampNeg (iMax v3 (iMin v4 v5))) x3 v6)
def wpX4_passLayer_2 (n4 : Nat) (n5 : Nat) (post : ((Nat → Int32)) → Prop) (g0_ones : Int32) (g0_others : Int32) (f1 : Nat → Int32) (f2 : Nat → Int32) (f3 : Nat → Int32) (f4 : Nat → Int32) : Nat → (Nat → Int32) → Int32 → Prop
  | 0, _, _ => False
  | n_2 + 1, f5, x3 =>
    (g0_ones ≤ x3 →
     post (f5)) ∧
    (¬ g0_ones ≤ x3 →
     ∃ n_13 : Nat, wpX4_passLayer_13 n4 n5 (fun y0 y1 => wpX4_passLayer_2 n4 n5 post g0_ones g0_others f1 f2 f3 f4 n_2 y0 y1) post g0_ones g0_others f1 f2 f3 f4 n_13 f5 x3 0)
def wpX4_passLayer (n4 : Nat) (n5 : Nat) (post : ((Nat → Int32)) → Prop) (g0_ones : Int32) (g0_others : Int32) (f1 : Nat → Int32) (f2 : Nat → Int32) (f3 : Nat → Int32) (f4 : Nat → Int32) (f5 : Nat → Int32) : Prop :=
  ∃ n_2 : Nat, wpX4_passLayer_2 n4 n5 post g0_ones g0_others f1 f2 f3 f4 n_2 f5 0
def wpX4_leastLead_78 (post : Int32 → (Int32 × Int32 × (Nat → Int32) × (Nat → Int32) × (Nat → Int32) × (Nat → Int32) × (Nat → Int32) × (Nat → Int32)) → Prop) (g7_wallCount : Int32) (f8 : Nat → Int32) (f9 : Nat → Int32) (f10 : Nat → Int32) (f11 : Nat → Int32) (g12_size : Int32) (f14 : Nat → Int32) : Nat → Int32 → Int32 → (Nat → Int32) → (Nat → Int32) → (Nat → Int32) → (Nat → Int32) → (Nat → Int32) → (Nat → Int32) → Int32 → Int32 → Int32 → Int32 → Int32 → Prop
  | 0, _, _, _, _, _, _, _, _, _, _, _, _, _ => False
  | n_78 + 1, g0_ones, g0_others, f1, f2, f3, f4, f5, f13, x2, x3, x4, x5, x8 =>
    vp_in x2 12 ∧
    ((f8 x2.toNatClampNeg) ≤ x8 →
     vp_in ((g0_ones * 31) + g0_others) 961 ∧
     post (f3 ((g0_ones * 31) + g0_others).toNatClampNeg) (g0_ones, g0_others, f1, f2, f3, f4, f5, f13)) ∧
    (¬ (f8 x2.toNatClampNeg) ≤ x8 →
     wpX4_measure 30 (fun (u1 : (Nat → Int32) × (Nat → Int32)) =>
      wpX4_measure 30 (fun (u2 : (Nat → Int32) × (Nat → Int32)) =>
       wpX4_passLayer 961 961 (fun (u3 : (Nat → Int32)) =>
        vp_in 0 961 ∧
        ∀ v4 : Int32, v4 = x8 + 1 →
        vp_in x2 12 ∧
        ((f8 x2.toNatClampNeg) ≤ v4 →
         vp_in ((g0_ones * 31) + g0_others) 961 ∧
         post (u3 ((g0_ones * 31) + g0_others).toNatClampNeg) (g0_ones, g0_others, f1, u3, (upd f3 (0 : Int32).toNatClampNeg 2147483647), u1.2, u2.2, u2.1)) ∧
        (¬ (f8 x2.toNatClampNeg) ≤ v4 →
         wpX4_measure 30 (fun (u5 : (Nat → Int32) × (Nat → Int32)) =>
          wpX4_measure 30 (fun (u6 : (Nat → Int32) × (Nat → Int32)) =>
           wpX4_passLayer 961 961 (fun (u7 : (Nat → Int32)) =>
            vp_in 0 961 ∧
            ∀ v8 : Int32, v8 = v4 + 1 →
            wpX4_leastLead_78 post g7_wallCount f8 f9 f10 f11 g12_size f14 n_78 g0_ones g0_others f1 (upd u3 (0 : Int32).toNatClampNeg 2147483647) u7 u5.2 u6.2 u6.1 x2 x3 x4 x5 v8) g0_ones g0_others f1 u5.2 u6.2 u3 (upd f3 (0 : Int32).toNatClampNeg 2147483647)) g7_wallCount f8 f9 f10 f11 g12_size f14 u5.1 u2.2 x2 v4 x4 x5) g7_wallCount f8 f9 f10 f11 g12_size f14 u2.1 u1.2 x2 v4 x3 x5)) g0_ones g0_others f1 u1.2 u2.2 f3 f2) g7_wallCount f8 f9 f10 f11 g12_size f14 u1.1 f5 x2 x8 x4 x5) g7_wallCount f8 f9 f10 f11 g12_size f14 f13 f4 x2 x8 x3 x5)
def wpX4_leastLead (post : Int32 → (Int32 × Int32 × (Nat → Int32) × (Nat → Int32) × (Nat → Int32) × (Nat → Int32) × (Nat → Int32) × (Nat → Int32)) → Prop) (g7_wallCount : Int32) (f8 : Nat → Int32) (f9 : Nat → Int32) (f10 : Nat → Int32) (f11 : Nat → Int32) (g12_size : Int32) (f14 : Nat → Int32) (g0_ones : Int32) (g0_others : Int32) (f1 : Nat → Int32) (f2 : Nat → Int32) (f3 : Nat → Int32) (f4 : Nat → Int32) (f5 : Nat → Int32) (f13 : Nat → Int32) (p1 : Int32) (p2 : Int32) (p3 : Int32) (p4 : Int32) : Prop :=
  vp_in p2 12 ∧
  ∀ v1 : Int32, v1 = f8 p2.toNatClampNeg →
  vp_in p3 12 ∧
  ∀ v2 : Int32, v2 = f8 p3.toNatClampNeg →
  wpX4_measureBetween (fun (u3 : (Nat → Int32)) =>
   wpJ7_fill_53178 961 (fun (u4 : (Nat → Int32)) =>
    wpJ7_fill_53178 961 (fun (u5 : (Nat → Int32)) =>
     vp_in 0 961 ∧
     ∃ n_78 : Nat, wpX4_leastLead_78 post g7_wallCount f8 f9 f10 f11 g12_size f14 n_78 v1 v2 u3 u4 (upd u5 (0 : Int32).toNatClampNeg 0) f4 f5 f13 p1 p2 p3 p4 0) f3 2147483647) f2 2147483647) v1 v2 f9 f10 f1 p2 p3 p4
def wpX5_layPoints_26 (n4 : Nat) (n5 : Nat) (k16 : (Nat → Int32) → (Nat → Int32) → Int32 → Int32 → Int32 → Int32 → Int32 → Prop) (post : Int32 → ((Nat → Int32) × (Nat → Int32)) → Prop) (f1 : Nat → Int32) (f2 : Nat → Int32) (f3 : Nat → Int32) : Nat → (Nat → Int32) → (Nat → Int32) → Int32 → Int32 → Int32 → Int32 → Int32 → Int32 → Prop
  | 0, _, _, _, _, _, _, _, _ => False
  | n_26 + 1, f4, f5, x1, x2, x5, x6, x7, x8 =>
    (x2 ≤ x8 →
     ∀ v1 : Int32, v1 = x7 + 1 →
     k16 f4 f5 x1 x2 x5 x6 v1) ∧
    (¬ x2 ≤ x8 →
     wpX1_xOf (fun (r3 : Int32) (u2 : Unit) =>
      wpX1_xOf (fun (r5 : Int32) (u4 : Unit) =>
       vp_in x6 n4 ∧
       wpX1_yOf (fun (r7 : Int32) (u6 : Unit) =>
        wpX1_yOf (fun (r9 : Int32) (u8 : Unit) =>
         vp_in x6 n5 ∧
         ∀ v10 : Int32, v10 = x6 + 1 →
         ∀ v11 : Int32, v11 = x8 + 1 →
         wpX5_layPoints_26 n4 n5 k16 post f1 f2 f3 n_26 (upd f4 x6.toNatClampNeg ((r3 * (x2 - x8)) + (r5 * x8))) (upd f5 x6.toNatClampNeg ((r7 * (x2 - x8)) + (r9 * x8))) x1 x2 x5 v10 x7 v11) f3 x1 (x7 + 1)) f3 x1 x7) f2 x1 (x7 + 1)) f2 x1 x7)
def wpX5_layPoints_16 (n4 : Nat) (n5 : Nat) (post : Int32 → ((Nat → Int32) × (Nat → Int32)) → Prop) (f1 : Nat → Int32) (f2 : Nat → Int32) (f3 : Nat → Int32) : Nat → (Nat → Int32) → (Nat → Int32) → Int32 → Int32 → Int32 → Int32 → Int32 → Prop
  | 0, _, _, _, _, _, _, _ => False
  | n_16 + 1, f4, f5, x1, x2, x5, x6, x7 =>
    (x5 ≤ x7 →
     wpX1_xOf (fun (r2 : Int32) (u1 : Unit) =>
      vp_in x6 n4 ∧
      wpX1_yOf (fun (r4 : Int32) (u3 : Unit) =>
       vp_in x6 n5 ∧
       post (x6 + 1) ((upd f4 x6.toNatClampNeg (r2 * x2)), (upd f5 x6.toNatClampNeg (r4 * x2)))) f3 x1 x5) f2 x1 x5) ∧
    (¬ x5 ≤ x7 →
     ∃ n_26 : Nat, wpX5_layPoints_26 n4 n5 (fun y0 y1 y2 y3 y4 y5 y6 => wpX5_layPoints_16 n4 n5 post f1 f2 f3 n_16 y0 y1 y2 y3 y4 y5 y6) post f1 f2 f3 n_26 f4 f5 x1 x2 x5 x6 x7 0)
def wpX5_layPoints (n4 : Nat) (n5 : Nat) (post : Int32 → ((Nat → Int32) × (Nat → Int32)) → Prop) (f1 : Nat → Int32) (f2 : Nat → Int32) (f3 : Nat → Int32) (f4 : Nat → Int32) (f5 : Nat → Int32) (p1 : Int32) (p2 : Int32) : Prop :=
  vp_in p1 12 ∧
  ∀ v1 : Int32, v1 = (f1 p1.toNatClampNeg) - 1 →
  ∃ n_16 : Nat, wpX5_layPoints_16 n4 n5 post f1 f2 f3 n_16 f4 f5 p1 p2 v1 0 0
def wpX5_passRow_18 (post : ((Nat → Int32)) → Prop) (f2 : Nat → Int32) (f3 : Nat → Int32) (f4 : Nat → Int32) (f5 : Nat → Int32) : Nat → (Nat → Int32) → Int32 → Int32 → Int32 → Int32 → Prop
  | 0, _, _, _, _, _ => False
  | n_18 + 1, f1, x1, x2, x3, x4 =>
    (x2 ≤ x4 →
     post (f1)) ∧
    (¬ x2 ≤ x4 →
     vp_in x1 233 ∧
     vp_in x4 233 ∧
     ∀ v1 : Int32, v1 = (f2 x1.toNatClampNeg) - (f3 x4.toNatClampNeg) →
     vp_in x1 233 ∧
     vp_in x4 233 ∧
     ∀ v2 : Int32, v2 = (f4 x1.toNatClampNeg) - (f5 x4.toNatClampNeg) →
     vp_in (x4 + 1) 234 ∧
     ∀ v3 : Int32, v3 = f1 (x4 + 1).toNatClampNeg →
     vp_in x4 234 ∧
     ∀ v4 : Int32, v4 = iMin x3 (iMin v3 (f1 x4.toNatClampNeg)) →
     vp_in (x4 + 1) 234 ∧
     ∀ v5 : Int32, v5 = x4 + 1 →
     wpX5_passRow_18 post f2 f3 f4 f5 n_18 (upd f1 (x4 + 1).toNatClampNeg (iMax v4 ((v1 * v1) + (v2 * v2)))) x1 x2 v3 v5)
def wpX5_passRow (post : ((Nat → Int32)) → Prop) (f2 : Nat → Int32) (f3 : Nat → Int32) (f4 : Nat → Int32) (f5 : Nat → Int32) (f1 : Nat → Int32) (p0 : Int32) (p1 : Int32) : Prop :=
  vp_in 0 234 ∧
  ∀ v1 : Int32, v1 = f1 (0 : Int32).toNatClampNeg →
  vp_in 0 234 ∧
  ∃ n_18 : Nat, wpX5_passRow_18 post f2 f3 f4 f5 n_18 (upd f1 (0 : Int32).toNatClampNeg 2147483647) p0 p1 v1 0
def wpX5_leastLead_53 (post : Int32 → ((Nat → Int32) × (Nat → Int32) × (Nat → Int32) × (Nat → Int32) × (Nat → Int32)) → Prop) (f7 : Nat → Int32) (f8 : Nat → Int32) (f9 : Nat → Int32) : Nat → (Nat → Int32) → (Nat → Int32) → (Nat → Int32) → (Nat → Int32) → (Nat → Int32) → Int32 → Int32 → Int32 → Prop
  | 0, _, _, _, _, _, _, _, _ => False
  | n_53 + 1, f1, f2, f3, f4, f5, x5, x6, x7 =>
    (x5 ≤ x7 →
     vp_in x6 234 ∧
     post (f5 x6.toNatClampNeg) (f1, f2, f3, f4, f5)) ∧
    (¬ x5 ≤ x7 →
     wpX5_passRow (fun (u1 : (Nat → Int32)) =>
      ∀ v2 : Int32, v2 = x7 + 1 →
      wpX5_leastLead_53 post f7 f8 f9 n_53 f1 f2 f3 f4 u1 x5 x6 v2) f1 f3 f2 f4 f5 x7 x6)
def wpX5_leastLead (post : Int32 → ((Nat → Int32) × (Nat → Int32) × (Nat → Int32) × (Nat → Int32) × (Nat → Int32)) → Prop) (f7 : Nat → Int32) (f8 : Nat → Int32) (f9 : Nat → Int32) (f1 : Nat → Int32) (f2 : Nat → Int32) (f3 : Nat → Int32) (f4 : Nat → Int32) (f5 : Nat → Int32) (p1 : Int32) (p2 : Int32) (p3 : Int32) : Prop :=
  wpX5_layPoints 233 233 (fun (r2 : Int32) (u1 : (Nat → Int32) × (Nat → Int32)) =>
   wpX5_layPoints 233 233 (fun (r4 : Int32) (u3 : (Nat → Int32) × (Nat → Int32)) =>
    wpJ7_fill_53178 234 (fun (u5 : (Nat → Int32)) =>
     vp_in 0 234 ∧
     ∃ n_53 : Nat, wpX5_leastLead_53 post f7 f8 f9 n_53 u1.1 u1.2 u3.1 u3.2 (upd u5 (0 : Int32).toNatClampNeg 0) r2 r4 0) f5 2147483647) f7 f8 f9 f3 f4 p2 p3) f7 f8 f9 f1 f2 p1 p3
def wpX9_countFrom_126 (k14 : (Nat → Int32) → Int32 → Int32 → Int32 → Int32 → Int32 → Prop) (post : ((Nat → Int32)) → Prop) (f1 : Nat → Int32) (f4 : Nat → Int32) (f5 : Nat → Int32) (f6 : Nat → Int32) (f2 : Nat → Int32) (x2 : Int32) (x3 : Int32) (x4 : Int32) (x5 : Int32) (x6 : Int32) : Prop :=
  ∀ v1 : Int32, v1 = x6 + (-1) →
  k14 f2 x2 x3 x4 x5 v1
def wpX9_countFrom_95 (k14 : (Nat → Int32) → Int32 → Int32 → Int32 → Int32 → Int32 → Prop) (post : ((Nat → Int32)) → Prop) (f1 : Nat → Int32) (f4 : Nat → Int32) (f5 : Nat → Int32) (f6 : Nat → Int32) (f2 : Nat → Int32) (x2 : Int32) (x3 : Int32) (x4 : Int32) (x5 : Int32) (x6 : Int32) (x8 : Int32) : Prop :=
  vp_in (((x3 * 31) + x6) + 1) 961 ∧
  vp_in ((x3 * 31) + x6) 961 ∧
  wpX9_countFrom_126 k14 post f1 f4 f5 f6 (upd f2 ((x3 * 31) + x6).toNatClampNeg (iMin x8 (f2 (((x3 * 31) + x6) + 1).toNatClampNeg))) x2 x3 x4 x5 x6
def wpX9_countFrom_73 (k14 : (Nat → Int32) → Int32 → Int32 → Int32 → Int32 → Int32 → Prop) (post : ((Nat → Int32)) → Prop) (f1 : Nat → Int32) (f4 : Nat → Int32) (f5 : Nat → Int32) (f6 : Nat → Int32) (f2 : Nat → Int32) (x2 : Int32) (x3 : Int32) (x4 : Int32) (x5 : Int32) (x6 : Int32) (s0 : Int32) : Prop :=
  (¬ x3 = (x5 - 1) →
   wpX9_countFrom_95 k14 post f1 f4 f5 f6 f2 x2 x3 x4 x5 x6 s0) ∧
  (x3 = (x5 - 1) →
   (¬ x6 = (x5 - 1) →
    wpX9_countFrom_95 k14 post f1 f4 f5 f6 f2 x2 x3 x4 x5 x6 s0) ∧
   (x6 = (x5 - 1) →
    wpX9_countFrom_95 k14 post f1 f4 f5 f6 f2 x2 x3 x4 x5 x6 1))
def wpX9_countFrom_14 (post : ((Nat → Int32)) → Prop) (f1 : Nat → Int32) (f4 : Nat → Int32) (f5 : Nat → Int32) (f6 : Nat → Int32) : Nat → (Nat → Int32) → Int32 → Int32 → Int32 → Int32 → Int32 → Prop
  | 0, _, _, _, _, _, _ => False
  | n_14 + 1, f2, x2, x3, x4, x5, x6 =>
    (x6 < 0 →
     post (f2)) ∧
    (¬ x6 < 0 →
     wpX1_distance (fun (r2 : Int32) (u1 : Unit) =>
      (r2 ≤ x4 →
       vp_in x6 31 ∧
       vp_in (x6 + 1) 31 ∧
       ∀ v3 : Int32, v3 = iMin (f1 x6.toNatClampNeg) (f1 (x6 + 1).toNatClampNeg) →
       (¬ v3 = 2147483647 →
        wpX9_countFrom_73 (fun y0 y1 y2 y3 y4 y5 => wpX9_countFrom_14 post f1 f4 f5 f6 n_14 y0 y1 y2 y3 y4 y5) post f1 f4 f5 f6 f2 x2 x3 x4 x5 x6 (v3 + 1)) ∧
       (v3 = 2147483647 →
        wpX9_countFrom_73 (fun y0 y1 y2 y3 y4 y5 => wpX9_countFrom_14 post f1 f4 f5 f6 n_14 y0 y1 y2 y3 y4 y5) post f1 f4 f5 f6 f2 x2 x3 x4 x5 x6 2147483647)) ∧
      (¬ r2 ≤ x4 →
       wpX9_countFrom_126 (fun y0 y1 y2 y3 y4 y5 => wpX9_countFrom_14 post f1 f4 f5 f6 n_14 y0 y1 y2 y3 y4 y5) post f1 f4 f5 f6 f2 x2 x3 x4 x5 x6)) f5 f6 x2 x3 x2 x6)
def wpX9_countFrom (post : ((Nat → Int32)) → Prop) (f1 : Nat → Int32) (f4 : Nat → Int32) (f5 : Nat → Int32) (f6 : Nat → Int32) (f2 : Nat → Int32) (p1 : Int32) (p2 : Int32) (p3 : Int32) : Prop :=
  vp_in p1 12 ∧
  ∀ v1 : Int32, v1 = f4 p1.toNatClampNeg →
  ∀ v2 : Int32, v2 = v1 - 1 →
  ∃ n_14 : Nat, wpX9_countFrom_14 post f1 f4 f5 f6 n_14 f2 p1 p2 p3 v1 v2
def wpX9_walkOn_78 (k6 : Int32 → Int32 → Int32 → Int32 → Int32 → Prop) (post : Int32 → Unit → Prop) (f1 : Nat → Int32) (x1 : Int32) (x2 : Int32) (x3 : Int32) (x4 : Int32) (x5 : Int32) : Prop :=
  ∀ v1 : Int32, v1 = x5 + 1 →
  k6 x1 x2 x3 x4 v1
def wpX9_walkOn_45 (k6 : Int32 → Int32 → Int32 → Int32 → Int32 → Prop) (post : Int32 → Unit → Prop) (f1 : Nat → Int32) (x1 : Int32) (x2 : Int32) (x3 : Int32) (x4 : Int32) (x5 : Int32) (s0 : Int32) : Prop :=
  (s0 = 0 →
   wpX9_walkOn_78 k6 post f1 x1 x2 x3 x4 x5) ∧
  (¬ s0 = 0 →
   vp_in ((x1 * 31) + x5) 961 ∧
   ((f1 ((x1 * 31) + x5).toNatClampNeg) = 2147483647 →
    wpX9_walkOn_78 k6 post f1 x1 x2 x3 x4 x5) ∧
   (¬ (f1 ((x1 * 31) + x5).toNatClampNeg) = 2147483647 →
    ∀ v1 : Int32, v1 = x4 ||| ((1 : Int32) <<< (x5 &&& 31)) →
    wpX9_walkOn_78 k6 post f1 x1 x2 x3 v1 x5))
def wpX9_walkOn_40 (k6 : Int32 → Int32 → Int32 → Int32 → Int32 → Prop) (post : Int32 → Unit → Prop) (f1 : Nat → Int32) (x1 : Int32) (x2 : Int32) (x3 : Int32) (x4 : Int32) (x5 : Int32) : Prop :=
  wpX9_walkOn_45 k6 post f1 x1 x2 x3 x4 x5 1
def wpX9_walkOn_44 (k6 : Int32 → Int32 → Int32 → Int32 → Int32 → Prop) (post : Int32 → Unit → Prop) (f1 : Nat → Int32) (x1 : Int32) (x2 : Int32) (x3 : Int32) (x4 : Int32) (x5 : Int32) : Prop :=
  wpX9_walkOn_45 k6 post f1 x1 x2 x3 x4 x5 0
def wpX9_walkOn_6 (post : Int32 → Unit → Prop) (f1 : Nat → Int32) : Nat → Int32 → Int32 → Int32 → Int32 → Int32 → Prop
  | 0, _, _, _, _, _ => False
  | n_6 + 1, x1, x2, x3, x4, x5 =>
    (x3 ≤ x5 →
     post x4 ()) ∧
    (¬ x3 ≤ x5 →
     (((x2 >>> (x5 &&& 31)) &&& 1) = 1 →
      wpX9_walkOn_40 (fun y0 y1 y2 y3 y4 => wpX9_walkOn_6 post f1 n_6 y0 y1 y2 y3 y4) post f1 x1 x2 x3 x4 x5) ∧
     (¬ ((x2 >>> (x5 &&& 31)) &&& 1) = 1 →
      (x5 ≤ 0 →
       wpX9_walkOn_44 (fun y0 y1 y2 y3 y4 => wpX9_walkOn_6 post f1 n_6 y0 y1 y2 y3 y4) post f1 x1 x2 x3 x4 x5) ∧
      (¬ x5 ≤ 0 →
       (¬ ((x4 >>> ((x5 - 1) &&& 31)) &&& 1) = 1 →
        wpX9_walkOn_44 (fun y0 y1 y2 y3 y4 => wpX9_walkOn_6 post f1 n_6 y0 y1 y2 y3 y4) post f1 x1 x2 x3 x4 x5) ∧
       (((x4 >>> ((x5 - 1) &&& 31)) &&& 1) = 1 →
        wpX9_walkOn_40 (fun y0 y1 y2 y3 y4 => wpX9_walkOn_6 post f1 n_6 y0 y1 y2 y3 y4) post f1 x1 x2 x3 x4 x5))))
def wpX9_walkOn (post : Int32 → Unit → Prop) (f1 : Nat → Int32) (p0 : Int32) (p1 : Int32) (p2 : Int32) : Prop :=
  ∃ n_6 : Nat, wpX9_walkOn_6 post f1 n_6 p0 p1 p2 0 0
def wpX9_leadsOn_38 (k3 : Int32 → Int32 → Int32 → Int32 → Int32 → Prop) (post : Int32 → Unit → Prop) (f1 : Nat → Int32) (x1 : Int32) (x2 : Int32) (x3 : Int32) (x4 : Int32) (x5 : Int32) : Prop :=
  ∀ v1 : Int32, v1 = x5 + 1 →
  k3 x1 x2 x3 x4 v1
def wpX9_leadsOn_3 (post : Int32 → Unit → Prop) (f1 : Nat → Int32) : Nat → Int32 → Int32 → Int32 → Int32 → Int32 → Prop
  | 0, _, _, _, _, _ => False
  | n_3 + 1, x1, x2, x3, x4, x5 =>
    (x4 ≤ x5 →
     post 0 ()) ∧
    (¬ x4 ≤ x5 →
     (¬ ((x2 >>> (x5 &&& 31)) &&& 1) = 1 →
      wpX9_leadsOn_38 (fun y0 y1 y2 y3 y4 => wpX9_leadsOn_3 post f1 n_3 y0 y1 y2 y3 y4) post f1 x1 x2 x3 x4 x5) ∧
     (((x2 >>> (x5 &&& 31)) &&& 1) = 1 →
      vp_in ((x1 * 31) + x5) 961 ∧
      (¬ (f1 ((x1 * 31) + x5).toNatClampNeg) = x3 →
       wpX9_leadsOn_38 (fun y0 y1 y2 y3 y4 => wpX9_leadsOn_3 post f1 n_3 y0 y1 y2 y3 y4) post f1 x1 x2 x3 x4 x5) ∧
      ((f1 ((x1 * 31) + x5).toNatClampNeg) = x3 →
       post 1 ())))
def wpX9_leadsOn (post : Int32 → Unit → Prop) (f1 : Nat → Int32) (p0 : Int32) (p1 : Int32) (p2 : Int32) (p3 : Int32) : Prop :=
  ∃ n_3 : Nat, wpX9_leadsOn_3 post f1 n_3 p0 p1 p2 p3 0
def wpX9_firstChoice_74 (k23 : Int32 → Int32 → Int32 → Int32 → Int32 → Prop) (post : Int32 → Unit → Prop) (f1 : Nat → Int32) (x1 : Int32) (x2 : Int32) (x3 : Int32) (x5 : Int32) (x6 : Int32) : Prop :=
  ∀ v1 : Int32, v1 = x2 ||| ((1 : Int32) <<< (x3 &&& 31)) →
  wpX9_walkOn (fun (r3 : Int32) (u2 : Unit) =>
   ∀ v4 : Int32, v4 = x5 + (-1) →
   k23 x1 v1 x3 r3 v4) f1 x3 x6 x1
def wpX9_firstChoice_48 (k23 : Int32 → Int32 → Int32 → Int32 → Int32 → Prop) (post : Int32 → Unit → Prop) (f1 : Nat → Int32) : Nat → Int32 → Int32 → Int32 → Int32 → Int32 → Prop
  | 0, _, _, _, _, _ => False
  | n_48 + 1, x1, x2, x3, x5, x6 =>
    ((x1 - 1) ≤ x3 →
     wpX9_firstChoice_74 k23 post f1 x1 x2 x3 x5 x6) ∧
    (¬ (x1 - 1) ≤ x3 →
     wpX9_leadsOn (fun (r2 : Int32) (u1 : Unit) =>
      (¬ r2 = 0 →
       wpX9_firstChoice_74 k23 post f1 x1 x2 x3 x5 x6) ∧
      (r2 = 0 →
       ∀ v3 : Int32, v3 = x3 + 1 →
       wpX9_firstChoice_48 k23 post f1 n_48 x1 x2 v3 x5 x6)) f1 x3 x6 x5 x1)
def wpX9_firstChoice_23 (post : Int32 → Unit → Prop) (f1 : Nat → Int32) : Nat → Int32 → Int32 → Int32 → Int32 → Int32 → Prop
  | 0, _, _, _, _, _ => False
  | n_23 + 1, x1, x2, x3, x4, x5 =>
    (x5 < 1 →
     post x2 ()) ∧
    (¬ x5 < 1 →
     ((x1 - 1) ≤ x3 →
      post x2 ()) ∧
     (¬ (x1 - 1) ≤ x3 →
      ∀ v1 : Int32, v1 = x4 ||| (x4 <<< ((1 : Int32) &&& 31)) →
      ∀ v2 : Int32, v2 = x3 + 1 →
      ∃ n_48 : Nat, wpX9_firstChoice_48 (fun y0 y1 y2 y3 y4 => wpX9_firstChoice_23 post f1 n_23 y0 y1 y2 y3 y4) post f1 n_48 x1 x2 v2 x5 v1))
def wpX9_firstChoice (post : Int32 → Unit → Prop) (f1 : Nat → Int32) (p0 : Int32) : Prop :=
  wpX9_walkOn (fun (r2 : Int32) (u1 : Unit) =>
   vp_in 0 961 ∧
   ∀ v3 : Int32, v3 = (f1 (0 : Int32).toNatClampNeg) - 1 →
   ∃ n_23 : Nat, wpX9_firstChoice_23 post f1 n_23 p0 1 0 r2 v3) f1 0 1 p0
def wpX9_fewestCorners_49 (k32 : (Nat → Int32) → (Nat → Int32) → Int32 → Int32 → Int32 → Int32 → Prop) (post : Int32 → ((Nat → Int32) × (Nat → Int32)) → Prop) (f4 : Nat → Int32) (f5 : Nat → Int32) (f6 : Nat → Int32) : Nat → (Nat → Int32) → (Nat → Int32) → Int32 → Int32 → Int32 → Int32 → Int32 → Prop
  | 0, _, _, _, _, _, _, _ => False
  | n_49 + 1, f1, f2, x2, x3, x4, x5, x6 =>
    (x4 ≤ x6 →
     ∀ v1 : Int32, v1 = x5 + (-1) →
     k32 f1 f2 x2 x3 x4 v1) ∧
    (¬ x4 ≤ x6 →
     vp_in x6 31 ∧
     vp_in ((x5 * 31) + x6) 961 ∧
     vp_in x6 31 ∧
     ∀ v2 : Int32, v2 = x6 + 1 →
     wpX9_fewestCorners_49 k32 post f4 f5 f6 n_49 f1 (upd f2 x6.toNatClampNeg (iMin (f2 x6.toNatClampNeg) (f1 ((x5 * 31) + x6).toNatClampNeg))) x2 x3 x4 x5 v2)
def wpX9_fewestCorners_32 (post : Int32 → ((Nat → Int32) × (Nat → Int32)) → Prop) (f4 : Nat → Int32) (f5 : Nat → Int32) (f6 : Nat → Int32) : Nat → (Nat → Int32) → (Nat → Int32) → Int32 → Int32 → Int32 → Int32 → Prop
  | 0, _, _, _, _, _, _ => False
  | n_32 + 1, f1, f2, x2, x3, x4, x5 =>
    (x5 < 0 →
     wpX9_firstChoice (fun (r2 : Int32) (u1 : Unit) =>
      post r2 (f1, f2)) f1 x4) ∧
    (¬ x5 < 0 →
     wpX9_countFrom (fun (u3 : (Nat → Int32)) =>
      ∃ n_49 : Nat, wpX9_fewestCorners_49 (fun y0 y1 y2 y3 y4 y5 => wpX9_fewestCorners_32 post f4 f5 f6 n_32 y0 y1 y2 y3 y4 y5) post f4 f5 f6 n_49 u3 f2 x2 x3 x4 x5 0) f2 f4 f5 f6 f1 x2 x5 x3)
def wpX9_fewestCorners (post : Int32 → ((Nat → Int32) × (Nat → Int32)) → Prop) (f4 : Nat → Int32) (f5 : Nat → Int32) (f6 : Nat → Int32) (f1 : Nat → Int32) (f2 : Nat → Int32) (p1 : Int32) (p2 : Int32) : Prop :=
  vp_in p1 12 ∧
  ∀ v1 : Int32, v1 = f4 p1.toNatClampNeg →
  wpJ7_fill_53178 961 (fun (u2 : (Nat → Int32)) =>
   wpJ7_fill_53178 31 (fun (u3 : (Nat → Int32)) =>
    ∀ v4 : Int32, v4 = v1 - 1 →
    ∃ n_32 : Nat, wpX9_fewestCorners_32 post f4 f5 f6 n_32 u2 u3 p1 p2 v1 v4) f2 2147483647) f1 2147483647
def wpX11_thrown (post : Int32 → Unit → Prop) (g0_thrown : Int32) : Prop :=
  post g0_thrown ()
def wpX11_throwsIf (post : Int32 → Int32 → Prop) (g0_thrown : Int32) (p0 : Int32) (p1 : Int32) : Prop :=
  (p0 = 0 →
   (p0 = 0 ∨ p0 = 1) ∧ post p0 (g0_thrown)) ∧
  (¬ p0 = 0 →
   (p0 = 0 ∨ p0 = 1) ∧ post p0 (p1))
def wpX11_in (post : Int32 → Unit → Prop) (p0 : Int32) (p1 : Int32) (p2 : Int32) : Prop :=
  (p0 < p1 →
   post 0 ()) ∧
  (¬ p0 < p1 →
   (p2 < p0 →
    post 0 ()) ∧
   (¬ p2 < p0 →
    post 1 ()))
def wpX11_has (post : Int32 → Unit → Prop) (p0 : Int32) (p1 : Int32) : Prop :=
  (¬ ((p0 >>> (p1 &&& 31)) &&& 1) = 1 →
   post 0 ()) ∧
  (((p0 >>> (p1 &&& 31)) &&& 1) = 1 →
   post 1 ())
def wpX11_image_7 (post : (Int32 × Int32 × (Nat → Int32)) → Prop) (f1 : Nat → Int32) : Nat → Int32 → Int32 → (Nat → Int32) → Int32 → Prop
  | 0, _, _, _, _ => False
  | n_7 + 1, g0_thrown, g0_hasImage, f2, x1 =>
    (1683 ≤ x1 →
     post (g0_thrown, 1, f2)) ∧
    (¬ 1683 ≤ x1 →
     vp_in x1 2508 ∧
     vp_in x1 1683 ∧
     ∀ v1 : Int32, v1 = x1 + 1 →
     wpX11_image_7 post f1 n_7 g0_thrown g0_hasImage (upd f2 x1.toNatClampNeg (f1 x1.toNatClampNeg)) v1)
def wpX11_image (post : (Int32 × Int32 × (Nat → Int32)) → Prop) (f1 : Nat → Int32) (g0_thrown : Int32) (g0_hasImage : Int32) (f2 : Nat → Int32) : Prop :=
  ∃ n_7 : Nat, wpX11_image_7 post f1 n_7 0 g0_hasImage f2 0
def wpX11_again_16 (post : Int32 → (Int32 × Int32 × (Nat → Int32)) → Prop) (g0_hasImage : Int32) (f1 : Nat → Int32) : Nat → Int32 → Int32 → (Nat → Int32) → Int32 → Prop
  | 0, _, _, _, _ => False
  | n_16 + 1, g0_thrown, g0_remembered, f2, x1 =>
    (1683 ≤ x1 →
     post 1 (g0_thrown, 0, f2)) ∧
    (¬ 1683 ≤ x1 →
     vp_in x1 1683 ∧
     vp_in x1 2508 ∧
     ∀ v1 : Int32, v1 = x1 + 1 →
     wpX11_again_16 post g0_hasImage f1 n_16 g0_thrown g0_remembered (upd f2 x1.toNatClampNeg (f1 x1.toNatClampNeg)) v1)
def wpX11_again (post : Int32 → (Int32 × Int32 × (Nat → Int32)) → Prop) (g0_hasImage : Int32) (f1 : Nat → Int32) (g0_thrown : Int32) (g0_remembered : Int32) (f2 : Nat → Int32) : Prop :=
  (¬ g0_hasImage = 0 →
   ∃ n_16 : Nat, wpX11_again_16 post g0_hasImage f1 n_16 0 g0_remembered f2 0) ∧
  (g0_hasImage = 0 →
   post 0 (0, g0_remembered, f2))
def wpX11_ways (post : Int32 → Unit → Prop) (f1 : Nat → Int32) : Prop :=
  vp_in 0 2508 ∧
  post (f1 (0 : Int32).toNatClampNeg) ()
def wpX11_cornersOf (post : Int32 → Unit → Prop) (f1 : Nat → Int32) (p0 : Int32) : Prop :=
  vp_in (14 + (61 * p0)) 2508 ∧
  post (f1 (14 + (61 * p0)).toNatClampNeg) ()
def wpX11_xOf (post : Int32 → Unit → Prop) (f1 : Nat → Int32) (p0 : Int32) (p1 : Int32) : Prop :=
  vp_in (((14 + (61 * p0)) + 1) + (2 * p1)) 2508 ∧
  post (f1 (((14 + (61 * p0)) + 1) + (2 * p1)).toNatClampNeg) ()
def wpX11_yOf (post : Int32 → Unit → Prop) (f1 : Nat → Int32) (p0 : Int32) (p1 : Int32) : Prop :=
  vp_in (((14 + (61 * p0)) + 2) + (2 * p1)) 2508 ∧
  post (f1 (((14 + (61 * p0)) + 2) + (2 * p1)).toNatClampNeg) ()
def wpX11_noWay (post : Int32 → Unit → Prop) (f1 : Nat → Int32) (p0 : Int32) : Prop :=
  wpX11_ways (fun (r2 : Int32) (u1 : Unit) =>
   wpX11_in (fun (r4 : Int32) (u3 : Unit) =>
    (¬ r4 = 0 →
     post 0 ()) ∧
    (r4 = 0 →
     post 1 ())) p0 0 (r2 - 1)) f1
def wpX11_noCorner (post : Int32 → Unit → Prop) (f1 : Nat → Int32) (p0 : Int32) (p1 : Int32) : Prop :=
  wpX11_noWay (fun (r2 : Int32) (u1 : Unit) =>
   (¬ r2 = 0 →
    post 1 ()) ∧
   (r2 = 0 →
    wpX11_cornersOf (fun (r4 : Int32) (u3 : Unit) =>
     wpX11_in (fun (r6 : Int32) (u5 : Unit) =>
      (¬ r6 = 0 →
       post 0 ()) ∧
      (r6 = 0 →
       post 1 ())) p1 0 (r4 - 1)) f1 p0)) f1 p0
def wpX11_ofMark (post : Int32 → Unit → Prop) (f1 : Nat → Int32) (p0 : Int32) (p1 : Int32) : Prop :=
  vp_in ((778 + (4 * p0)) + p1) 2508 ∧
  post (f1 ((778 + (4 * p0)) + p1).toNatClampNeg) ()
def wpX11_endsWalk (post : (Int32 × (Nat → Int32)) → Prop) (g0_remembered : Int32) (f1 : Nat → Int32) : Prop :=
  vp_in 6 2508 ∧
  post (0, (upd f1 (6 : Int32).toNatClampNeg 0))
def wpX11_feed_60 (post : Int32 → (Int32 × Int32 × (Nat → Int32) × (Nat → Int32)) → Prop) : Nat → Int32 → Int32 → (Nat → Int32) → (Nat → Int32) → Int32 → Prop
  | 0, _, _, _, _, _ => False
  | n_60 + 1, g0_thrown, g0_taped, f1, f2, x6 =>
    (20 ≤ x6 →
     ∀ v1 : Int32, v1 = g0_taped + 20 →
     post v1 (g0_thrown, v1, f1, f2)) ∧
    (¬ 20 ≤ x6 →
     vp_in (x6 / 4) 5 ∧
     vp_in (g0_taped + x6) 400 ∧
     ∀ v2 : Int32, v2 = x6 + 1 →
     wpX11_feed_60 post n_60 g0_thrown g0_taped f1 (upd f2 (g0_taped + x6).toNatClampNeg (vp_nar .byte (((f1 (x6 / 4).toNatClampNeg) >>> ((24 - (8 * (x6 - x6 / 4 * 4))) &&& 31)).toInt8.toInt32))) v2)
def wpX11_feed (post : Int32 → (Int32 × Int32 × (Nat → Int32) × (Nat → Int32)) → Prop) (g0_thrown : Int32) (g0_taped : Int32) (f1 : Nat → Int32) (f2 : Nat → Int32) (p0 : Int32) (p1 : Int32) (p2 : Int32) (p3 : Int32) (p4 : Int32) : Prop :=
  ((g0_taped + 20) ≤ 400 →
   vp_in 0 5 ∧
   vp_in 1 5 ∧
   vp_in 2 5 ∧
   vp_in 3 5 ∧
   vp_in 4 5 ∧
   ∃ n_60 : Nat, wpX11_feed_60 post n_60 0 g0_taped (upd (upd (upd (upd (upd f1 (0 : Int32).toNatClampNeg p0) (1 : Int32).toNatClampNeg p1) (2 : Int32).toNatClampNeg p2) (3 : Int32).toNatClampNeg p3) (4 : Int32).toNatClampNeg p4) f2 0) ∧
  (¬ (g0_taped + 20) ≤ 400 →
   post (-1) (0, g0_taped, f1, f2))
def wpX11_end (post : Int32 → (Int32 × Int32) → Prop) (g0_thrown : Int32) (g0_taped : Int32) (p0 : Int32) : Prop :=
  (p0 < 0 →
   post 0 (0, g0_taped)) ∧
  (¬ p0 < 0 →
   (p0 ≤ g0_taped →
    post 1 (0, p0)) ∧
   (¬ p0 ≤ g0_taped →
    post 0 (0, g0_taped)))
def wpX11_isAt (post : Int32 → Unit → Prop) (g0_point : Int32) (g0_end : Int32) (f1 : Nat → Int32) (p0 : Int32) (p1 : Int32) : Prop :=
  (g0_end ≤ g0_point →
   post 0 ()) ∧
  (¬ g0_end ≤ g0_point →
   vp_in g0_point 400 ∧
   ((f1 g0_point.toNatClampNeg) < p0 →
    post 0 ()) ∧
   (¬ (f1 g0_point.toNatClampNeg) < p0 →
    vp_in g0_point 400 ∧
    (p1 < (f1 g0_point.toNatClampNeg) →
     post 0 ()) ∧
    (¬ p1 < (f1 g0_point.toNatClampNeg) →
     post 1 ())))
def wpX11_blanks_0 (post : (Int32 × Int32) → Prop) (g0_end : Int32) (f1 : Nat → Int32) : Nat → Int32 → Int32 → Prop
  | 0, _, _ => False
  | n_0 + 1, g0_point, g0_begin =>
    wpX11_isAt (fun (r2 : Int32) (u1 : Unit) =>
     (r2 = 0 →
      post (g0_point, g0_point)) ∧
     (¬ r2 = 0 →
      ∀ v3 : Int32, v3 = g0_point + 1 →
      wpX11_blanks_0 post g0_end f1 n_0 v3 g0_begin)) g0_point g0_end f1 32 32
def wpX11_blanks (post : (Int32 × Int32) → Prop) (g0_end : Int32) (f1 : Nat → Int32) (g0_point : Int32) (g0_begin : Int32) : Prop :=
  ∃ n_0 : Nat, wpX11_blanks_0 post g0_end f1 n_0 g0_point g0_begin
def wpX11_letters_4 (post : (Int32 × Int32) → Prop) (g0_end : Int32) (f1 : Nat → Int32) : Nat → Int32 → Int32 → Prop
  | 0, _, _ => False
  | n_4 + 1, g0_point, g0_begin =>
    wpX11_isAt (fun (r2 : Int32) (u1 : Unit) =>
     (r2 = 0 →
      post (g0_point, g0_begin)) ∧
     (¬ r2 = 0 →
      ∀ v3 : Int32, v3 = g0_point + 1 →
      wpX11_letters_4 post g0_end f1 n_4 v3 g0_begin)) g0_point g0_end f1 97 122
def wpX11_letters (post : (Int32 × Int32) → Prop) (g0_end : Int32) (f1 : Nat → Int32) (g0_point : Int32) (g0_begin : Int32) : Prop :=
  wpX11_blanks (fun (u1 : Int32 × Int32) =>
   ∃ n_4 : Nat, wpX11_letters_4 post g0_end f1 n_4 u1.1 u1.2) g0_end f1 g0_point g0_begin
def wpX11_isWord_60 (t_p0 : List Int32) (k24 : Int32 → Int32 → Prop) (post : Int32 → Unit → Prop) (g0_point : Int32) (g0_begin : Int32) (f1 : Nat → Int32) (x3 : Int32) (s0 : Int32) : Prop :=
  ∀ v1 : Int32, v1 = x3 + 1 →
  k24 s0 v1
def wpX11_isWord_24 (t_p0 : List Int32) (post : Int32 → Unit → Prop) (g0_point : Int32) (g0_begin : Int32) (f1 : Nat → Int32) : Nat → Int32 → Int32 → Prop
  | 0, _, _ => False
  | n_24 + 1, x2, x3 =>
    (x2 = 0 →
     (x2 = 0 ∨ x2 = 1) ∧ post x2 ()) ∧
    (¬ x2 = 0 →
     ((nI t_p0.length) ≤ x3 →
      (x2 = 0 ∨ x2 = 1) ∧ post x2 ()) ∧
     (¬ (nI t_p0.length) ≤ x3 →
      vp_in (g0_begin + x3) 400 ∧
      t_p0.length < 2 ^ 31 ∧ vp_in x3 t_p0.length ∧
      (¬ (f1 (g0_begin + x3).toNatClampNeg) = (txC (t_p0.getD x3.toNatClampNeg 0)) →
       wpX11_isWord_60 t_p0 (fun y0 y1 => wpX11_isWord_24 t_p0 post g0_point g0_begin f1 n_24 y0 y1) post g0_point g0_begin f1 x3 0) ∧
      ((f1 (g0_begin + x3).toNatClampNeg) = (txC (t_p0.getD x3.toNatClampNeg 0)) →
       wpX11_isWord_60 t_p0 (fun y0 y1 => wpX11_isWord_24 t_p0 post g0_point g0_begin f1 n_24 y0 y1) post g0_point g0_begin f1 x3 1)))
def wpX11_isWord_21 (t_p0 : List Int32) (post : Int32 → Unit → Prop) (g0_point : Int32) (g0_begin : Int32) (f1 : Nat → Int32) (s0 : Int32) : Prop :=
  ∃ n_24 : Nat, wpX11_isWord_24 t_p0 post g0_point g0_begin f1 n_24 s0 0
def wpX11_isWord (t_p0 : List Int32) (post : Int32 → Unit → Prop) (g0_point : Int32) (g0_begin : Int32) (f1 : Nat → Int32) : Prop :=
  (¬ (g0_point - g0_begin) = (nI t_p0.length) →
   wpX11_isWord_21 t_p0 post g0_point g0_begin f1 0) ∧
  ((g0_point - g0_begin) = (nI t_p0.length) →
   wpX11_isWord_21 t_p0 post g0_point g0_begin f1 1)
def wpX11_passes (t_p0 : List Int32) (post : Int32 → (Int32 × Int32) → Prop) (g0_end : Int32) (f1 : Nat → Int32) (g0_point : Int32) (g0_begin : Int32) : Prop :=
  wpX11_letters (fun (u1 : Int32 × Int32) =>
   wpX11_isWord t_p0 (fun (r3 : Int32) (u2 : Unit) =>
    (r3 = 0 →
     post 0 (u1.2, u1.2)) ∧
    (¬ r3 = 0 →
     post 1 (u1.1, u1.2))) u1.1 u1.2 f1) g0_end f1 g0_point g0_begin
def wpX11_sign (post : Int32 → (Int32 × Int32) → Prop) (g0_end : Int32) (f1 : Nat → Int32) (g0_point : Int32) (g0_begin : Int32) (p0 : Int32) : Prop :=
  wpX11_blanks (fun (u1 : Int32 × Int32) =>
   wpX11_isAt (fun (r3 : Int32) (u2 : Unit) =>
    (¬ r3 = 0 →
     ∀ v4 : Int32, v4 = u1.1 + 1 →
     post 1 (v4, u1.2)) ∧
    (r3 = 0 →
     post 0 (u1.1, u1.2))) u1.1 g0_end f1 p0 p0) g0_end f1 g0_point g0_begin
def wpX11_figures_54 (k7 : Int32 → Int32 → Int32 → Int32 → Int32 → Int32 → Prop) (post : Int32 → (Int32 × Int32) → Prop) (g0_end : Int32) (f1 : Nat → Int32) (g0_point : Int32) (g0_begin : Int32) (x1 : Int32) (x2 : Int32) (x3 : Int32) (s0 : Int32) : Prop :=
  ∀ v1 : Int32, v1 = g0_point + 1 →
  k7 v1 g0_begin x1 x2 x3 s0
def wpX11_figures_7 (post : Int32 → (Int32 × Int32) → Prop) (g0_end : Int32) (f1 : Nat → Int32) : Nat → Int32 → Int32 → Int32 → Int32 → Int32 → Int32 → Prop
  | 0, _, _, _, _, _, _ => False
  | n_7 + 1, g0_point, g0_begin, x1, x2, x3, x4 =>
    wpX11_isAt (fun (r2 : Int32) (u1 : Unit) =>
     (r2 = 0 →
      (g0_point = g0_begin →
       post (-1) (g0_point, g0_begin)) ∧
      (¬ g0_point = g0_begin →
       (x3 < (g0_point - g0_begin) →
        post (-1) (g0_point, g0_begin)) ∧
       (¬ x3 < (g0_point - g0_begin) →
        (x4 < x1 →
         post (-1) (g0_point, g0_begin)) ∧
        (¬ x4 < x1 →
         (x4 ≤ x2 →
          post x4 (g0_point, g0_begin)) ∧
         (¬ x4 ≤ x2 →
          post (-1) (g0_point, g0_begin)))))) ∧
     (¬ r2 = 0 →
      (x3 ≤ (g0_point - g0_begin) →
       wpX11_figures_54 (fun y0 y1 y2 y3 y4 y5 => wpX11_figures_7 post g0_end f1 n_7 y0 y1 y2 y3 y4 y5) post g0_end f1 g0_point g0_begin x1 x2 x3 x4) ∧
      (¬ x3 ≤ (g0_point - g0_begin) →
       vp_in g0_point 400 ∧
       wpX11_figures_54 (fun y0 y1 y2 y3 y4 y5 => wpX11_figures_7 post g0_end f1 n_7 y0 y1 y2 y3 y4 y5) post g0_end f1 g0_point g0_begin x1 x2 x3 (((10 * x4) + (f1 g0_point.toNatClampNeg)) - 48)))) g0_point g0_end f1 48 57
def wpX11_figures (post : Int32 → (Int32 × Int32) → Prop) (g0_end : Int32) (f1 : Nat → Int32) (g0_point : Int32) (g0_begin : Int32) (p0 : Int32) (p1 : Int32) (p2 : Int32) : Prop :=
  wpX11_blanks (fun (u1 : Int32 × Int32) =>
   ∃ n_7 : Nat, wpX11_figures_7 post g0_end f1 n_7 u1.1 u1.2 p0 p1 p2 0) g0_end f1 g0_point g0_begin
def wpX11_number (post : Int32 → (Int32 × Int32) → Prop) (g0_end : Int32) (f1 : Nat → Int32) (g0_point : Int32) (g0_begin : Int32) (p0 : Int32) (p1 : Int32) : Prop :=
  wpX11_figures (fun (r2 : Int32) (u1 : Int32 × Int32) =>
   post r2 (u1.1, u1.2)) g0_end f1 g0_point g0_begin p0 p1 3
def wpX11_fault (post : Int32 → Int32 → Prop) (g0_faultAt : Int32) (g0_thrown : Int32) : Prop :=
  post g0_faultAt (0)
def wpX11_uses (post : (Int32 × Int32 × Int32 × Int32) → Prop) (g0_thrown : Int32) (g0_taped : Int32) (g0_point : Int32) (g0_end : Int32) : Prop :=
  post (0, 0, 0, g0_taped)
def wpX11_readCorners_0 (post : Int32 → (Int32 × Int32 × (Nat → Int32)) → Prop) (g0_end : Int32) (f1 : Nat → Int32) : Nat → Int32 → Int32 → (Nat → Int32) → Int32 → Prop
  | 0, _, _, _, _ => False
  | n_0 + 1, g0_point, g0_begin, f2, x1 =>
    wpX11_number (fun (r2 : Int32) (u1 : Int32 × Int32) =>
     wpX11_cornersOf (fun (r4 : Int32) (u3 : Unit) =>
      (r2 < 0 →
       post 0 (u1.1, u1.2, f2)) ∧
      (¬ r2 < 0 →
       (¬ r4 = 30 →
        wpX11_number (fun (r6 : Int32) (u5 : Int32 × Int32) =>
         (0 ≤ r6 →
          vp_in (((14 + (61 * x1)) + 1) + (2 * r4)) 2508 ∧
          vp_in (((14 + (61 * x1)) + 2) + (2 * r4)) 2508 ∧
          vp_in (14 + (61 * x1)) 2508 ∧
          vp_in (14 + (61 * x1)) 2508 ∧
          wpX11_blanks (fun (u7 : Int32 × Int32) =>
           wpX11_isAt (fun (r9 : Int32) (u8 : Unit) =>
            (¬ r9 = 0 →
             wpX11_readCorners_0 post g0_end f1 n_0 u7.1 u7.2 (upd (upd (upd f2 (((14 + (61 * x1)) + 1) + (2 * r4)).toNatClampNeg r2) (((14 + (61 * x1)) + 2) + (2 * r4)).toNatClampNeg r6) (14 + (61 * x1)).toNatClampNeg (((upd (upd f2 (((14 + (61 * x1)) + 1) + (2 * r4)).toNatClampNeg r2) (((14 + (61 * x1)) + 2) + (2 * r4)).toNatClampNeg r6) (14 + (61 * x1)).toNatClampNeg) + 1)) x1) ∧
            (r9 = 0 →
             post 1 (u7.1, u7.2, (upd (upd (upd f2 (((14 + (61 * x1)) + 1) + (2 * r4)).toNatClampNeg r2) (((14 + (61 * x1)) + 2) + (2 * r4)).toNatClampNeg r6) (14 + (61 * x1)).toNatClampNeg (((upd (upd f2 (((14 + (61 * x1)) + 1) + (2 * r4)).toNatClampNeg r2) (((14 + (61 * x1)) + 2) + (2 * r4)).toNatClampNeg r6) (14 + (61 * x1)).toNatClampNeg) + 1))))) u7.1 g0_end f1 48 57) g0_end f1 u5.1 u5.2) ∧
         (¬ 0 ≤ r6 →
          post 0 (u5.1, u5.2, f2))) g0_end f1 u1.1 u1.2 0 999) ∧
       (r4 = 30 →
        post 0 (u1.1, u1.2, f2)))) f2 x1) g0_end f1 g0_point g0_begin 0 999
def wpX11_readCorners (post : Int32 → (Int32 × Int32 × (Nat → Int32)) → Prop) (g0_end : Int32) (f1 : Nat → Int32) (g0_point : Int32) (g0_begin : Int32) (f2 : Nat → Int32) (p0 : Int32) : Prop :=
  ∃ n_0 : Nat, wpX11_readCorners_0 post g0_end f1 n_0 g0_point g0_begin f2 p0
def wpX11_readWay (post : Int32 → (Int32 × Int32 × (Nat → Int32)) → Prop) (g0_end : Int32) (f2 : Nat → Int32) (g0_point : Int32) (g0_begin : Int32) (f1 : Nat → Int32) : Prop :=
  wpX11_ways (fun (r2 : Int32) (u1 : Unit) =>
   (¬ r2 = 12 →
    vp_in (14 + (61 * r2)) 2508 ∧
    vp_in 0 2508 ∧
    vp_in 0 2508 ∧
    wpX11_readCorners (fun (r4 : Int32) (u3 : Int32 × Int32 × (Nat → Int32)) =>
     (r4 = 0 ∨ r4 = 1) ∧ post r4 (u3.1, u3.2.1, u3.2.2)) g0_end f2 g0_point g0_begin (upd (upd f1 (14 + (61 * r2)).toNatClampNeg 0) (0 : Int32).toNatClampNeg (((upd f1 (14 + (61 * r2)).toNatClampNeg 0) (0 : Int32).toNatClampNeg) + 1)) r2) ∧
   (r2 = 12 →
    post 0 (g0_point, g0_begin, f1))) f1
def wpX11_readWall_17 (post : Int32 → (Int32 × Int32 × (Nat → Int32)) → Prop) (g0_end : Int32) (f2 : Nat → Int32) : Nat → Int32 → Int32 → (Nat → Int32) → Int32 → Int32 → Prop
  | 0, _, _, _, _, _ => False
  | n_17 + 1, g0_point, g0_begin, f1, x1, x2 =>
    (4 ≤ x2 →
     vp_in 1 2508 ∧
     vp_in 1 2508 ∧
     post 1 (g0_point, g0_begin, (upd f1 (1 : Int32).toNatClampNeg ((f1 (1 : Int32).toNatClampNeg) + 1)))) ∧
    (¬ 4 ≤ x2 →
     wpX11_number (fun (r2 : Int32) (u1 : Int32 × Int32) =>
      (0 ≤ r2 →
       vp_in ((746 + (4 * x1)) + x2) 2508 ∧
       ∀ v3 : Int32, v3 = x2 + 1 →
       wpX11_readWall_17 post g0_end f2 n_17 u1.1 u1.2 (upd f1 ((746 + (4 * x1)) + x2).toNatClampNeg r2) x1 v3) ∧
      (¬ 0 ≤ r2 →
       post 0 (u1.1, u1.2, f1))) g0_end f2 g0_point g0_begin 0 999)
def wpX11_readWall (post : Int32 → (Int32 × Int32 × (Nat → Int32)) → Prop) (g0_end : Int32) (f2 : Nat → Int32) (g0_point : Int32) (g0_begin : Int32) (f1 : Nat → Int32) : Prop :=
  vp_in 1 2508 ∧
  ∀ v1 : Int32, v1 = f1 (1 : Int32).toNatClampNeg →
  (¬ v1 = 8 →
   ∃ n_17 : Nat, wpX11_readWall_17 post g0_end f2 n_17 g0_point g0_begin f1 v1 0) ∧
  (v1 = 8 →
   post 0 (g0_point, g0_begin, f1))
def wpX11_readParkLine (post : Int32 → (Int32 × Int32 × (Nat → Int32)) → Prop) (g0_end : Int32) (f1 : Nat → Int32) (g0_point : Int32) (g0_begin : Int32) (f2 : Nat → Int32) : Prop :=
  wpX11_isWord [119, 97, 121] (fun (r2 : Int32) (u1 : Unit) =>
   (r2 = 0 →
    wpX11_isWord [119, 97, 108, 108] (fun (r4 : Int32) (u3 : Unit) =>
     (r4 = 0 →
      wpX11_isWord [109, 111, 114, 101] (fun (r6 : Int32) (u5 : Unit) =>
       (¬ r6 = 0 →
        wpX11_ways (fun (r8 : Int32) (u7 : Unit) =>
         wpX11_number (fun (r10 : Int32) (u9 : Int32 × Int32) =>
          (r10 < 0 →
           post 0 (u9.1, u9.2, f2)) ∧
          (¬ r10 < 0 →
           wpX11_readCorners (fun (r12 : Int32) (u11 : Int32 × Int32 × (Nat → Int32)) =>
            (r12 = 0 →
             post 0 (u11.1, u11.2.1, u11.2.2)) ∧
            (¬ r12 = 0 →
             post 1 (u11.1, u11.2.1, u11.2.2))) g0_end f1 u9.1 u9.2 f2 r10)) g0_end f1 g0_point g0_begin 0 (r8 - 1)) f2) ∧
       (r6 = 0 →
        post 0 (g0_point, g0_begin, f2))) g0_point g0_begin f1) ∧
     (¬ r4 = 0 →
      wpX11_readWall (fun (r14 : Int32) (u13 : Int32 × Int32 × (Nat → Int32)) =>
       (r14 = 0 ∨ r14 = 1) ∧ post r14 (u13.1, u13.2.1, u13.2.2)) g0_end f1 g0_point g0_begin f2)) g0_point g0_begin f1) ∧
   (¬ r2 = 0 →
    wpX11_readWay (fun (r16 : Int32) (u15 : Int32 × Int32 × (Nat → Int32)) =>
     (r16 = 0 ∨ r16 = 1) ∧ post r16 (u15.1, u15.2.1, u15.2.2)) g0_end f1 g0_point g0_begin f2)) g0_point g0_begin f1
def wpX11_emits (post : (Int32 × (Nat → Int32)) → Prop) (g0_steps : Int32) (f1 : Nat → Int32) (p0 : Int32) (p1 : Int32) : Prop :=
  vp_in (1708 + (2 * g0_steps)) 2508 ∧
  vp_in ((1708 + (2 * g0_steps)) + 1) 2508 ∧
  ∀ v1 : Int32, v1 = g0_steps + 1 →
  post (v1, (upd (upd f1 (1708 + (2 * g0_steps)).toNatClampNeg p0) ((1708 + (2 * g0_steps)) + 1).toNatClampNeg p1))
def wpX11_readPart_135 (post : Int32 → (Int32 × Int32 × Int32 × (Nat → Int32)) → Prop) (g0_end : Int32) (f1 : Nat → Int32) (g0_point : Int32) (g0_begin : Int32) (g0_steps : Int32) (f2 : Nat → Int32) (x1 : Int32) : Prop :=
  (x1 < 0 →
   post 0 (g0_point, g0_begin, g0_steps, f2)) ∧
  (¬ x1 < 0 →
   post 1 (g0_point, g0_begin, g0_steps, f2))
def wpX11_readPart_128 (post : Int32 → (Int32 × Int32 × Int32 × (Nat → Int32)) → Prop) (g0_end : Int32) (f1 : Nat → Int32) (g0_point : Int32) (g0_begin : Int32) (g0_steps : Int32) (f2 : Nat → Int32) (s0 : Int32) : Prop :=
  wpX11_emits (fun (u1 : Int32 × (Nat → Int32)) =>
   wpX11_readPart_135 post g0_end f1 g0_point g0_begin u1.1 u1.2 s0) g0_steps f2 s0 0
def wpX11_readPart (post : Int32 → (Int32 × Int32 × Int32 × (Nat → Int32)) → Prop) (g0_end : Int32) (f1 : Nat → Int32) (g0_point : Int32) (g0_begin : Int32) (g0_steps : Int32) (f2 : Nat → Int32) : Prop :=
  wpX11_letters (fun (u1 : Int32 × Int32) =>
   (¬ u1.1 = u1.2 →
    wpX11_isWord [109, 97, 110] (fun (r3 : Int32) (u2 : Unit) =>
     (r3 = 0 →
      wpX11_isWord [100, 111, 103] (fun (r5 : Int32) (u4 : Unit) =>
       (r5 = 0 →
        wpX11_isWord [102, 97, 114] (fun (r7 : Int32) (u6 : Unit) =>
         (r7 = 0 →
          wpX11_isWord [109, 120] (fun (r9 : Int32) (u8 : Unit) =>
           (r9 = 0 →
            wpX11_isWord [109, 121] (fun (r11 : Int32) (u10 : Unit) =>
             (r11 = 0 →
              wpX11_isWord [100, 120] (fun (r13 : Int32) (u12 : Unit) =>
               (r13 = 0 →
                wpX11_isWord [100, 121] (fun (r15 : Int32) (u14 : Unit) =>
                 (r15 = 0 →
                  wpX11_readPart_128 post g0_end f1 u1.1 u1.2 g0_steps f2 (-1)) ∧
                 (¬ r15 = 0 →
                  wpX11_readPart_128 post g0_end f1 u1.1 u1.2 g0_steps f2 6)) u1.1 u1.2 f1) ∧
               (¬ r13 = 0 →
                wpX11_readPart_128 post g0_end f1 u1.1 u1.2 g0_steps f2 5)) u1.1 u1.2 f1) ∧
             (¬ r11 = 0 →
              wpX11_readPart_128 post g0_end f1 u1.1 u1.2 g0_steps f2 4)) u1.1 u1.2 f1) ∧
           (¬ r9 = 0 →
            wpX11_readPart_128 post g0_end f1 u1.1 u1.2 g0_steps f2 3)) u1.1 u1.2 f1) ∧
         (¬ r7 = 0 →
          wpX11_readPart_128 post g0_end f1 u1.1 u1.2 g0_steps f2 2)) u1.1 u1.2 f1) ∧
       (¬ r5 = 0 →
        wpX11_readPart_128 post g0_end f1 u1.1 u1.2 g0_steps f2 1)) u1.1 u1.2 f1) ∧
     (¬ r3 = 0 →
      wpX11_readPart_128 post g0_end f1 u1.1 u1.2 g0_steps f2 0)) u1.1 u1.2 f1) ∧
   (u1.1 = u1.2 →
    wpX11_figures (fun (r17 : Int32) (u16 : Int32 × Int32) =>
     wpX11_emits (fun (u18 : Int32 × (Nat → Int32)) =>
      wpX11_readPart_135 post g0_end f1 u16.1 u16.2 u18.1 u18.2 r17) g0_steps f2 7 r17) g0_end f1 u1.1 u1.2 0 9999999 7)) g0_end f1 g0_point g0_begin
def wpX11_readSum_9 (post : Int32 → (Int32 × Int32 × Int32 × (Nat → Int32)) → Prop) (g0_end : Int32) (f1 : Nat → Int32) : Nat → Int32 → Int32 → Int32 → (Nat → Int32) → Prop
  | 0, _, _, _, _ => False
  | n_9 + 1, g0_point, g0_begin, g0_steps, f2 =>
    wpX11_sign (fun (r2 : Int32) (u1 : Int32 × Int32) =>
     (r2 = 0 →
      post 1 (u1.1, u1.2, g0_steps, f2)) ∧
     (¬ r2 = 0 →
      wpX11_readPart (fun (r4 : Int32) (u3 : Int32 × Int32 × Int32 × (Nat → Int32)) =>
       (¬ r4 = 0 →
        wpX11_emits (fun (u5 : Int32 × (Nat → Int32)) =>
         wpX11_readSum_9 post g0_end f1 n_9 u3.1 u3.2.1 u5.1 u5.2) u3.2.2.1 u3.2.2.2 8 0) ∧
       (r4 = 0 →
        post 0 (u3.1, u3.2.1, u3.2.2.1, u3.2.2.2))) g0_end f1 u1.1 u1.2 g0_steps f2)) g0_end f1 g0_point g0_begin 43
def wpX11_readSum (post : Int32 → (Int32 × Int32 × Int32 × (Nat → Int32)) → Prop) (g0_end : Int32) (f1 : Nat → Int32) (g0_point : Int32) (g0_begin : Int32) (g0_steps : Int32) (f2 : Nat → Int32) : Prop :=
  wpX11_readPart (fun (r2 : Int32) (u1 : Int32 × Int32 × Int32 × (Nat → Int32)) =>
   (¬ r2 = 0 →
    ∃ n_9 : Nat, wpX11_readSum_9 post g0_end f1 n_9 u1.1 u1.2.1 u1.2.2.1 u1.2.2.2) ∧
   (r2 = 0 →
    post 0 (u1.1, u1.2.1, u1.2.2.1, u1.2.2.2))) g0_end f1 g0_point g0_begin g0_steps f2
def wpX11_readCond_9 (kR0 : (Int32 → (Int32 × Int32 × Int32 × Int32 × (Nat → Int32)) → Prop) → Int32 → (Nat → Int32) → Int32 → Int32 → Int32 → Int32 → (Nat → Int32) → Prop) (kR1 : (Int32 → (Int32 × Int32 × Int32 × Int32 × (Nat → Int32)) → Prop) → Int32 → (Nat → Int32) → Int32 → Int32 → Int32 → Int32 → (Nat → Int32) → Prop) (kR2 : (Int32 → (Int32 × Int32 × Int32 × Int32 × (Nat → Int32)) → Prop) → Int32 → (Nat → Int32) → Int32 → Int32 → Int32 → Int32 → (Nat → Int32) → Prop) (post : Int32 → (Int32 × Int32 × Int32 × Int32 × (Nat → Int32)) → Prop) (g0_end : Int32) (f1 : Nat → Int32) : Nat → Int32 → Int32 → Int32 → Int32 → (Nat → Int32) → Prop
  | 0, _, _, _, _, _ => False
  | n_9 + 1, g0_point, g0_begin, g0_deep, g0_steps, f2 =>
    wpX11_passes [111, 114] (fun (r2 : Int32) (u1 : Int32 × Int32) =>
     (r2 = 0 →
      post 1 (u1.1, u1.2, g0_deep, g0_steps, f2)) ∧
     (¬ r2 = 0 →
      kR1 (fun (r4 : Int32) (u3 : Int32 × Int32 × Int32 × Int32 × (Nat → Int32)) =>
       (¬ r4 = 0 →
        wpX11_emits (fun (u5 : Int32 × (Nat → Int32)) =>
         wpX11_readCond_9 kR0 kR1 kR2 post g0_end f1 n_9 u3.1 u3.2.1 u3.2.2.1 u5.1 u5.2) u3.2.2.2.1 u3.2.2.2.2 13 0) ∧
       (r4 = 0 →
        post 0 (u3.1, u3.2.1, u3.2.2.1, u3.2.2.2.1, u3.2.2.2.2))) g0_end f1 u1.1 u1.2 g0_deep g0_steps f2)) g0_end f1 g0_point g0_begin
def wpX11_readCond (kR0 : (Int32 → (Int32 × Int32 × Int32 × Int32 × (Nat → Int32)) → Prop) → Int32 → (Nat → Int32) → Int32 → Int32 → Int32 → Int32 → (Nat → Int32) → Prop) (kR1 : (Int32 → (Int32 × Int32 × Int32 × Int32 × (Nat → Int32)) → Prop) → Int32 → (Nat → Int32) → Int32 → Int32 → Int32 → Int32 → (Nat → Int32) → Prop) (kR2 : (Int32 → (Int32 × Int32 × Int32 × Int32 × (Nat → Int32)) → Prop) → Int32 → (Nat → Int32) → Int32 → Int32 → Int32 → Int32 → (Nat → Int32) → Prop) (post : Int32 → (Int32 × Int32 × Int32 × Int32 × (Nat → Int32)) → Prop) (g0_end : Int32) (f1 : Nat → Int32) (g0_point : Int32) (g0_begin : Int32) (g0_deep : Int32) (g0_steps : Int32) (f2 : Nat → Int32) : Prop :=
  kR1 (fun (r2 : Int32) (u1 : Int32 × Int32 × Int32 × Int32 × (Nat → Int32)) =>
   (¬ r2 = 0 →
    ∃ n_9 : Nat, wpX11_readCond_9 kR0 kR1 kR2 post g0_end f1 n_9 u1.1 u1.2.1 u1.2.2.1 u1.2.2.2.1 u1.2.2.2.2) ∧
   (r2 = 0 →
    post 0 (u1.1, u1.2.1, u1.2.2.1, u1.2.2.2.1, u1.2.2.2.2))) g0_end f1 g0_point g0_begin g0_deep g0_steps f2
def wpX11_readAllOf_9 (kR0 : (Int32 → (Int32 × Int32 × Int32 × Int32 × (Nat → Int32)) → Prop) → Int32 → (Nat → Int32) → Int32 → Int32 → Int32 → Int32 → (Nat → Int32) → Prop) (kR1 : (Int32 → (Int32 × Int32 × Int32 × Int32 × (Nat → Int32)) → Prop) → Int32 → (Nat → Int32) → Int32 → Int32 → Int32 → Int32 → (Nat → Int32) → Prop) (kR2 : (Int32 → (Int32 × Int32 × Int32 × Int32 × (Nat → Int32)) → Prop) → Int32 → (Nat → Int32) → Int32 → Int32 → Int32 → Int32 → (Nat → Int32) → Prop) (post : Int32 → (Int32 × Int32 × Int32 × Int32 × (Nat → Int32)) → Prop) (g0_end : Int32) (f1 : Nat → Int32) : Nat → Int32 → Int32 → Int32 → Int32 → (Nat → Int32) → Prop
  | 0, _, _, _, _, _ => False
  | n_9 + 1, g0_point, g0_begin, g0_deep, g0_steps, f2 =>
    wpX11_passes [97, 110, 100] (fun (r2 : Int32) (u1 : Int32 × Int32) =>
     (r2 = 0 →
      post 1 (u1.1, u1.2, g0_deep, g0_steps, f2)) ∧
     (¬ r2 = 0 →
      kR2 (fun (r4 : Int32) (u3 : Int32 × Int32 × Int32 × Int32 × (Nat → Int32)) =>
       (¬ r4 = 0 →
        wpX11_emits (fun (u5 : Int32 × (Nat → Int32)) =>
         wpX11_readAllOf_9 kR0 kR1 kR2 post g0_end f1 n_9 u3.1 u3.2.1 u3.2.2.1 u5.1 u5.2) u3.2.2.2.1 u3.2.2.2.2 12 0) ∧
       (r4 = 0 →
        post 0 (u3.1, u3.2.1, u3.2.2.1, u3.2.2.2.1, u3.2.2.2.2))) g0_end f1 u1.1 u1.2 g0_deep g0_steps f2)) g0_end f1 g0_point g0_begin
def wpX11_readAllOf (kR0 : (Int32 → (Int32 × Int32 × Int32 × Int32 × (Nat → Int32)) → Prop) → Int32 → (Nat → Int32) → Int32 → Int32 → Int32 → Int32 → (Nat → Int32) → Prop) (kR1 : (Int32 → (Int32 × Int32 × Int32 × Int32 × (Nat → Int32)) → Prop) → Int32 → (Nat → Int32) → Int32 → Int32 → Int32 → Int32 → (Nat → Int32) → Prop) (kR2 : (Int32 → (Int32 × Int32 × Int32 × Int32 × (Nat → Int32)) → Prop) → Int32 → (Nat → Int32) → Int32 → Int32 → Int32 → Int32 → (Nat → Int32) → Prop) (post : Int32 → (Int32 × Int32 × Int32 × Int32 × (Nat → Int32)) → Prop) (g0_end : Int32) (f1 : Nat → Int32) (g0_point : Int32) (g0_begin : Int32) (g0_deep : Int32) (g0_steps : Int32) (f2 : Nat → Int32) : Prop :=
  kR2 (fun (r2 : Int32) (u1 : Int32 × Int32 × Int32 × Int32 × (Nat → Int32)) =>
   (¬ r2 = 0 →
    ∃ n_9 : Nat, wpX11_readAllOf_9 kR0 kR1 kR2 post g0_end f1 n_9 u1.1 u1.2.1 u1.2.2.1 u1.2.2.2.1 u1.2.2.2.2) ∧
   (r2 = 0 →
    post 0 (u1.1, u1.2.1, u1.2.2.1, u1.2.2.2.1, u1.2.2.2.2))) g0_end f1 g0_point g0_begin g0_deep g0_steps f2
def wpX11_readAtom_164 (kR0 : (Int32 → (Int32 × Int32 × Int32 × Int32 × (Nat → Int32)) → Prop) → Int32 → (Nat → Int32) → Int32 → Int32 → Int32 → Int32 → (Nat → Int32) → Prop) (kR1 : (Int32 → (Int32 × Int32 × Int32 × Int32 × (Nat → Int32)) → Prop) → Int32 → (Nat → Int32) → Int32 → Int32 → Int32 → Int32 → (Nat → Int32) → Prop) (kR2 : (Int32 → (Int32 × Int32 × Int32 × Int32 × (Nat → Int32)) → Prop) → Int32 → (Nat → Int32) → Int32 → Int32 → Int32 → Int32 → (Nat → Int32) → Prop) (post : Int32 → (Int32 × Int32 × Int32 × Int32 × (Nat → Int32)) → Prop) (g0_end : Int32) (f1 : Nat → Int32) (g0_point : Int32) (g0_begin : Int32) (g0_deep : Int32) (g0_steps : Int32) (f2 : Nat → Int32) (s1 : Int32) : Prop :=
  wpX11_emits (fun (u1 : Int32 × (Nat → Int32)) =>
   post 1 (g0_point, g0_begin, g0_deep, u1.1, u1.2)) g0_steps f2 s1 0
def wpX11_readAtom_143 (kR0 : (Int32 → (Int32 × Int32 × Int32 × Int32 × (Nat → Int32)) → Prop) → Int32 → (Nat → Int32) → Int32 → Int32 → Int32 → Int32 → (Nat → Int32) → Prop) (kR1 : (Int32 → (Int32 × Int32 × Int32 × Int32 × (Nat → Int32)) → Prop) → Int32 → (Nat → Int32) → Int32 → Int32 → Int32 → Int32 → (Nat → Int32) → Prop) (kR2 : (Int32 → (Int32 × Int32 × Int32 × Int32 × (Nat → Int32)) → Prop) → Int32 → (Nat → Int32) → Int32 → Int32 → Int32 → Int32 → (Nat → Int32) → Prop) (post : Int32 → (Int32 × Int32 × Int32 × Int32 × (Nat → Int32)) → Prop) (g0_end : Int32) (f1 : Nat → Int32) (g0_point : Int32) (g0_begin : Int32) (g0_deep : Int32) (g0_steps : Int32) (f2 : Nat → Int32) (x1 : Int32) : Prop :=
  wpX11_readSum (fun (r2 : Int32) (u1 : Int32 × Int32 × Int32 × (Nat → Int32)) =>
   (¬ r2 = 0 →
    (x1 = 0 →
     wpX11_readAtom_164 kR0 kR1 kR2 post g0_end f1 u1.1 u1.2.1 g0_deep u1.2.2.1 u1.2.2.2 10) ∧
    (¬ x1 = 0 →
     wpX11_readAtom_164 kR0 kR1 kR2 post g0_end f1 u1.1 u1.2.1 g0_deep u1.2.2.1 u1.2.2.2 9)) ∧
   (r2 = 0 →
    post 0 (u1.1, u1.2.1, g0_deep, u1.2.2.1, u1.2.2.2))) g0_end f1 g0_point g0_begin g0_steps f2
def wpX11_readAtom (kR0 : (Int32 → (Int32 × Int32 × Int32 × Int32 × (Nat → Int32)) → Prop) → Int32 → (Nat → Int32) → Int32 → Int32 → Int32 → Int32 → (Nat → Int32) → Prop) (kR1 : (Int32 → (Int32 × Int32 × Int32 × Int32 × (Nat → Int32)) → Prop) → Int32 → (Nat → Int32) → Int32 → Int32 → Int32 → Int32 → (Nat → Int32) → Prop) (kR2 : (Int32 → (Int32 × Int32 × Int32 × Int32 × (Nat → Int32)) → Prop) → Int32 → (Nat → Int32) → Int32 → Int32 → Int32 → Int32 → (Nat → Int32) → Prop) (post : Int32 → (Int32 × Int32 × Int32 × Int32 × (Nat → Int32)) → Prop) (g0_end : Int32) (f1 : Nat → Int32) (g0_point : Int32) (g0_begin : Int32) (g0_deep : Int32) (g0_steps : Int32) (f2 : Nat → Int32) : Prop :=
  wpX11_sign (fun (r2 : Int32) (u1 : Int32 × Int32) =>
   (r2 = 0 →
    wpX11_passes [110, 111, 116] (fun (r4 : Int32) (u3 : Int32 × Int32) =>
     (r4 = 0 →
      wpX11_readSum (fun (r6 : Int32) (u5 : Int32 × Int32 × Int32 × (Nat → Int32)) =>
       (¬ r6 = 0 →
        wpX11_sign (fun (r8 : Int32) (u7 : Int32 × Int32) =>
         (¬ r8 = 0 →
          wpX11_readAtom_143 kR0 kR1 kR2 post g0_end f1 u7.1 u7.2 g0_deep u5.2.2.1 u5.2.2.2 r8) ∧
         (r8 = 0 →
          wpX11_sign (fun (r10 : Int32) (u9 : Int32 × Int32) =>
           (r10 = 0 →
            post 0 (u9.1, u9.2, g0_deep, u5.2.2.1, u5.2.2.2)) ∧
           (¬ r10 = 0 →
            wpX11_readAtom_143 kR0 kR1 kR2 post g0_end f1 u9.1 u9.2 g0_deep u5.2.2.1 u5.2.2.2 r8)) g0_end f1 u7.1 u7.2 62)) g0_end f1 u5.1 u5.2.1 60) ∧
       (r6 = 0 →
        post 0 (u5.1, u5.2.1, g0_deep, u5.2.2.1, u5.2.2.2))) g0_end f1 u3.1 u3.2 g0_steps f2) ∧
     (¬ r4 = 0 →
      (¬ g0_deep = 6 →
       ∀ v11 : Int32, v11 = g0_deep + 1 →
       kR2 (fun (r13 : Int32) (u12 : Int32 × Int32 × Int32 × Int32 × (Nat → Int32)) =>
        (¬ r13 = 0 →
         ∀ v14 : Int32, v14 = u12.2.2.1 - 1 →
         wpX11_emits (fun (u15 : Int32 × (Nat → Int32)) =>
          post 1 (u12.1, u12.2.1, v14, u15.1, u15.2)) u12.2.2.2.1 u12.2.2.2.2 11 0) ∧
        (r13 = 0 →
         post 0 (u12.1, u12.2.1, u12.2.2.1, u12.2.2.2.1, u12.2.2.2.2))) g0_end f1 u3.1 u3.2 v11 g0_steps f2) ∧
      (g0_deep = 6 →
       post 0 (u3.1, u3.2, g0_deep, g0_steps, f2)))) g0_end f1 u1.1 u1.2) ∧
   (¬ r2 = 0 →
    (¬ g0_deep = 6 →
     ∀ v16 : Int32, v16 = g0_deep + 1 →
     kR0 (fun (r18 : Int32) (u17 : Int32 × Int32 × Int32 × Int32 × (Nat → Int32)) =>
      (¬ r18 = 0 →
       ∀ v19 : Int32, v19 = u17.2.2.1 - 1 →
       wpX11_sign (fun (r21 : Int32) (u20 : Int32 × Int32) =>
        (r21 = 0 ∨ r21 = 1) ∧ post r21 (u20.1, u20.2, v19, u17.2.2.2.1, u17.2.2.2.2)) g0_end f1 u17.1 u17.2.1 41) ∧
      (r18 = 0 →
       post 0 (u17.1, u17.2.1, u17.2.2.1, u17.2.2.2.1, u17.2.2.2.2))) g0_end f1 u1.1 u1.2 v16 g0_steps f2) ∧
    (g0_deep = 6 →
     post 0 (u1.1, u1.2, g0_deep, g0_steps, f2)))) g0_end f1 g0_point g0_begin 40
def wpX11R : Nat → Nat → (Int32 → (Int32 × Int32 × Int32 × Int32 × (Nat → Int32)) → Prop) → Int32 → (Nat → Int32) → Int32 → Int32 → Int32 → Int32 → (Nat → Int32) → Prop
  | 0 => fun _ _ _ _ _ _ _ _ _ => False
  | n + 1 => fun w post g0_end f1 g0_point g0_begin g0_deep g0_steps f2 => if w = 0 then wpX11_readCond (wpX11R n 0) (wpX11R n 1) (wpX11R n 2) post g0_end f1 g0_point g0_begin g0_deep g0_steps f2 else if w = 1 then wpX11_readAllOf (wpX11R n 0) (wpX11R n 1) (wpX11R n 2) post g0_end f1 g0_point g0_begin g0_deep g0_steps f2 else wpX11_readAtom (wpX11R n 0) (wpX11R n 1) (wpX11R n 2) post g0_end f1 g0_point g0_begin g0_deep g0_steps f2
def wpX11_readLawLine_52 (post : Int32 → (Int32 × Int32 × Int32 × Int32 × (Nat → Int32)) → Prop) (g0_end : Int32) (f1 : Nat → Int32) (g0_point : Int32) (g0_begin : Int32) (g0_deep : Int32) (g0_steps : Int32) (f2 : Nat → Int32) (x2 : Int32) : Prop :=
  vp_in (x2 + 1) 2508 ∧
  post 1 (g0_point, g0_begin, g0_deep, g0_steps, (upd f2 (x2 + 1).toNatClampNeg g0_steps))
def wpX11_readLawLine (post : Int32 → (Int32 × Int32 × Int32 × Int32 × (Nat → Int32)) → Prop) (g0_end : Int32) (f1 : Nat → Int32) (g0_point : Int32) (g0_begin : Int32) (g0_deep : Int32) (g0_steps : Int32) (f2 : Nat → Int32) (p0 : Int32) : Prop :=
  ∀ v1 : Int32, v1 = 1684 + (2 * p0) →
  wpX11_isWord [98, 97, 114] (fun (r3 : Int32) (u2 : Unit) =>
   (¬ r3 = 0 →
    vp_in v1 2508 ∧
    wpX11_passes [105, 102] (fun (r5 : Int32) (u4 : Int32 × Int32) =>
     (r5 = 0 →
      wpX11_readLawLine_52 post g0_end f1 u4.1 u4.2 0 g0_steps (upd f2 v1.toNatClampNeg g0_steps) v1) ∧
     (¬ r5 = 0 →
      ∃ nG : Nat, nG ≤ 40 ∧ wpX11R nG 0 (fun (r7 : Int32) (u6 : Int32 × Int32 × Int32 × Int32 × (Nat → Int32)) =>
       (¬ r7 = 0 →
        wpX11_readLawLine_52 post g0_end f1 u6.1 u6.2.1 u6.2.2.1 u6.2.2.2.1 u6.2.2.2.2 v1) ∧
       (r7 = 0 →
        post 0 (u6.1, u6.2.1, u6.2.2.1, u6.2.2.2.1, u6.2.2.2.2))) g0_end f1 u4.1 u4.2 0 g0_steps (upd f2 v1.toNatClampNeg g0_steps))) g0_end f1 g0_point g0_begin) ∧
   (r3 = 0 →
    post 0 (g0_point, g0_begin, g0_deep, g0_steps, f2))) g0_point g0_begin f1
def wpX11_readLine_16 (post : Int32 → (Int32 × Int32 × Int32 × Int32 × (Nat → Int32)) → Prop) (g0_end : Int32) (f1 : Nat → Int32) (g0_point : Int32) (g0_begin : Int32) (g0_deep : Int32) (g0_steps : Int32) (f2 : Nat → Int32) (x1 : Int32) (x2 : Int32) (s0 : Int32) (s1 : Int32) : Prop :=
  (s1 ≤ s0 →
   post 0 (g0_point, g0_begin, g0_deep, g0_steps, f2)) ∧
  (¬ s1 ≤ s0 →
   (x1 = 0 →
    wpX11_readLawLine (fun (r2 : Int32) (u1 : Int32 × Int32 × Int32 × Int32 × (Nat → Int32)) =>
     (r2 = 0 →
      post 0 (u1.1, u1.2.1, u1.2.2.1, u1.2.2.2.1, u1.2.2.2.2)) ∧
     (¬ r2 = 0 →
      post 1 (u1.1, u1.2.1, u1.2.2.1, u1.2.2.2.1, u1.2.2.2.2))) g0_end f1 g0_point g0_begin g0_deep g0_steps f2 x2) ∧
   (¬ x1 = 0 →
    wpX11_readParkLine (fun (r4 : Int32) (u3 : Int32 × Int32 × (Nat → Int32)) =>
     (r4 = 0 →
      post 0 (u3.1, u3.2.1, g0_deep, g0_steps, u3.2.2)) ∧
     (¬ r4 = 0 →
      post 1 (u3.1, u3.2.1, g0_deep, g0_steps, u3.2.2))) g0_end f1 g0_point g0_begin f2))
def wpX11_readLine (post : Int32 → (Int32 × Int32 × Int32 × Int32 × (Nat → Int32)) → Prop) (g0_end : Int32) (f1 : Nat → Int32) (g0_point : Int32) (g0_begin : Int32) (g0_deep : Int32) (g0_steps : Int32) (f2 : Nat → Int32) (p0 : Int32) (p1 : Int32) : Prop :=
  wpX11_letters (fun (u1 : Int32 × Int32) =>
   (p0 = 0 →
    wpX11_readLine_16 post g0_end f1 u1.1 u1.2 g0_deep g0_steps f2 p0 p1 p1 12) ∧
   (¬ p0 = 0 →
    wpX11_readLine_16 post g0_end f1 u1.1 u1.2 g0_deep g0_steps f2 p0 p1 p1 14)) g0_end f1 g0_point g0_begin
def wpX11_readAll_28 (post : Int32 → (Int32 × Int32 × Int32 × Int32 × Int32 × Int32 × Int32 × (Nat → Int32)) → Prop) (f1 : Nat → Int32) : Nat → Int32 → Int32 → Int32 → Int32 → Int32 → Int32 → Int32 → (Nat → Int32) → Int32 → Int32 → Prop
  | 0, _, _, _, _, _, _, _, _, _, _ => False
  | n_28 + 1, g0_thrown, g0_taped, g0_point, g0_end, g0_begin, g0_deep, g0_steps, f2, x1, x2 =>
    wpX11_readLine (fun (r2 : Int32) (u1 : Int32 × Int32 × Int32 × Int32 × (Nat → Int32)) =>
     (¬ r2 = 0 →
      wpX11_blanks (fun (u3 : Int32 × Int32) =>
       (¬ u3.1 = g0_end →
        wpX11_isAt (fun (r5 : Int32) (u4 : Unit) =>
         (¬ r5 = 0 →
          ∀ v6 : Int32, v6 = u3.1 + 1 →
          ∀ v7 : Int32, v7 = x2 + 1 →
          wpX11_readAll_28 post f1 n_28 g0_thrown g0_taped v6 g0_end u3.2 u1.2.2.1 u1.2.2.2.1 u1.2.2.2.2 x1 v7) ∧
         (r5 = 0 →
          post (-1) (g0_thrown, g0_taped, u3.1, g0_end, u3.2, u1.2.2.1, u1.2.2.2.1, u1.2.2.2.2))) u3.1 g0_end f1 59 59) ∧
       (u3.1 = g0_end →
        post (x2 + 1) (g0_thrown, g0_taped, u3.1, g0_end, u3.2, u1.2.2.1, u1.2.2.2.1, u1.2.2.2.2))) g0_end f1 u1.1 u1.2.1) ∧
     (r2 = 0 →
      post (-1) (g0_thrown, g0_taped, u1.1, g0_end, u1.2.1, u1.2.2.1, u1.2.2.2.1, u1.2.2.2.2))) g0_end f1 g0_point g0_begin g0_deep g0_steps f2 x1 x2
def wpX11_readAll (post : Int32 → (Int32 × Int32 × Int32 × Int32 × Int32 × Int32 × Int32 × (Nat → Int32)) → Prop) (f1 : Nat → Int32) (g0_thrown : Int32) (g0_taped : Int32) (g0_point : Int32) (g0_end : Int32) (g0_begin : Int32) (g0_deep : Int32) (g0_steps : Int32) (f2 : Nat → Int32) (p0 : Int32) : Prop :=
  wpX11_uses (fun (u1 : Int32 × Int32 × Int32 × Int32) =>
   wpX11_blanks (fun (u2 : Int32 × Int32) =>
    (¬ u2.1 = u1.2.2.2 →
     ∃ n_28 : Nat, wpX11_readAll_28 post f1 n_28 u1.1 u1.2.1 u2.1 u1.2.2.2 u2.2 g0_deep 0 f2 p0 0) ∧
    (u2.1 = u1.2.2.2 →
     post 0 (u1.1, u1.2.1, u2.1, u1.2.2.2, u2.2, g0_deep, 0, f2))) u1.2.2.2 f1 u1.2.2.1 g0_begin) g0_thrown g0_taped g0_point g0_end
def wpX11_park_92 (post : Int32 → (Int32 × Int32 × Int32 × Int32 × Int32 × Int32 × Int32 × Int32 × Int32 × (Nat → Int32) × (Nat → Int32)) → Prop) (f3 : Nat → Int32) : Nat → Int32 → Int32 → Int32 → Int32 → Int32 → Int32 → Int32 → Int32 → Int32 → (Nat → Int32) → (Nat → Int32) → Int32 → Prop
  | 0, _, _, _, _, _, _, _, _, _, _, _, _ => False
  | n_92 + 1, g0_thrown, g0_remembered, g0_taped, g0_point, g0_end, g0_begin, g0_deep, g0_faultAt, g0_steps, f1, f2, x2 =>
    (1683 ≤ x2 →
     post 0 (g0_thrown, g0_remembered, g0_taped, g0_point, g0_end, g0_begin, g0_deep, g0_faultAt, g0_steps, f1, f2)) ∧
    (¬ 1683 ≤ x2 →
     vp_in x2 1683 ∧
     vp_in x2 2508 ∧
     ∀ v1 : Int32, v1 = x2 + 1 →
     wpX11_park_92 post f3 n_92 g0_thrown g0_remembered g0_taped g0_point g0_end g0_begin g0_deep g0_faultAt g0_steps (upd f1 x2.toNatClampNeg (f2 x2.toNatClampNeg)) f2 v1)
def wpX11_park_90 (post : Int32 → (Int32 × Int32 × Int32 × Int32 × Int32 × Int32 × Int32 × Int32 × Int32 × (Nat → Int32) × (Nat → Int32)) → Prop) (f3 : Nat → Int32) (g0_thrown : Int32) (g0_remembered : Int32) (g0_taped : Int32) (g0_point : Int32) (g0_end : Int32) (g0_begin : Int32) (g0_deep : Int32) (g0_faultAt : Int32) (g0_steps : Int32) (f1 : Nat → Int32) (f2 : Nat → Int32) : Prop :=
  ∃ n_92 : Nat, wpX11_park_92 post f3 n_92 g0_thrown g0_remembered g0_taped g0_point g0_end g0_begin g0_deep g0_faultAt g0_steps f1 f2 0
def wpX11_park_83 (post : Int32 → (Int32 × Int32 × Int32 × Int32 × Int32 × Int32 × Int32 × Int32 × Int32 × (Nat → Int32) × (Nat → Int32)) → Prop) (f3 : Nat → Int32) (g0_thrown : Int32) (g0_remembered : Int32) (g0_taped : Int32) (g0_point : Int32) (g0_end : Int32) (g0_begin : Int32) (g0_deep : Int32) (g0_faultAt : Int32) (g0_steps : Int32) (f1 : Nat → Int32) (f2 : Nat → Int32) (s1 : Int32) : Prop :=
  wpX11_throwsIf (fun (r2 : Int32) (u1 : Int32) =>
   (r2 = 0 →
    vp_in 2 2508 ∧
    vp_in 2 2508 ∧
    wpX11_endsWalk (fun (u3 : Int32 × (Nat → Int32)) =>
     vp_in 2 2508 ∧
     post (u3.2 (2 : Int32).toNatClampNeg) (u1, u3.1, g0_taped, g0_point, g0_end, g0_begin, g0_deep, g0_faultAt, g0_steps, u3.2, f2)) g0_remembered (upd f1 (2 : Int32).toNatClampNeg ((f1 (2 : Int32).toNatClampNeg) + 1))) ∧
   (¬ r2 = 0 →
    wpX11_park_90 post f3 u1 g0_remembered g0_taped g0_point g0_end g0_begin g0_deep g0_faultAt g0_steps f1 f2)) g0_thrown s1 2
def wpX11_park_59 (post : Int32 → (Int32 × Int32 × Int32 × Int32 × Int32 × Int32 × Int32 × Int32 × Int32 × (Nat → Int32) × (Nat → Int32)) → Prop) (f3 : Nat → Int32) (g0_thrown : Int32) (g0_remembered : Int32) (g0_taped : Int32) (g0_point : Int32) (g0_end : Int32) (g0_begin : Int32) (g0_deep : Int32) (g0_faultAt : Int32) (g0_steps : Int32) (f1 : Nat → Int32) (f2 : Nat → Int32) (s1 : Int32) : Prop :=
  wpX11_throwsIf (fun (r2 : Int32) (u1 : Int32) =>
   (¬ r2 = 0 →
    wpX11_park_90 post f3 u1 g0_remembered g0_taped g0_point g0_end g0_begin g0_deep g0_faultAt g0_steps f1 f2) ∧
   (r2 = 0 →
    vp_in 2 2508 ∧
    (¬ (f1 (2 : Int32).toNatClampNeg) = 16 →
     wpX11_park_83 post f3 u1 g0_remembered g0_taped g0_point g0_end g0_begin g0_deep g0_faultAt g0_steps f1 f2 0) ∧
    ((f1 (2 : Int32).toNatClampNeg) = 16 →
     wpX11_park_83 post f3 u1 g0_remembered g0_taped g0_point g0_end g0_begin g0_deep g0_faultAt g0_steps f1 f2 1))) g0_thrown s1 1
def wpX11_park_46 (post : Int32 → (Int32 × Int32 × Int32 × Int32 × Int32 × Int32 × Int32 × Int32 × Int32 × (Nat → Int32) × (Nat → Int32)) → Prop) (f3 : Nat → Int32) (g0_thrown : Int32) (g0_remembered : Int32) (g0_taped : Int32) (g0_point : Int32) (g0_end : Int32) (g0_begin : Int32) (g0_deep : Int32) (g0_faultAt : Int32) (g0_steps : Int32) (f1 : Nat → Int32) (f2 : Nat → Int32) (x1 : Int32) (s1 : Int32) : Prop :=
  (0 ≤ x1 →
   wpX11_park_59 post f3 g0_thrown g0_remembered g0_taped g0_point g0_end g0_begin g0_deep s1 g0_steps f1 f2 0) ∧
  (¬ 0 ≤ x1 →
   wpX11_park_59 post f3 g0_thrown g0_remembered g0_taped g0_point g0_end g0_begin g0_deep s1 g0_steps f1 f2 1)
def wpX11_park_2 (post : Int32 → (Int32 × Int32 × Int32 × Int32 × Int32 × Int32 × Int32 × Int32 × Int32 × (Nat → Int32) × (Nat → Int32)) → Prop) (f3 : Nat → Int32) : Nat → Int32 → Int32 → Int32 → Int32 → Int32 → Int32 → Int32 → Int32 → Int32 → (Nat → Int32) → (Nat → Int32) → Int32 → Prop
  | 0, _, _, _, _, _, _, _, _, _, _, _, _ => False
  | n_2 + 1, g0_thrown, g0_remembered, g0_taped, g0_point, g0_end, g0_begin, g0_deep, g0_faultAt, g0_steps, f1, f2, x1 =>
    (1683 ≤ x1 →
     wpX11_readAll (fun (r2 : Int32) (u1 : Int32 × Int32 × Int32 × Int32 × Int32 × Int32 × Int32 × (Nat → Int32)) =>
      (0 ≤ r2 →
       wpX11_park_46 post f3 u1.1 g0_remembered u1.2.1 u1.2.2.1 u1.2.2.2.1 u1.2.2.2.2.1 u1.2.2.2.2.2.1 g0_faultAt u1.2.2.2.2.2.2.1 u1.2.2.2.2.2.2.2 f2 r2 (-1)) ∧
      (¬ 0 ≤ r2 →
       wpX11_park_46 post f3 u1.1 g0_remembered u1.2.1 u1.2.2.1 u1.2.2.2.1 u1.2.2.2.2.1 u1.2.2.2.2.2.1 g0_faultAt u1.2.2.2.2.2.2.1 u1.2.2.2.2.2.2.2 f2 r2 u1.2.2.2.2.1)) f3 g0_thrown g0_taped g0_point g0_end g0_begin g0_deep g0_steps f1 1) ∧
    (¬ 1683 ≤ x1 →
     vp_in x1 2508 ∧
     vp_in x1 1683 ∧
     ∀ v3 : Int32, v3 = x1 + 1 →
     wpX11_park_2 post f3 n_2 g0_thrown g0_remembered g0_taped g0_point g0_end g0_begin g0_deep g0_faultAt g0_steps f1 (upd f2 x1.toNatClampNeg (f1 x1.toNatClampNeg)) v3)
def wpX11_park (post : Int32 → (Int32 × Int32 × Int32 × Int32 × Int32 × Int32 × Int32 × Int32 × Int32 × (Nat → Int32) × (Nat → Int32)) → Prop) (f3 : Nat → Int32) (g0_thrown : Int32) (g0_remembered : Int32) (g0_taped : Int32) (g0_point : Int32) (g0_end : Int32) (g0_begin : Int32) (g0_deep : Int32) (g0_faultAt : Int32) (g0_steps : Int32) (f1 : Nat → Int32) (f2 : Nat → Int32) : Prop :=
  ∃ n_2 : Nat, wpX11_park_2 post f3 n_2 g0_thrown g0_remembered g0_taped g0_point g0_end g0_begin g0_deep g0_faultAt g0_steps f1 f2 0
def wpX11_law_52 (post : Int32 → (Int32 × Int32 × Int32 × Int32 × Int32 × Int32 × Int32 × Int32 × Int32 × (Nat → Int32)) → Prop) (f1 : Nat → Int32) : Nat → Int32 → Int32 → Int32 → Int32 → Int32 → Int32 → Int32 → Int32 → Int32 → (Nat → Int32) → Int32 → Int32 → Prop
  | 0, _, _, _, _, _, _, _, _, _, _, _, _ => False
  | n_52 + 1, g0_thrown, g0_remembered, g0_taped, g0_point, g0_end, g0_begin, g0_deep, g0_faultAt, g0_steps, f2, x1, x2 =>
    (825 ≤ x2 →
     vp_in 3 2508 ∧
     wpX11_endsWalk (fun (u1 : Int32 × (Nat → Int32)) =>
      post x1 (g0_thrown, u1.1, g0_taped, g0_point, g0_end, g0_begin, g0_deep, g0_faultAt, g0_steps, u1.2)) g0_remembered (upd f2 (3 : Int32).toNatClampNeg 1)) ∧
    (¬ 825 ≤ x2 →
     vp_in (1683 + x2) 2508 ∧
     vp_in (858 + x2) 2508 ∧
     ∀ v2 : Int32, v2 = x2 + 1 →
     wpX11_law_52 post f1 n_52 g0_thrown g0_remembered g0_taped g0_point g0_end g0_begin g0_deep g0_faultAt g0_steps (upd f2 (858 + x2).toNatClampNeg (f2 (1683 + x2).toNatClampNeg)) x1 v2)
def wpX11_law_32 (post : Int32 → (Int32 × Int32 × Int32 × Int32 × Int32 × Int32 × Int32 × Int32 × Int32 × (Nat → Int32)) → Prop) (f1 : Nat → Int32) (g0_thrown : Int32) (g0_remembered : Int32) (g0_taped : Int32) (g0_point : Int32) (g0_end : Int32) (g0_begin : Int32) (g0_deep : Int32) (g0_faultAt : Int32) (g0_steps : Int32) (f2 : Nat → Int32) (x1 : Int32) (s1 : Int32) : Prop :=
  wpX11_throwsIf (fun (r2 : Int32) (u1 : Int32) =>
   (r2 = 0 →
    vp_in 1683 2508 ∧
    ∃ n_52 : Nat, wpX11_law_52 post f1 n_52 u1 g0_remembered g0_taped g0_point g0_end g0_begin g0_deep g0_faultAt g0_steps (upd f2 (1683 : Int32).toNatClampNeg x1) x1 0) ∧
   (¬ r2 = 0 →
    post 0 (u1, g0_remembered, g0_taped, g0_point, g0_end, g0_begin, g0_deep, g0_faultAt, g0_steps, f2))) g0_thrown s1 1
def wpX11_law_19 (post : Int32 → (Int32 × Int32 × Int32 × Int32 × Int32 × Int32 × Int32 × Int32 × Int32 × (Nat → Int32)) → Prop) (f1 : Nat → Int32) (g0_thrown : Int32) (g0_remembered : Int32) (g0_taped : Int32) (g0_point : Int32) (g0_end : Int32) (g0_begin : Int32) (g0_deep : Int32) (g0_faultAt : Int32) (g0_steps : Int32) (f2 : Nat → Int32) (x1 : Int32) (s1 : Int32) : Prop :=
  (0 ≤ x1 →
   wpX11_law_32 post f1 g0_thrown g0_remembered g0_taped g0_point g0_end g0_begin g0_deep s1 g0_steps f2 x1 0) ∧
  (¬ 0 ≤ x1 →
   wpX11_law_32 post f1 g0_thrown g0_remembered g0_taped g0_point g0_end g0_begin g0_deep s1 g0_steps f2 x1 1)
def wpX11_law (post : Int32 → (Int32 × Int32 × Int32 × Int32 × Int32 × Int32 × Int32 × Int32 × Int32 × (Nat → Int32)) → Prop) (f1 : Nat → Int32) (g0_thrown : Int32) (g0_remembered : Int32) (g0_taped : Int32) (g0_point : Int32) (g0_end : Int32) (g0_begin : Int32) (g0_deep : Int32) (g0_faultAt : Int32) (g0_steps : Int32) (f2 : Nat → Int32) : Prop :=
  wpX11_readAll (fun (r2 : Int32) (u1 : Int32 × Int32 × Int32 × Int32 × Int32 × Int32 × Int32 × (Nat → Int32)) =>
   (0 ≤ r2 →
    wpX11_law_19 post f1 u1.1 g0_remembered u1.2.1 u1.2.2.1 u1.2.2.2.1 u1.2.2.2.2.1 u1.2.2.2.2.2.1 g0_faultAt u1.2.2.2.2.2.2.1 u1.2.2.2.2.2.2.2 r2 (-1)) ∧
   (¬ 0 ≤ r2 →
    wpX11_law_19 post f1 u1.1 g0_remembered u1.2.1 u1.2.2.1 u1.2.2.2.1 u1.2.2.2.2.1 u1.2.2.2.2.2.1 g0_faultAt u1.2.2.2.2.2.2.1 u1.2.2.2.2.2.2.2 r2 u1.2.2.2.2.1)) f1 g0_thrown g0_taped g0_point g0_end g0_begin g0_deep g0_steps f2 0
def wpX11_farOf (post : Int32 → Unit → Prop) (p0 : Int32) (p1 : Int32) (p2 : Int32) (p3 : Int32) : Prop :=
  post (((p0 - p2) * (p0 - p2)) + ((p1 - p3) * (p1 - p3))) ()
def wpX11_farAt (post : Int32 → Unit → Prop) (f1 : Nat → Int32) (p0 : Int32) (p1 : Int32) (p2 : Int32) (p3 : Int32) : Prop :=
  wpX11_xOf (fun (r2 : Int32) (u1 : Unit) =>
   wpX11_yOf (fun (r4 : Int32) (u3 : Unit) =>
    wpX11_xOf (fun (r6 : Int32) (u5 : Unit) =>
     wpX11_yOf (fun (r8 : Int32) (u7 : Unit) =>
      wpX11_farOf (fun (r10 : Int32) (u9 : Unit) =>
       post r10 ()) r2 r4 r6 r8) f1 p2 p3) f1 p2 p3) f1 p0 p1) f1 p0 p1
def wpX11_factOf (post : Int32 → Unit → Prop) (f1 : Nat → Int32) (p0 : Int32) (p1 : Int32) (p2 : Int32) (p3 : Int32) (p4 : Int32) (p5 : Int32) : Prop :=
  (p0 = 0 →
   post p3 ()) ∧
  (p0 = 1 →
   post p5 ()) ∧
  (p0 = 2 →
   wpX11_farAt (fun (r2 : Int32) (u1 : Unit) =>
    post r2 ()) f1 p2 p3 p4 p5) ∧
  (p0 = 3 →
   wpX11_xOf (fun (r4 : Int32) (u3 : Unit) =>
    post r4 ()) f1 p2 p3) ∧
  (p0 = 4 →
   wpX11_yOf (fun (r6 : Int32) (u5 : Unit) =>
    post r6 ()) f1 p2 p3) ∧
  (p0 = 5 →
   wpX11_xOf (fun (r8 : Int32) (u7 : Unit) =>
    post r8 ()) f1 p4 p5) ∧
  (p0 = 6 →
   wpX11_yOf (fun (r10 : Int32) (u9 : Unit) =>
    post r10 ()) f1 p4 p5) ∧
  (¬ (p0 = 0 ∨ p0 = 1 ∨ p0 = 2 ∨ p0 = 3 ∨ p0 = 4 ∨ p0 = 5 ∨ p0 = 6) →
   post p1 ())
def wpX11_holdsLine_267 (k21 : (Nat → Int32) → Int32 → Int32 → Int32 → Int32 → Int32 → Int32 → Int32 → Prop) (post : Int32 → ((Nat → Int32)) → Prop) (f1 : Nat → Int32) (f2 : Nat → Int32) (x2 : Int32) (x3 : Int32) (x4 : Int32) (x5 : Int32) (x6 : Int32) (x7 : Int32) (x8 : Int32) : Prop :=
  ∀ v1 : Int32, v1 = x8 + 1 →
  k21 f2 x2 x3 x4 x5 x6 x7 v1
def wpX11_holdsLine_266 (k21 : (Nat → Int32) → Int32 → Int32 → Int32 → Int32 → Int32 → Int32 → Int32 → Prop) (post : Int32 → ((Nat → Int32)) → Prop) (f1 : Nat → Int32) (f2 : Nat → Int32) (x2 : Int32) (x3 : Int32) (x4 : Int32) (x5 : Int32) (x6 : Int32) (x7 : Int32) (x8 : Int32) (s1 : Int32) (s2 : Int32) : Prop :=
  vp_in s1 400 ∧
  wpX11_holdsLine_267 k21 post f1 (upd f2 s1.toNatClampNeg s2) x2 x3 x4 x5 x6 x7 x8
def wpX11_holdsLine_231 (k21 : (Nat → Int32) → Int32 → Int32 → Int32 → Int32 → Int32 → Int32 → Int32 → Prop) (post : Int32 → ((Nat → Int32)) → Prop) (f1 : Nat → Int32) (f2 : Nat → Int32) (x2 : Int32) (x3 : Int32) (x4 : Int32) (x5 : Int32) (x6 : Int32) (x7 : Int32) (x8 : Int32) (x9 : Int32) (x10 : Int32) (x11 : Int32) (s0 : Int32) : Prop :=
  (¬ x9 = 8 →
   (s0 = 0 →
    wpX11_holdsLine_266 k21 post f1 f2 x2 x3 x4 x5 x6 x7 x8 (x6 - 1) 0) ∧
   (¬ s0 = 0 →
    wpX11_holdsLine_266 k21 post f1 f2 x2 x3 x4 x5 x6 x7 x8 (x6 - 1) 1)) ∧
  (x9 = 8 →
   wpX11_holdsLine_266 k21 post f1 f2 x2 x3 x4 x5 x6 x7 x8 (x6 - 1) (x10 + x11))
def wpX11_holdsLine_21 (post : Int32 → ((Nat → Int32)) → Prop) (f1 : Nat → Int32) : Nat → (Nat → Int32) → Int32 → Int32 → Int32 → Int32 → Int32 → Int32 → Int32 → Prop
  | 0, _, _, _, _, _, _, _, _ => False
  | n_21 + 1, f2, x2, x3, x4, x5, x6, x7, x8 =>
    vp_in (x7 + 1) 2508 ∧
    ((f1 (x7 + 1).toNatClampNeg) ≤ x8 →
     (x6 = 0 →
      post 1 (f2)) ∧
     (¬ x6 = 0 →
      vp_in 0 400 ∧
      (¬ (f2 (0 : Int32).toNatClampNeg) = 1 →
       post 0 (f2)) ∧
      ((f2 (0 : Int32).toNatClampNeg) = 1 →
       post 1 (f2)))) ∧
    (¬ (f1 (x7 + 1).toNatClampNeg) ≤ x8 →
     vp_in (883 + (2 * x8)) 2508 ∧
     ∀ v1 : Int32, v1 = f1 (883 + (2 * x8)).toNatClampNeg →
     (7 < v1 →
      (¬ v1 = 11 →
       ∀ v2 : Int32, v2 = x6 + (-1) →
       vp_in (v2 - 1) 400 ∧
       ∀ v3 : Int32, v3 = f2 (v2 - 1).toNatClampNeg →
       vp_in v2 400 ∧
       ∀ v4 : Int32, v4 = f2 v2.toNatClampNeg →
       (¬ v1 = 9 →
        (¬ v1 = 10 →
         (¬ v1 = 12 →
          ((v3 + v4) ≤ 0 →
           wpX11_holdsLine_231 (fun y0 y1 y2 y3 y4 y5 y6 y7 => wpX11_holdsLine_21 post f1 n_21 y0 y1 y2 y3 y4 y5 y6 y7) post f1 f2 x2 x3 x4 x5 v2 x7 x8 v1 v3 v4 0) ∧
          (¬ (v3 + v4) ≤ 0 →
           wpX11_holdsLine_231 (fun y0 y1 y2 y3 y4 y5 y6 y7 => wpX11_holdsLine_21 post f1 n_21 y0 y1 y2 y3 y4 y5 y6 y7) post f1 f2 x2 x3 x4 x5 v2 x7 x8 v1 v3 v4 1)) ∧
         (v1 = 12 →
          (¬ (v3 + v4) = 2 →
           wpX11_holdsLine_231 (fun y0 y1 y2 y3 y4 y5 y6 y7 => wpX11_holdsLine_21 post f1 n_21 y0 y1 y2 y3 y4 y5 y6 y7) post f1 f2 x2 x3 x4 x5 v2 x7 x8 v1 v3 v4 0) ∧
          ((v3 + v4) = 2 →
           wpX11_holdsLine_231 (fun y0 y1 y2 y3 y4 y5 y6 y7 => wpX11_holdsLine_21 post f1 n_21 y0 y1 y2 y3 y4 y5 y6 y7) post f1 f2 x2 x3 x4 x5 v2 x7 x8 v1 v3 v4 1))) ∧
        (v1 = 10 →
         (v3 ≤ v4 →
          wpX11_holdsLine_231 (fun y0 y1 y2 y3 y4 y5 y6 y7 => wpX11_holdsLine_21 post f1 n_21 y0 y1 y2 y3 y4 y5 y6 y7) post f1 f2 x2 x3 x4 x5 v2 x7 x8 v1 v3 v4 0) ∧
         (¬ v3 ≤ v4 →
          wpX11_holdsLine_231 (fun y0 y1 y2 y3 y4 y5 y6 y7 => wpX11_holdsLine_21 post f1 n_21 y0 y1 y2 y3 y4 y5 y6 y7) post f1 f2 x2 x3 x4 x5 v2 x7 x8 v1 v3 v4 1))) ∧
       (v1 = 9 →
        (v4 ≤ v3 →
         wpX11_holdsLine_231 (fun y0 y1 y2 y3 y4 y5 y6 y7 => wpX11_holdsLine_21 post f1 n_21 y0 y1 y2 y3 y4 y5 y6 y7) post f1 f2 x2 x3 x4 x5 v2 x7 x8 v1 v3 v4 0) ∧
        (¬ v4 ≤ v3 →
         wpX11_holdsLine_231 (fun y0 y1 y2 y3 y4 y5 y6 y7 => wpX11_holdsLine_21 post f1 n_21 y0 y1 y2 y3 y4 y5 y6 y7) post f1 f2 x2 x3 x4 x5 v2 x7 x8 v1 v3 v4 1))) ∧
      (v1 = 11 →
       vp_in (x6 - 1) 400 ∧
       vp_in (x6 - 1) 400 ∧
       wpX11_holdsLine_267 (fun y0 y1 y2 y3 y4 y5 y6 y7 => wpX11_holdsLine_21 post f1 n_21 y0 y1 y2 y3 y4 y5 y6 y7) post f1 (upd f2 (x6 - 1).toNatClampNeg (1 - (f2 (x6 - 1).toNatClampNeg))) x2 x3 x4 x5 x6 x7 x8)) ∧
     (¬ 7 < v1 →
      vp_in ((883 + (2 * x8)) + 1) 2508 ∧
      wpX11_factOf (fun (r6 : Int32) (u5 : Unit) =>
       vp_in x6 400 ∧
       ∀ v7 : Int32, v7 = x6 + 1 →
       wpX11_holdsLine_267 (fun y0 y1 y2 y3 y4 y5 y6 y7 => wpX11_holdsLine_21 post f1 n_21 y0 y1 y2 y3 y4 y5 y6 y7) post f1 (upd f2 x6.toNatClampNeg r6) x2 x3 x4 x5 v7 x7 x8) f1 v1 (f1 ((883 + (2 * x8)) + 1).toNatClampNeg) x2 x3 x4 x5))
def wpX11_holdsLine (post : Int32 → ((Nat → Int32)) → Prop) (f1 : Nat → Int32) (f2 : Nat → Int32) (p0 : Int32) (p1 : Int32) (p2 : Int32) (p3 : Int32) (p4 : Int32) : Prop :=
  ∀ v1 : Int32, v1 = 859 + (2 * p0) →
  vp_in v1 2508 ∧
  ∀ v2 : Int32, v2 = f1 v1.toNatClampNeg →
  ∃ n_21 : Nat, wpX11_holdsLine_21 post f1 n_21 f2 p1 p2 p3 p4 0 v1 v2
def wpX11_side (post : Int32 → Unit → Prop) (p0 : Int32) (p1 : Int32) (p2 : Int32) (p3 : Int32) (p4 : Int32) (p5 : Int32) : Prop :=
  wpJ6_signum_0f7a4 (fun (r2 : Int32) (u1 : Unit) =>
   post r2 ()) (((p2 - p0) * (p5 - p1)) - ((p3 - p1) * (p4 - p0)))
def wpX11_between (post : Int32 → Unit → Prop) (p0 : Int32) (p1 : Int32) (p2 : Int32) : Prop :=
  (p2 < (iMin p0 p1) →
   post 0 ()) ∧
  (¬ p2 < (iMin p0 p1) →
   ((iMax p0 p1) < p2 →
    post 0 ()) ∧
   (¬ (iMax p0 p1) < p2 →
    post 1 ()))
def wpX11_isOn (post : Int32 → Unit → Prop) (p0 : Int32) (p1 : Int32) (p2 : Int32) (p3 : Int32) (p4 : Int32) (p5 : Int32) : Prop :=
  wpX11_side (fun (r2 : Int32) (u1 : Unit) =>
   (¬ r2 = 0 →
    post 0 ()) ∧
   (r2 = 0 →
    wpX11_between (fun (r4 : Int32) (u3 : Unit) =>
     (r4 = 0 →
      post 0 ()) ∧
     (¬ r4 = 0 →
      wpX11_between (fun (r6 : Int32) (u5 : Unit) =>
       (r6 = 0 →
        post 0 ()) ∧
       (¬ r6 = 0 →
        post 1 ())) p1 p3 p5)) p0 p2 p4)) p0 p1 p2 p3 p4 p5
def wpX11_isCrossed (post : Int32 → Unit → Prop) (f1 : Nat → Int32) (p0 : Int32) (p1 : Int32) (p2 : Int32) (p3 : Int32) (p4 : Int32) : Prop :=
  vp_in (746 + (4 * p0)) 2508 ∧
  ∀ v1 : Int32, v1 = f1 (746 + (4 * p0)).toNatClampNeg →
  vp_in ((746 + (4 * p0)) + 1) 2508 ∧
  ∀ v2 : Int32, v2 = f1 ((746 + (4 * p0)) + 1).toNatClampNeg →
  vp_in ((746 + (4 * p0)) + 2) 2508 ∧
  ∀ v3 : Int32, v3 = f1 ((746 + (4 * p0)) + 2).toNatClampNeg →
  vp_in ((746 + (4 * p0)) + 3) 2508 ∧
  ∀ v4 : Int32, v4 = f1 ((746 + (4 * p0)) + 3).toNatClampNeg →
  wpX11_isOn (fun (r6 : Int32) (u5 : Unit) =>
   (¬ r6 = 0 →
    post 1 ()) ∧
   (r6 = 0 →
    wpX11_isOn (fun (r8 : Int32) (u7 : Unit) =>
     (¬ r8 = 0 →
      post 1 ()) ∧
     (r8 = 0 →
      wpX11_isOn (fun (r10 : Int32) (u9 : Unit) =>
       (¬ r10 = 0 →
        post 1 ()) ∧
       (r10 = 0 →
        wpX11_isOn (fun (r12 : Int32) (u11 : Unit) =>
         (r12 = 0 →
          wpX11_side (fun (r14 : Int32) (u13 : Unit) =>
           wpX11_side (fun (r16 : Int32) (u15 : Unit) =>
            (0 ≤ (r14 * r16) →
             post 0 ()) ∧
            (¬ 0 ≤ (r14 * r16) →
             wpX11_side (fun (r18 : Int32) (u17 : Unit) =>
              wpX11_side (fun (r20 : Int32) (u19 : Unit) =>
               (0 ≤ (r18 * r20) →
                post 0 ()) ∧
               (¬ 0 ≤ (r18 * r20) →
                post 1 ())) v1 v2 v3 v4 p3 p4) v1 v2 v3 v4 p1 p2)) p1 p2 p3 p4 v3 v4) p1 p2 p3 p4 v1 v2) ∧
         (¬ r12 = 0 →
          post 1 ())) v1 v2 v3 v4 p3 p4)) v1 v2 v3 v4 p1 p2)) p1 p2 p3 p4 v3 v4)) p1 p2 p3 p4 v1 v2
def wpX11_isShut_56 (post : Int32 → ((Nat → Int32)) → Prop) (f1 : Nat → Int32) : Nat → (Nat → Int32) → Int32 → Int32 → Int32 → Int32 → Int32 → Int32 → Prop
  | 0, _, _, _, _, _, _, _ => False
  | n_56 + 1, f2, x1, x2, x3, x4, x5, x6 =>
    vp_in 1 2508 ∧
    ((f1 (1 : Int32).toNatClampNeg) ≤ x6 →
     (x5 = 0 ∨ x5 = 1) ∧ post x5 (f2)) ∧
    (¬ (f1 (1 : Int32).toNatClampNeg) ≤ x6 →
     (¬ x5 = 0 →
      (x5 = 0 ∨ x5 = 1) ∧ post x5 (f2)) ∧
     (x5 = 0 →
      wpX11_xOf (fun (r2 : Int32) (u1 : Unit) =>
       wpX11_yOf (fun (r4 : Int32) (u3 : Unit) =>
        wpX11_xOf (fun (r6 : Int32) (u5 : Unit) =>
         wpX11_yOf (fun (r8 : Int32) (u7 : Unit) =>
          wpX11_isCrossed (fun (r10 : Int32) (u9 : Unit) =>
           ∀ v11 : Int32, v11 = x6 + 1 →
           wpX11_isShut_56 post f1 n_56 f2 x1 x2 x3 x4 r10 v11) f1 x6 r2 r4 r6 r8) f1 x3 x4) f1 x3 x4) f1 x1 x2) f1 x1 x2))
def wpX11_isShut_53 (post : Int32 → ((Nat → Int32)) → Prop) (f1 : Nat → Int32) (f2 : Nat → Int32) (x1 : Int32) (x2 : Int32) (x3 : Int32) (x4 : Int32) (x5 : Int32) : Prop :=
  ∃ n_56 : Nat, wpX11_isShut_56 post f1 n_56 f2 x1 x2 x3 x4 x5 0
def wpX11_isShut_6 (post : Int32 → ((Nat → Int32)) → Prop) (f1 : Nat → Int32) : Nat → (Nat → Int32) → Int32 → Int32 → Int32 → Int32 → Int32 → Int32 → Prop
  | 0, _, _, _, _, _, _, _ => False
  | n_6 + 1, f2, x1, x2, x3, x4, x5, x6 =>
    vp_in 3 2508 ∧
    (¬ (f1 (3 : Int32).toNatClampNeg) = 1 →
     wpX11_isShut_53 post f1 f2 x1 x2 x3 x4 x5) ∧
    ((f1 (3 : Int32).toNatClampNeg) = 1 →
     vp_in 858 2508 ∧
     ((f1 (858 : Int32).toNatClampNeg) ≤ x6 →
      wpX11_isShut_53 post f1 f2 x1 x2 x3 x4 x5) ∧
     (¬ (f1 (858 : Int32).toNatClampNeg) ≤ x6 →
      (¬ x5 = 0 →
       wpX11_isShut_53 post f1 f2 x1 x2 x3 x4 x5) ∧
      (x5 = 0 →
       wpX11_holdsLine (fun (r2 : Int32) (u1 : (Nat → Int32)) =>
        ∀ v3 : Int32, v3 = x6 + 1 →
        wpX11_isShut_6 post f1 n_6 u1 x1 x2 x3 x4 r2 v3) f1 f2 x6 x1 x2 x3 x4)))
def wpX11_isShut (post : Int32 → ((Nat → Int32)) → Prop) (f1 : Nat → Int32) (f2 : Nat → Int32) (p0 : Int32) (p1 : Int32) (p2 : Int32) (p3 : Int32) : Prop :=
  ∃ n_6 : Nat, wpX11_isShut_6 post f1 n_6 f2 p0 p1 p2 p3 0 0
def wpX11_corner (post : Int32 → Int32 → Prop) (f1 : Nat → Int32) (g0_thrown : Int32) (p0 : Int32) (p1 : Int32) (p2 : Int32) : Prop :=
  wpX11_noCorner (fun (r2 : Int32) (u1 : Unit) =>
   wpX11_throwsIf (fun (r4 : Int32) (u3 : Int32) =>
    (r4 = 0 →
     (p2 = 0 →
      wpX11_xOf (fun (r6 : Int32) (u5 : Unit) =>
       post r6 (u3)) f1 p0 p1) ∧
     (¬ p2 = 0 →
      wpX11_yOf (fun (r8 : Int32) (u7 : Unit) =>
       post r8 (u3)) f1 p0 p1)) ∧
    (¬ r4 = 0 →
     post 0 (u3))) 0 r2 1) f1 p0 p1
def wpX11_corners (post : Int32 → Int32 → Prop) (f1 : Nat → Int32) (g0_thrown : Int32) (p0 : Int32) : Prop :=
  wpX11_noWay (fun (r2 : Int32) (u1 : Unit) =>
   wpX11_throwsIf (fun (r4 : Int32) (u3 : Int32) =>
    (r4 = 0 →
     wpX11_cornersOf (fun (r6 : Int32) (u5 : Unit) =>
      post r6 (u3)) f1 p0) ∧
    (¬ r4 = 0 →
     post 0 (u3))) 0 r2 1) f1 p0
def wpX11_far_30 (post : Int32 → Int32 → Prop) (f1 : Nat → Int32) (g0_thrown : Int32) (x1 : Int32) (x2 : Int32) (x3 : Int32) (x4 : Int32) (s1 : Int32) : Prop :=
  wpX11_throwsIf (fun (r2 : Int32) (u1 : Int32) =>
   (r2 = 0 →
    wpX11_farAt (fun (r4 : Int32) (u3 : Unit) =>
     post r4 (u1)) f1 x1 x2 x3 x4) ∧
   (¬ r2 = 0 →
    post 0 (u1))) g0_thrown s1 1
def wpX11_far_25 (post : Int32 → Int32 → Prop) (f1 : Nat → Int32) (g0_thrown : Int32) (x1 : Int32) (x2 : Int32) (x3 : Int32) (x4 : Int32) : Prop :=
  wpX11_far_30 post f1 g0_thrown x1 x2 x3 x4 1
def wpX11_far (post : Int32 → Int32 → Prop) (f1 : Nat → Int32) (g0_thrown : Int32) (p0 : Int32) (p1 : Int32) (p2 : Int32) (p3 : Int32) : Prop :=
  wpX11_noCorner (fun (r2 : Int32) (u1 : Unit) =>
   (¬ r2 = 0 →
    wpX11_far_25 post f1 0 p0 p1 p2 p3) ∧
   (r2 = 0 →
    wpX11_noCorner (fun (r4 : Int32) (u3 : Unit) =>
     (r4 = 0 →
      wpX11_far_30 post f1 0 p0 p1 p2 p3 0) ∧
     (¬ r4 = 0 →
      wpX11_far_25 post f1 0 p0 p1 p2 p3)) f1 p2 p3)) f1 p0 p1
def wpX11_shut_30 (post : Int32 → (Int32 × (Nat → Int32)) → Prop) (f1 : Nat → Int32) (g0_thrown : Int32) (f2 : Nat → Int32) (x1 : Int32) (x2 : Int32) (x3 : Int32) (x4 : Int32) (s1 : Int32) : Prop :=
  wpX11_throwsIf (fun (r2 : Int32) (u1 : Int32) =>
   (¬ r2 = 0 →
    post 0 (u1, f2)) ∧
   (r2 = 0 →
    wpX11_isShut (fun (r4 : Int32) (u3 : (Nat → Int32)) =>
     (r4 = 0 →
      post 0 (u1, u3)) ∧
     (¬ r4 = 0 →
      post 1 (u1, u3))) f1 f2 x1 x2 x3 x4)) g0_thrown s1 1
