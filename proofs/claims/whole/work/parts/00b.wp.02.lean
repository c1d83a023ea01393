def wpX11_shut_25 (post : Int32 → (Int32 × (Nat → Int32)) → Prop) (f1 : Nat → Int32) (g0_thrown : Int32) (f2 : Nat → Int32) (x1 : Int32) (x2 : Int32) (x3 : Int32) (x4 : Int32) : Prop :=
  wpX11_shut_30 post f1 g0_thrown f2 x1 x2 x3 x4 1
def wpX11_shut (post : Int32 → (Int32 × (Nat → Int32)) → Prop) (f1 : Nat → Int32) (g0_thrown : Int32) (f2 : Nat → Int32) (p0 : Int32) (p1 : Int32) (p2 : Int32) (p3 : Int32) : Prop :=
  wpX11_noCorner (fun (r2 : Int32) (u1 : Unit) =>
   (¬ r2 = 0 →
    wpX11_shut_25 post f1 0 f2 p0 p1 p2 p3) ∧
   (r2 = 0 →
    wpX11_noCorner (fun (r4 : Int32) (u3 : Unit) =>
     (r4 = 0 →
      wpX11_shut_30 post f1 0 f2 p0 p1 p2 p3 0) ∧
     (¬ r4 = 0 →
      wpX11_shut_25 post f1 0 f2 p0 p1 p2 p3)) f1 p2 p3)) f1 p0 p1
def wpX11_lays_78 (k31 : Int32 → Int32 → (Nat → Int32) → (Nat → Int32) → Int32 → Int32 → Int32 → Int32 → Prop) (k20 : Int32 → Int32 → (Nat → Int32) → (Nat → Int32) → Int32 → Int32 → Int32 → Prop) (post : (Int32 × Int32 × (Nat → Int32) × (Nat → Int32)) → Prop) (f1 : Nat → Int32) (g0_men : Int32) (g0_dogs : Int32) (f2 : Nat → Int32) (f3 : Nat → Int32) (x1 : Int32) (x2 : Int32) (x3 : Int32) (x4 : Int32) (s1 : Int32) (s2 : Int32) : Prop :=
  vp_in s1 900 ∧
  ∀ v1 : Int32, v1 = x4 + 1 →
  k31 g0_men g0_dogs f2 (upd f3 s1.toNatClampNeg s2) x1 x2 x3 v1
def wpX11_lays_31 (k20 : Int32 → Int32 → (Nat → Int32) → (Nat → Int32) → Int32 → Int32 → Int32 → Prop) (post : (Int32 × Int32 × (Nat → Int32) × (Nat → Int32)) → Prop) (f1 : Nat → Int32) : Nat → Int32 → Int32 → (Nat → Int32) → (Nat → Int32) → Int32 → Int32 → Int32 → Int32 → Prop
  | 0, _, _, _, _, _, _, _, _ => False
  | n_31 + 1, g0_men, g0_dogs, f2, f3, x1, x2, x3, x4 =>
    (g0_dogs ≤ x4 →
     ∀ v1 : Int32, v1 = x3 + 1 →
     k20 g0_men g0_dogs f2 f3 x1 x2 v1) ∧
    (¬ g0_dogs ≤ x4 →
     wpX11_isShut (fun (r3 : Int32) (u2 : (Nat → Int32)) =>
      (r3 = 0 →
       wpX11_farAt (fun (r5 : Int32) (u4 : Unit) =>
        wpX11_lays_78 (fun y0 y1 y2 y3 y4 y5 y6 y7 => wpX11_lays_31 k20 post f1 n_31 y0 y1 y2 y3 y4 y5 y6 y7) k20 post f1 g0_men g0_dogs u2 f3 x1 x2 x3 x4 ((30 * x3) + x4) r5) f1 x1 x3 x2 x4) ∧
      (¬ r3 = 0 →
       wpX11_lays_78 (fun y0 y1 y2 y3 y4 y5 y6 y7 => wpX11_lays_31 k20 post f1 n_31 y0 y1 y2 y3 y4 y5 y6 y7) k20 post f1 g0_men g0_dogs u2 f3 x1 x2 x3 x4 ((30 * x3) + x4) 2000000000)) f1 f2 x1 x3 x2 x4)
def wpX11_lays_20 (post : (Int32 × Int32 × (Nat → Int32) × (Nat → Int32)) → Prop) (f1 : Nat → Int32) : Nat → Int32 → Int32 → (Nat → Int32) → (Nat → Int32) → Int32 → Int32 → Int32 → Prop
  | 0, _, _, _, _, _, _, _ => False
  | n_20 + 1, g0_men, g0_dogs, f2, f3, x1, x2, x3 =>
    (g0_men ≤ x3 →
     post (g0_men, g0_dogs, f2, f3)) ∧
    (¬ g0_men ≤ x3 →
     ∃ n_31 : Nat, wpX11_lays_31 (fun y0 y1 y2 y3 y4 y5 y6 => wpX11_lays_20 post f1 n_20 y0 y1 y2 y3 y4 y5 y6) post f1 n_31 g0_men g0_dogs f2 f3 x1 x2 x3 0)
def wpX11_lays (post : (Int32 × Int32 × (Nat → Int32) × (Nat → Int32)) → Prop) (f1 : Nat → Int32) (g0_men : Int32) (g0_dogs : Int32) (f2 : Nat → Int32) (f3 : Nat → Int32) (p0 : Int32) (p1 : Int32) : Prop :=
  wpX11_cornersOf (fun (r2 : Int32) (u1 : Unit) =>
   wpX11_cornersOf (fun (r4 : Int32) (u3 : Unit) =>
    ∃ n_20 : Nat, wpX11_lays_20 post f1 n_20 r2 r4 f2 f3 p0 p1 0) f1 p1) f1 p0
def wpX11_leadAt (post : Int32 → Unit → Prop) (f1 : Nat → Int32) (p0 : Int32) (p1 : Int32) : Prop :=
  (p0 < 0 →
   post 2000000000 ()) ∧
  (¬ p0 < 0 →
   (0 ≤ p1 →
    vp_in ((30 * p0) + p1) 900 ∧
    post (f1 ((30 * p0) + p1).toNatClampNeg) ()) ∧
   (¬ 0 ≤ p1 →
    post 2000000000 ()))
def wpX11_leastLead_64 (k12 : (Nat → Int32) → Int32 → Int32 → Prop) (k2 : (Nat → Int32) → Int32 → Prop) (post : Int32 → ((Nat → Int32)) → Prop) (g0_men : Int32) (g0_dogs : Int32) (f1 : Nat → Int32) (f2 : Nat → Int32) (x1 : Int32) (x2 : Int32) (s0 : Int32) : Prop :=
  vp_in ((30 * x1) + x2) 900 ∧
  vp_in ((30 * x1) + x2) 900 ∧
  ∀ v1 : Int32, v1 = x2 + 1 →
  k12 (upd f2 ((30 * x1) + x2).toNatClampNeg (iMax (f1 ((30 * x1) + x2).toNatClampNeg) s0)) x1 v1
def wpX11_leastLead_32 (k12 : (Nat → Int32) → Int32 → Int32 → Prop) (k2 : (Nat → Int32) → Int32 → Prop) (post : Int32 → ((Nat → Int32)) → Prop) (g0_men : Int32) (g0_dogs : Int32) (f1 : Nat → Int32) (f2 : Nat → Int32) (x1 : Int32) (x2 : Int32) : Prop :=
  wpX11_leadAt (fun (r2 : Int32) (u1 : Unit) =>
   wpX11_leadAt (fun (r4 : Int32) (u3 : Unit) =>
    wpX11_leadAt (fun (r6 : Int32) (u5 : Unit) =>
     wpX11_leastLead_64 k12 k2 post g0_men g0_dogs f1 f2 x1 x2 (iMin r2 (iMin r4 r6))) f2 x1 (x2 - 1)) f2 (x1 - 1) x2) f2 (x1 - 1) (x2 - 1)
def wpX11_leastLead_12 (k2 : (Nat → Int32) → Int32 → Prop) (post : Int32 → ((Nat → Int32)) → Prop) (g0_men : Int32) (g0_dogs : Int32) (f1 : Nat → Int32) : Nat → (Nat → Int32) → Int32 → Int32 → Prop
  | 0, _, _, _ => False
  | n_12 + 1, f2, x1, x2 =>
    (g0_dogs ≤ x2 →
     ∀ v1 : Int32, v1 = x1 + 1 →
     k2 f2 v1) ∧
    (¬ g0_dogs ≤ x2 →
     (¬ x1 = 0 →
      wpX11_leastLead_32 (fun y0 y1 y2 => wpX11_leastLead_12 k2 post g0_men g0_dogs f1 n_12 y0 y1 y2) k2 post g0_men g0_dogs f1 f2 x1 x2) ∧
     (x1 = 0 →
      (¬ x2 = 0 →
       wpX11_leastLead_32 (fun y0 y1 y2 => wpX11_leastLead_12 k2 post g0_men g0_dogs f1 n_12 y0 y1 y2) k2 post g0_men g0_dogs f1 f2 x1 x2) ∧
      (x2 = 0 →
       wpX11_leastLead_64 (fun y0 y1 y2 => wpX11_leastLead_12 k2 post g0_men g0_dogs f1 n_12 y0 y1 y2) k2 post g0_men g0_dogs f1 f2 x1 x2 0)))
def wpX11_leastLead_2 (post : Int32 → ((Nat → Int32)) → Prop) (g0_men : Int32) (g0_dogs : Int32) (f1 : Nat → Int32) : Nat → (Nat → Int32) → Int32 → Prop
  | 0, _, _ => False
  | n_2 + 1, f2, x1 =>
    (g0_men ≤ x1 →
     wpX11_leadAt (fun (r2 : Int32) (u1 : Unit) =>
      post r2 (f2)) f2 (g0_men - 1) (g0_dogs - 1)) ∧
    (¬ g0_men ≤ x1 →
     ∃ n_12 : Nat, wpX11_leastLead_12 (fun y0 y1 => wpX11_leastLead_2 post g0_men g0_dogs f1 n_2 y0 y1) post g0_men g0_dogs f1 n_12 f2 x1 0)
def wpX11_leastLead (post : Int32 → ((Nat → Int32)) → Prop) (g0_men : Int32) (g0_dogs : Int32) (f1 : Nat → Int32) (f2 : Nat → Int32) : Prop :=
  ∃ n_2 : Nat, wpX11_leastLead_2 post g0_men g0_dogs f1 n_2 f2 0
def wpX11_leastOf (post : Int32 → (Int32 × Int32 × (Nat → Int32) × (Nat → Int32) × (Nat → Int32)) → Prop) (f1 : Nat → Int32) (g0_men : Int32) (g0_dogs : Int32) (f2 : Nat → Int32) (f3 : Nat → Int32) (f4 : Nat → Int32) (p0 : Int32) (p1 : Int32) : Prop :=
  wpX11_lays (fun (u1 : Int32 × Int32 × (Nat → Int32) × (Nat → Int32)) =>
   wpX11_leastLead (fun (r3 : Int32) (u2 : (Nat → Int32)) =>
    post r3 (u1.1, u1.2.1, u1.2.2.1, u1.2.2.2, u2)) u1.1 u1.2.1 u1.2.2.2 f4) f1 g0_men g0_dogs f2 f3 p0 p1
def wpX11_orNone (post : Int32 → Unit → Prop) (p0 : Int32) : Prop :=
  (¬ p0 = 2000000000 →
   post p0 ()) ∧
  (p0 = 2000000000 →
   post (-1) ())
def wpX11_least_27 (post : Int32 → (Int32 × Int32 × Int32 × (Nat → Int32) × (Nat → Int32) × (Nat → Int32)) → Prop) (f1 : Nat → Int32) (g0_thrown : Int32) (g0_men : Int32) (g0_dogs : Int32) (f2 : Nat → Int32) (f3 : Nat → Int32) (f4 : Nat → Int32) (x1 : Int32) (x2 : Int32) (s1 : Int32) : Prop :=
  wpX11_throwsIf (fun (r2 : Int32) (u1 : Int32) =>
   (r2 = 0 →
    wpX11_leastOf (fun (r4 : Int32) (u3 : Int32 × Int32 × (Nat → Int32) × (Nat → Int32) × (Nat → Int32)) =>
     wpX11_orNone (fun (r6 : Int32) (u5 : Unit) =>
      post r6 (u1, u3.1, u3.2.1, u3.2.2.1, u3.2.2.2.1, u3.2.2.2.2)) r4) f1 g0_men g0_dogs f2 f3 f4 x1 x2) ∧
   (¬ r2 = 0 →
    post 0 (u1, g0_men, g0_dogs, f2, f3, f4))) g0_thrown s1 1
def wpX11_least_22 (post : Int32 → (Int32 × Int32 × Int32 × (Nat → Int32) × (Nat → Int32) × (Nat → Int32)) → Prop) (f1 : Nat → Int32) (g0_thrown : Int32) (g0_men : Int32) (g0_dogs : Int32) (f2 : Nat → Int32) (f3 : Nat → Int32) (f4 : Nat → Int32) (x1 : Int32) (x2 : Int32) : Prop :=
  wpX11_least_27 post f1 g0_thrown g0_men g0_dogs f2 f3 f4 x1 x2 1
def wpX11_least (post : Int32 → (Int32 × Int32 × Int32 × (Nat → Int32) × (Nat → Int32) × (Nat → Int32)) → Prop) (f1 : Nat → Int32) (g0_thrown : Int32) (g0_men : Int32) (g0_dogs : Int32) (f2 : Nat → Int32) (f3 : Nat → Int32) (f4 : Nat → Int32) (p0 : Int32) (p1 : Int32) : Prop :=
  wpX11_noWay (fun (r2 : Int32) (u1 : Unit) =>
   (¬ r2 = 0 →
    wpX11_least_22 post f1 0 g0_men g0_dogs f2 f3 f4 p0 p1) ∧
   (r2 = 0 →
    wpX11_noWay (fun (r4 : Int32) (u3 : Unit) =>
     (r4 = 0 →
      wpX11_least_27 post f1 0 g0_men g0_dogs f2 f3 f4 p0 p1 0) ∧
     (¬ r4 = 0 →
      wpX11_least_22 post f1 0 g0_men g0_dogs f2 f3 f4 p0 p1)) f1 p1)) f1 p0
def wpX11_isEnding (post : Int32 → Unit → Prop) (g0_men : Int32) (g0_dogs : Int32) (f1 : Nat → Int32) (p0 : Int32) (p1 : Int32) : Prop :=
  (g0_men ≤ p0 →
   post 0 ()) ∧
  (¬ g0_men ≤ p0 →
   (g0_dogs ≤ p1 →
    post 0 ()) ∧
   (¬ g0_dogs ≤ p1 →
    vp_in ((30 * p0) + p1) 900 ∧
    ((f1 ((30 * p0) + p1).toNatClampNeg) = 0 →
     post 0 ()) ∧
    (¬ (f1 ((30 * p0) + p1).toNatClampNeg) = 0 →
     post 1 ())))
def wpX11_manBy (post : Int32 → Unit → Prop) (p0 : Int32) : Prop :=
  (¬ p0 = 2 →
   post 1 ()) ∧
  (p0 = 2 →
   post 0 ())
def wpX11_dogBy (post : Int32 → Unit → Prop) (p0 : Int32) : Prop :=
  (¬ p0 = 1 →
   post 1 ()) ∧
  (p0 = 1 →
   post 0 ())
def wpX11_firstWalk_230 (k173 : Int32 → Int32 → (Nat → Int32) → (Nat → Int32) → (Nat → Int32) → (Nat → Int32) → (Nat → Int32) → Int32 → Int32 → Int32 → Prop) (post : Int32 → (Int32 × Int32 × (Nat → Int32) × (Nat → Int32) × (Nat → Int32) × (Nat → Int32) × (Nat → Int32)) → Prop) (f1 : Nat → Int32) (g0_men : Int32) (g0_dogs : Int32) (f2 : Nat → Int32) (f3 : Nat → Int32) (f4 : Nat → Int32) (f5 : Nat → Int32) (f6 : Nat → Int32) (x4 : Int32) (x5 : Int32) (x6 : Int32) (s0 : Int32) : Prop :=
  vp_in x4 60 ∧
  wpX11_manBy (fun (r2 : Int32) (u1 : Unit) =>
   ∀ v3 : Int32, v3 = x5 + r2 →
   wpX11_dogBy (fun (r5 : Int32) (u4 : Unit) =>
    ∀ v6 : Int32, v6 = x6 + r5 →
    ∀ v7 : Int32, v7 = x4 + 1 →
    k173 g0_men g0_dogs f2 f3 f4 f5 (upd f6 x4.toNatClampNeg s0) v7 v3 v6) s0) s0
def wpX11_firstWalk_195 (k173 : Int32 → Int32 → (Nat → Int32) → (Nat → Int32) → (Nat → Int32) → (Nat → Int32) → (Nat → Int32) → Int32 → Int32 → Int32 → Prop) (post : Int32 → (Int32 × Int32 × (Nat → Int32) × (Nat → Int32) × (Nat → Int32) × (Nat → Int32) × (Nat → Int32)) → Prop) (f1 : Nat → Int32) (g0_men : Int32) (g0_dogs : Int32) (f2 : Nat → Int32) (f3 : Nat → Int32) (f4 : Nat → Int32) (f5 : Nat → Int32) (f6 : Nat → Int32) (x4 : Int32) (x5 : Int32) (x6 : Int32) : Prop :=
  wpX11_isEnding (fun (r2 : Int32) (u1 : Unit) =>
   (r2 = 0 →
    wpX11_isEnding (fun (r4 : Int32) (u3 : Unit) =>
     (r4 = 0 →
      wpX11_firstWalk_230 k173 post f1 g0_men g0_dogs f2 f3 f4 f5 f6 x4 x5 x6 3) ∧
     (¬ r4 = 0 →
      wpX11_firstWalk_230 k173 post f1 g0_men g0_dogs f2 f3 f4 f5 f6 x4 x5 x6 2)) g0_men g0_dogs f5 x5 (x6 + 1)) ∧
   (¬ r2 = 0 →
    wpX11_firstWalk_230 k173 post f1 g0_men g0_dogs f2 f3 f4 f5 f6 x4 x5 x6 1)) g0_men g0_dogs f5 (x5 + 1) x6
def wpX11_firstWalk_173 (post : Int32 → (Int32 × Int32 × (Nat → Int32) × (Nat → Int32) × (Nat → Int32) × (Nat → Int32) × (Nat → Int32)) → Prop) (f1 : Nat → Int32) : Nat → Int32 → Int32 → (Nat → Int32) → (Nat → Int32) → (Nat → Int32) → (Nat → Int32) → (Nat → Int32) → Int32 → Int32 → Int32 → Prop
  | 0, _, _, _, _, _, _, _, _, _, _ => False
  | n_173 + 1, g0_men, g0_dogs, f2, f3, f4, f5, f6, x4, x5, x6 =>
    (x5 < (g0_men - 1) →
     wpX11_firstWalk_195 (fun y0 y1 y2 y3 y4 y5 y6 y7 y8 y9 => wpX11_firstWalk_173 post f1 n_173 y0 y1 y2 y3 y4 y5 y6 y7 y8 y9) post f1 g0_men g0_dogs f2 f3 f4 f5 f6 x4 x5 x6) ∧
    (¬ x5 < (g0_men - 1) →
     ((g0_dogs - 1) ≤ x6 →
      post x4 (g0_men, g0_dogs, f2, f3, f4, f5, f6)) ∧
     (¬ (g0_dogs - 1) ≤ x6 →
      wpX11_firstWalk_195 (fun y0 y1 y2 y3 y4 y5 y6 y7 y8 y9 => wpX11_firstWalk_173 post f1 n_173 y0 y1 y2 y3 y4 y5 y6 y7 y8 y9) post f1 g0_men g0_dogs f2 f3 f4 f5 f6 x4 x5 x6))
def wpX11_firstWalk_151 (k37 : Int32 → Int32 → (Nat → Int32) → (Nat → Int32) → (Nat → Int32) → (Nat → Int32) → (Nat → Int32) → Int32 → Int32 → Int32 → Prop) (k24 : Int32 → Int32 → (Nat → Int32) → (Nat → Int32) → (Nat → Int32) → (Nat → Int32) → (Nat → Int32) → Int32 → Int32 → Prop) (post : Int32 → (Int32 × Int32 × (Nat → Int32) × (Nat → Int32) × (Nat → Int32) × (Nat → Int32) × (Nat → Int32)) → Prop) (f1 : Nat → Int32) (g0_men : Int32) (g0_dogs : Int32) (f2 : Nat → Int32) (f3 : Nat → Int32) (f4 : Nat → Int32) (f5 : Nat → Int32) (f6 : Nat → Int32) (x3 : Int32) (x4 : Int32) (x5 : Int32) (s1 : Int32) (s2 : Int32) : Prop :=
  vp_in s1 900 ∧
  ∀ v1 : Int32, v1 = x5 + (-1) →
  k37 g0_men g0_dogs f2 f3 f4 (upd f5 s1.toNatClampNeg (vp_nar .boolean s2)) f6 x3 x4 v1
def wpX11_firstWalk_150 (k37 : Int32 → Int32 → (Nat → Int32) → (Nat → Int32) → (Nat → Int32) → (Nat → Int32) → (Nat → Int32) → Int32 → Int32 → Int32 → Prop) (k24 : Int32 → Int32 → (Nat → Int32) → (Nat → Int32) → (Nat → Int32) → (Nat → Int32) → (Nat → Int32) → Int32 → Int32 → Prop) (post : Int32 → (Int32 × Int32 × (Nat → Int32) × (Nat → Int32) × (Nat → Int32) × (Nat → Int32) × (Nat → Int32)) → Prop) (f1 : Nat → Int32) (g0_men : Int32) (g0_dogs : Int32) (f2 : Nat → Int32) (f3 : Nat → Int32) (f4 : Nat → Int32) (f5 : Nat → Int32) (f6 : Nat → Int32) (x3 : Int32) (x4 : Int32) (x5 : Int32) (s1 : Int32) : Prop :=
  wpX11_firstWalk_151 k37 k24 post f1 g0_men g0_dogs f2 f3 f4 f5 f6 x3 x4 x5 s1 0
def wpX11_firstWalk_146 (k37 : Int32 → Int32 → (Nat → Int32) → (Nat → Int32) → (Nat → Int32) → (Nat → Int32) → (Nat → Int32) → Int32 → Int32 → Int32 → Prop) (k24 : Int32 → Int32 → (Nat → Int32) → (Nat → Int32) → (Nat → Int32) → (Nat → Int32) → (Nat → Int32) → Int32 → Int32 → Prop) (post : Int32 → (Int32 × Int32 × (Nat → Int32) × (Nat → Int32) × (Nat → Int32) × (Nat → Int32) × (Nat → Int32)) → Prop) (f1 : Nat → Int32) (g0_men : Int32) (g0_dogs : Int32) (f2 : Nat → Int32) (f3 : Nat → Int32) (f4 : Nat → Int32) (f5 : Nat → Int32) (f6 : Nat → Int32) (x3 : Int32) (x4 : Int32) (x5 : Int32) (s1 : Int32) : Prop :=
  wpX11_firstWalk_151 k37 k24 post f1 g0_men g0_dogs f2 f3 f4 f5 f6 x3 x4 x5 s1 1
def wpX11_firstWalk_69 (k37 : Int32 → Int32 → (Nat → Int32) → (Nat → Int32) → (Nat → Int32) → (Nat → Int32) → (Nat → Int32) → Int32 → Int32 → Int32 → Prop) (k24 : Int32 → Int32 → (Nat → Int32) → (Nat → Int32) → (Nat → Int32) → (Nat → Int32) → (Nat → Int32) → Int32 → Int32 → Prop) (post : Int32 → (Int32 × Int32 × (Nat → Int32) × (Nat → Int32) × (Nat → Int32) × (Nat → Int32) × (Nat → Int32)) → Prop) (f1 : Nat → Int32) (g0_men : Int32) (g0_dogs : Int32) (f2 : Nat → Int32) (f3 : Nat → Int32) (f4 : Nat → Int32) (f5 : Nat → Int32) (f6 : Nat → Int32) (x3 : Int32) (x4 : Int32) (x5 : Int32) (s0 : Int32) : Prop :=
  vp_in ((30 * x4) + x5) 900 ∧
  (x3 < (f3 ((30 * x4) + x5).toNatClampNeg) →
   wpX11_firstWalk_150 k37 k24 post f1 g0_men g0_dogs f2 f3 f4 f5 f6 x3 x4 x5 ((30 * x4) + x5)) ∧
  (¬ x3 < (f3 ((30 * x4) + x5).toNatClampNeg) →
   (¬ s0 = 0 →
    wpX11_firstWalk_146 k37 k24 post f1 g0_men g0_dogs f2 f3 f4 f5 f6 x3 x4 x5 ((30 * x4) + x5)) ∧
   (s0 = 0 →
    wpX11_isEnding (fun (r2 : Int32) (u1 : Unit) =>
     (¬ r2 = 0 →
      wpX11_firstWalk_146 k37 k24 post f1 g0_men g0_dogs f2 f3 f4 f5 f6 x3 x4 x5 ((30 * x4) + x5)) ∧
     (r2 = 0 →
      wpX11_isEnding (fun (r4 : Int32) (u3 : Unit) =>
       (¬ r4 = 0 →
        wpX11_firstWalk_146 k37 k24 post f1 g0_men g0_dogs f2 f3 f4 f5 f6 x3 x4 x5 ((30 * x4) + x5)) ∧
       (r4 = 0 →
        wpX11_isEnding (fun (r6 : Int32) (u5 : Unit) =>
         (r6 = 0 →
          wpX11_firstWalk_150 k37 k24 post f1 g0_men g0_dogs f2 f3 f4 f5 f6 x3 x4 x5 ((30 * x4) + x5)) ∧
         (¬ r6 = 0 →
          wpX11_firstWalk_146 k37 k24 post f1 g0_men g0_dogs f2 f3 f4 f5 f6 x3 x4 x5 ((30 * x4) + x5))) g0_men g0_dogs f5 (x4 + 1) (x5 + 1))) g0_men g0_dogs f5 x4 (x5 + 1))) g0_men g0_dogs f5 (x4 + 1) x5))
def wpX11_firstWalk_68 (k37 : Int32 → Int32 → (Nat → Int32) → (Nat → Int32) → (Nat → Int32) → (Nat → Int32) → (Nat → Int32) → Int32 → Int32 → Int32 → Prop) (k24 : Int32 → Int32 → (Nat → Int32) → (Nat → Int32) → (Nat → Int32) → (Nat → Int32) → (Nat → Int32) → Int32 → Int32 → Prop) (post : Int32 → (Int32 × Int32 × (Nat → Int32) × (Nat → Int32) × (Nat → Int32) × (Nat → Int32) × (Nat → Int32)) → Prop) (f1 : Nat → Int32) (g0_men : Int32) (g0_dogs : Int32) (f2 : Nat → Int32) (f3 : Nat → Int32) (f4 : Nat → Int32) (f5 : Nat → Int32) (f6 : Nat → Int32) (x3 : Int32) (x4 : Int32) (x5 : Int32) : Prop :=
  wpX11_firstWalk_69 k37 k24 post f1 g0_men g0_dogs f2 f3 f4 f5 f6 x3 x4 x5 0
def wpX11_firstWalk_37 (k24 : Int32 → Int32 → (Nat → Int32) → (Nat → Int32) → (Nat → Int32) → (Nat → Int32) → (Nat → Int32) → Int32 → Int32 → Prop) (post : Int32 → (Int32 × Int32 × (Nat → Int32) × (Nat → Int32) × (Nat → Int32) × (Nat → Int32) × (Nat → Int32)) → Prop) (f1 : Nat → Int32) : Nat → Int32 → Int32 → (Nat → Int32) → (Nat → Int32) → (Nat → Int32) → (Nat → Int32) → (Nat → Int32) → Int32 → Int32 → Int32 → Prop
  | 0, _, _, _, _, _, _, _, _, _, _ => False
  | n_37 + 1, g0_men, g0_dogs, f2, f3, f4, f5, f6, x3, x4, x5 =>
    (x5 < 0 →
     ∀ v1 : Int32, v1 = x4 + (-1) →
     k24 g0_men g0_dogs f2 f3 f4 f5 f6 x3 v1) ∧
    (¬ x5 < 0 →
     (¬ x4 = (g0_men - 1) →
      wpX11_firstWalk_68 (fun y0 y1 y2 y3 y4 y5 y6 y7 y8 y9 => wpX11_firstWalk_37 k24 post f1 n_37 y0 y1 y2 y3 y4 y5 y6 y7 y8 y9) k24 post f1 g0_men g0_dogs f2 f3 f4 f5 f6 x3 x4 x5) ∧
     (x4 = (g0_men - 1) →
      (¬ x5 = (g0_dogs - 1) →
       wpX11_firstWalk_68 (fun y0 y1 y2 y3 y4 y5 y6 y7 y8 y9 => wpX11_firstWalk_37 k24 post f1 n_37 y0 y1 y2 y3 y4 y5 y6 y7 y8 y9) k24 post f1 g0_men g0_dogs f2 f3 f4 f5 f6 x3 x4 x5) ∧
      (x5 = (g0_dogs - 1) →
       wpX11_firstWalk_69 (fun y0 y1 y2 y3 y4 y5 y6 y7 y8 y9 => wpX11_firstWalk_37 k24 post f1 n_37 y0 y1 y2 y3 y4 y5 y6 y7 y8 y9) k24 post f1 g0_men g0_dogs f2 f3 f4 f5 f6 x3 x4 x5 1)))
def wpX11_firstWalk_24 (post : Int32 → (Int32 × Int32 × (Nat → Int32) × (Nat → Int32) × (Nat → Int32) × (Nat → Int32) × (Nat → Int32)) → Prop) (f1 : Nat → Int32) : Nat → Int32 → Int32 → (Nat → Int32) → (Nat → Int32) → (Nat → Int32) → (Nat → Int32) → (Nat → Int32) → Int32 → Int32 → Prop
  | 0, _, _, _, _, _, _, _, _, _ => False
  | n_24 + 1, g0_men, g0_dogs, f2, f3, f4, f5, f6, x3, x4 =>
    (x4 < 0 →
     ∃ n_173 : Nat, wpX11_firstWalk_173 post f1 n_173 g0_men g0_dogs f2 f3 f4 f5 f6 0 0 0) ∧
    (¬ x4 < 0 →
     ∀ v1 : Int32, v1 = g0_dogs - 1 →
     ∃ n_37 : Nat, wpX11_firstWalk_37 (fun y0 y1 y2 y3 y4 y5 y6 y7 y8 => wpX11_firstWalk_24 post f1 n_24 y0 y1 y2 y3 y4 y5 y6 y7 y8) post f1 n_37 g0_men g0_dogs f2 f3 f4 f5 f6 x3 x4 v1)
def wpX11_firstWalk (post : Int32 → (Int32 × Int32 × (Nat → Int32) × (Nat → Int32) × (Nat → Int32) × (Nat → Int32) × (Nat → Int32)) → Prop) (f1 : Nat → Int32) (g0_men : Int32) (g0_dogs : Int32) (f2 : Nat → Int32) (f3 : Nat → Int32) (f4 : Nat → Int32) (f5 : Nat → Int32) (f6 : Nat → Int32) (p0 : Int32) (p1 : Int32) : Prop :=
  wpX11_leastOf (fun (r2 : Int32) (u1 : Int32 × Int32 × (Nat → Int32) × (Nat → Int32) × (Nat → Int32)) =>
   (¬ r2 = 2000000000 →
    ∀ v3 : Int32, v3 = u1.1 - 1 →
    ∃ n_24 : Nat, wpX11_firstWalk_24 post f1 n_24 u1.1 u1.2.1 u1.2.2.1 u1.2.2.2.1 u1.2.2.2.2 f5 f6 r2 v3) ∧
   (r2 = 2000000000 →
    post (-1) (u1.1, u1.2.1, u1.2.2.1, u1.2.2.2.1, u1.2.2.2.2, f5, f6))) f1 g0_men g0_dogs f2 f3 f4 p0 p1
def wpX11_first_45 (post : Int32 → (Int32 × Int32 × Int32 × (Nat → Int32) × (Nat → Int32) × (Nat → Int32) × (Nat → Int32) × (Nat → Int32)) → Prop) (f1 : Nat → Int32) (g0_thrown : Int32) (g0_men : Int32) (g0_dogs : Int32) (f2 : Nat → Int32) (f3 : Nat → Int32) (f4 : Nat → Int32) (f5 : Nat → Int32) (f6 : Nat → Int32) (x1 : Int32) (x2 : Int32) (x3 : Int32) (s1 : Int32) : Prop :=
  wpX11_throwsIf (fun (r2 : Int32) (u1 : Int32) =>
   (r2 = 0 →
    wpX11_firstWalk (fun (r4 : Int32) (u3 : Int32 × Int32 × (Nat → Int32) × (Nat → Int32) × (Nat → Int32) × (Nat → Int32) × (Nat → Int32)) =>
     (¬ x3 = (-1) →
      (r4 ≤ x3 →
       post (-1) (u1, u3.1, u3.2.1, u3.2.2.1, u3.2.2.2.1, u3.2.2.2.2.1, u3.2.2.2.2.2.1, u3.2.2.2.2.2.2)) ∧
      (¬ r4 ≤ x3 →
       vp_in x3 60 ∧
       post (u3.2.2.2.2.2.2 x3.toNatClampNeg) (u1, u3.1, u3.2.1, u3.2.2.1, u3.2.2.2.1, u3.2.2.2.2.1, u3.2.2.2.2.2.1, u3.2.2.2.2.2.2))) ∧
     (x3 = (-1) →
      post r4 (u1, u3.1, u3.2.1, u3.2.2.1, u3.2.2.2.1, u3.2.2.2.2.1, u3.2.2.2.2.2.1, u3.2.2.2.2.2.2))) f1 g0_men g0_dogs f2 f3 f4 f5 f6 x1 x2) ∧
   (¬ r2 = 0 →
    post 0 (u1, g0_men, g0_dogs, f2, f3, f4, f5, f6))) g0_thrown s1 2
def wpX11_first_27 (post : Int32 → (Int32 × Int32 × Int32 × (Nat → Int32) × (Nat → Int32) × (Nat → Int32) × (Nat → Int32) × (Nat → Int32)) → Prop) (f1 : Nat → Int32) (g0_thrown : Int32) (g0_men : Int32) (g0_dogs : Int32) (f2 : Nat → Int32) (f3 : Nat → Int32) (f4 : Nat → Int32) (f5 : Nat → Int32) (f6 : Nat → Int32) (x1 : Int32) (x2 : Int32) (x3 : Int32) (s1 : Int32) : Prop :=
  wpX11_throwsIf (fun (r2 : Int32) (u1 : Int32) =>
   (¬ r2 = 0 →
    post 0 (u1, g0_men, g0_dogs, f2, f3, f4, f5, f6)) ∧
   (r2 = 0 →
    ((-1) ≤ x3 →
     wpX11_first_45 post f1 u1 g0_men g0_dogs f2 f3 f4 f5 f6 x1 x2 x3 0) ∧
    (¬ (-1) ≤ x3 →
     wpX11_first_45 post f1 u1 g0_men g0_dogs f2 f3 f4 f5 f6 x1 x2 x3 1))) g0_thrown s1 1
def wpX11_first_22 (post : Int32 → (Int32 × Int32 × Int32 × (Nat → Int32) × (Nat → Int32) × (Nat → Int32) × (Nat → Int32) × (Nat → Int32)) → Prop) (f1 : Nat → Int32) (g0_thrown : Int32) (g0_men : Int32) (g0_dogs : Int32) (f2 : Nat → Int32) (f3 : Nat → Int32) (f4 : Nat → Int32) (f5 : Nat → Int32) (f6 : Nat → Int32) (x1 : Int32) (x2 : Int32) (x3 : Int32) : Prop :=
  wpX11_first_27 post f1 g0_thrown g0_men g0_dogs f2 f3 f4 f5 f6 x1 x2 x3 1
def wpX11_first (post : Int32 → (Int32 × Int32 × Int32 × (Nat → Int32) × (Nat → Int32) × (Nat → Int32) × (Nat → Int32) × (Nat → Int32)) → Prop) (f1 : Nat → Int32) (g0_thrown : Int32) (g0_men : Int32) (g0_dogs : Int32) (f2 : Nat → Int32) (f3 : Nat → Int32) (f4 : Nat → Int32) (f5 : Nat → Int32) (f6 : Nat → Int32) (p0 : Int32) (p1 : Int32) (p2 : Int32) : Prop :=
  wpX11_noWay (fun (r2 : Int32) (u1 : Unit) =>
   (¬ r2 = 0 →
    wpX11_first_22 post f1 0 g0_men g0_dogs f2 f3 f4 f5 f6 p0 p1 p2) ∧
   (r2 = 0 →
    wpX11_noWay (fun (r4 : Int32) (u3 : Unit) =>
     (r4 = 0 →
      wpX11_first_27 post f1 0 g0_men g0_dogs f2 f3 f4 f5 f6 p0 p1 p2 0) ∧
     (¬ r4 = 0 →
      wpX11_first_22 post f1 0 g0_men g0_dogs f2 f3 f4 f5 f6 p0 p1 p2)) f1 p1)) f1 p0
def wpX11_bars_76 (post : Int32 → (Int32 × Int32 × Int32 × (Nat → Int32) × (Nat → Int32) × (Nat → Int32) × (Nat → Int32) × (Nat → Int32)) → Prop) (f1 : Nat → Int32) : Nat → Int32 → Int32 → Int32 → (Nat → Int32) → (Nat → Int32) → (Nat → Int32) → (Nat → Int32) → (Nat → Int32) → Int32 → Int32 → Int32 → Int32 → Prop
  | 0, _, _, _, _, _, _, _, _, _, _, _, _ => False
  | n_76 + 1, g0_thrown, g0_men, g0_dogs, f2, f3, f4, f5, f6, x4, x5, x6, x7 =>
    vp_in ((30 * x5) + x6) 900 ∧
    (x4 ≤ (f3 ((30 * x5) + x6).toNatClampNeg) →
     post ((100 * x5) + x6) (g0_thrown, g0_men, g0_dogs, f2, f3, f4, f5, f6)) ∧
    (¬ x4 ≤ (f3 ((30 * x5) + x6).toNatClampNeg) →
     vp_in x7 60 ∧
     wpX11_manBy (fun (r2 : Int32) (u1 : Unit) =>
      ∀ v3 : Int32, v3 = x5 + r2 →
      vp_in x7 60 ∧
      wpX11_dogBy (fun (r5 : Int32) (u4 : Unit) =>
       ∀ v6 : Int32, v6 = x6 + r5 →
       ∀ v7 : Int32, v7 = x7 + 1 →
       wpX11_bars_76 post f1 n_76 g0_thrown g0_men g0_dogs f2 f3 f4 f5 f6 x4 v3 v6 v7) (f6 x7.toNatClampNeg)) (f6 x7.toNatClampNeg))
def wpX11_bars_27 (post : Int32 → (Int32 × Int32 × Int32 × (Nat → Int32) × (Nat → Int32) × (Nat → Int32) × (Nat → Int32) × (Nat → Int32)) → Prop) (f1 : Nat → Int32) (g0_thrown : Int32) (g0_men : Int32) (g0_dogs : Int32) (f2 : Nat → Int32) (f3 : Nat → Int32) (f4 : Nat → Int32) (f5 : Nat → Int32) (f6 : Nat → Int32) (x1 : Int32) (x2 : Int32) (s1 : Int32) : Prop :=
  wpX11_throwsIf (fun (r2 : Int32) (u1 : Int32) =>
   (r2 = 0 →
    wpX11_firstWalk (fun (r4 : Int32) (u3 : Int32 × Int32 × (Nat → Int32) × (Nat → Int32) × (Nat → Int32) × (Nat → Int32) × (Nat → Int32)) =>
     (0 ≤ r4 →
      wpX11_leadAt (fun (r6 : Int32) (u5 : Unit) =>
       ∃ n_76 : Nat, wpX11_bars_76 post f1 n_76 u1 u3.1 u3.2.1 u3.2.2.1 u3.2.2.2.1 u3.2.2.2.2.1 u3.2.2.2.2.2.1 u3.2.2.2.2.2.2 r6 0 0 0) u3.2.2.2.2.1 (u3.1 - 1) (u3.2.1 - 1)) ∧
     (¬ 0 ≤ r4 →
      post (-1) (u1, u3.1, u3.2.1, u3.2.2.1, u3.2.2.2.1, u3.2.2.2.2.1, u3.2.2.2.2.2.1, u3.2.2.2.2.2.2))) f1 g0_men g0_dogs f2 f3 f4 f5 f6 x1 x2) ∧
   (¬ r2 = 0 →
    post 0 (u1, g0_men, g0_dogs, f2, f3, f4, f5, f6))) g0_thrown s1 1
def wpX11_bars_22 (post : Int32 → (Int32 × Int32 × Int32 × (Nat → Int32) × (Nat → Int32) × (Nat → Int32) × (Nat → Int32) × (Nat → Int32)) → Prop) (f1 : Nat → Int32) (g0_thrown : Int32) (g0_men : Int32) (g0_dogs : Int32) (f2 : Nat → Int32) (f3 : Nat → Int32) (f4 : Nat → Int32) (f5 : Nat → Int32) (f6 : Nat → Int32) (x1 : Int32) (x2 : Int32) : Prop :=
  wpX11_bars_27 post f1 g0_thrown g0_men g0_dogs f2 f3 f4 f5 f6 x1 x2 1
def wpX11_bars (post : Int32 → (Int32 × Int32 × Int32 × (Nat → Int32) × (Nat → Int32) × (Nat → Int32) × (Nat → Int32) × (Nat → Int32)) → Prop) (f1 : Nat → Int32) (g0_thrown : Int32) (g0_men : Int32) (g0_dogs : Int32) (f2 : Nat → Int32) (f3 : Nat → Int32) (f4 : Nat → Int32) (f5 : Nat → Int32) (f6 : Nat → Int32) (p0 : Int32) (p1 : Int32) : Prop :=
  wpX11_noWay (fun (r2 : Int32) (u1 : Unit) =>
   (¬ r2 = 0 →
    wpX11_bars_22 post f1 0 g0_men g0_dogs f2 f3 f4 f5 f6 p0 p1) ∧
   (r2 = 0 →
    wpX11_noWay (fun (r4 : Int32) (u3 : Unit) =>
     (r4 = 0 →
      wpX11_bars_27 post f1 0 g0_men g0_dogs f2 f3 f4 f5 f6 p0 p1 0) ∧
     (¬ r4 = 0 →
      wpX11_bars_22 post f1 0 g0_men g0_dogs f2 f3 f4 f5 f6 p0 p1)) f1 p1)) f1 p0
def wpX11_judge_148 (post : Int32 → (Int32 × Int32 × Int32 × Int32 × (Nat → Int32)) → Prop) (f1 : Nat → Int32) (f2 : Nat → Int32) : Nat → Int32 → Int32 → Int32 → Int32 → (Nat → Int32) → Int32 → Int32 → Int32 → Int32 → Int32 → Int32 → Prop
  | 0, _, _, _, _, _, _, _, _, _, _, _ => False
  | n_148 + 1, g0_thrown, g0_taped, g0_point, g0_end, f3, x1, x2, x3, x5, x6, x7 =>
    (g0_end ≤ x7 →
     post (-1) (g0_thrown, g0_taped, g0_point, g0_end, f3)) ∧
    (¬ g0_end ≤ x7 →
     vp_in x7 400 ∧
     wpX11_manBy (fun (r2 : Int32) (u1 : Unit) =>
      ∀ v3 : Int32, v3 = x5 + r2 →
      vp_in x7 400 ∧
      wpX11_dogBy (fun (r5 : Int32) (u4 : Unit) =>
       ∀ v6 : Int32, v6 = x6 + r5 →
       wpX11_cornersOf (fun (r8 : Int32) (u7 : Unit) =>
        (v3 = r8 →
         post x7 (g0_thrown, g0_taped, g0_point, g0_end, f3)) ∧
        (¬ v3 = r8 →
         wpX11_cornersOf (fun (r10 : Int32) (u9 : Unit) =>
          (v6 = r10 →
           post x7 (g0_thrown, g0_taped, g0_point, g0_end, f3)) ∧
          (¬ v6 = r10 →
           wpX11_isShut (fun (r12 : Int32) (u11 : (Nat → Int32)) =>
            (¬ r12 = 0 →
             post x7 (g0_thrown, g0_taped, g0_point, g0_end, u11)) ∧
            (r12 = 0 →
             wpX11_farAt (fun (r14 : Int32) (u13 : Unit) =>
              (r14 ≤ x3 →
               ∀ v15 : Int32, v15 = x7 + 1 →
               wpX11_judge_148 post f1 f2 n_148 g0_thrown g0_taped g0_point g0_end u11 x1 x2 x3 v3 v6 v15) ∧
              (¬ r14 ≤ x3 →
               post x7 (g0_thrown, g0_taped, g0_point, g0_end, u11))) f1 x1 v3 x2 v6)) f1 f3 x1 v3 x2 v6)) f1 x2)) f1 x1) ((f2 x7.toNatClampNeg) - 48)) ((f2 x7.toNatClampNeg) - 48))
def wpX11_judge_104 (post : Int32 → (Int32 × Int32 × Int32 × Int32 × (Nat → Int32)) → Prop) (f1 : Nat → Int32) (f2 : Nat → Int32) (g0_thrown : Int32) (g0_taped : Int32) (g0_point : Int32) (g0_end : Int32) (f3 : Nat → Int32) (x1 : Int32) (x2 : Int32) (x3 : Int32) (s1 : Int32) : Prop :=
  wpX11_throwsIf (fun (r2 : Int32) (u1 : Int32) =>
   (r2 = 0 →
    wpX11_isShut (fun (r4 : Int32) (u3 : (Nat → Int32)) =>
     (¬ r4 = 0 →
      post (-2) (u1, g0_taped, g0_point, g0_end, u3)) ∧
     (r4 = 0 →
      wpX11_farAt (fun (r6 : Int32) (u5 : Unit) =>
       (r6 ≤ x3 →
        ∃ n_148 : Nat, wpX11_judge_148 post f1 f2 n_148 u1 g0_taped g0_point g0_end u3 x1 x2 x3 0 0 0) ∧
       (¬ r6 ≤ x3 →
        post (-2) (u1, g0_taped, g0_point, g0_end, u3))) f1 x1 0 x2 0)) f1 f3 x1 0 x2 0) ∧
   (¬ r2 = 0 →
    post 0 (u1, g0_taped, g0_point, g0_end, f3))) g0_thrown s1 2
def wpX11_judge_85 (k49 : Int32 → Int32 → Int32 → Int32 → (Nat → Int32) → Int32 → Int32 → Int32 → Int32 → Int32 → Prop) (post : Int32 → (Int32 × Int32 × Int32 × Int32 × (Nat → Int32)) → Prop) (f1 : Nat → Int32) (f2 : Nat → Int32) (g0_thrown : Int32) (g0_taped : Int32) (g0_point : Int32) (g0_end : Int32) (f3 : Nat → Int32) (x1 : Int32) (x2 : Int32) (x3 : Int32) (x5 : Int32) (s0 : Int32) : Prop :=
  ∀ v1 : Int32, v1 = x5 + 1 →
  k49 g0_thrown g0_taped g0_point g0_end f3 x1 x2 x3 s0 v1
def wpX11_judge_84 (k49 : Int32 → Int32 → Int32 → Int32 → (Nat → Int32) → Int32 → Int32 → Int32 → Int32 → Int32 → Prop) (post : Int32 → (Int32 × Int32 × Int32 × Int32 × (Nat → Int32)) → Prop) (f1 : Nat → Int32) (f2 : Nat → Int32) (g0_thrown : Int32) (g0_taped : Int32) (g0_point : Int32) (g0_end : Int32) (f3 : Nat → Int32) (x1 : Int32) (x2 : Int32) (x3 : Int32) (x5 : Int32) : Prop :=
  wpX11_judge_85 k49 post f1 f2 g0_thrown g0_taped g0_point g0_end f3 x1 x2 x3 x5 0
def wpX11_judge_49 (post : Int32 → (Int32 × Int32 × Int32 × Int32 × (Nat → Int32)) → Prop) (f1 : Nat → Int32) (f2 : Nat → Int32) : Nat → Int32 → Int32 → Int32 → Int32 → (Nat → Int32) → Int32 → Int32 → Int32 → Int32 → Int32 → Prop
  | 0, _, _, _, _, _, _, _, _, _, _ => False
  | n_49 + 1, g0_thrown, g0_taped, g0_point, g0_end, f3, x1, x2, x3, x4, x5 =>
    (g0_end ≤ x5 →
     (¬ x4 = 0 →
      wpX11_judge_104 post f1 f2 g0_thrown g0_taped g0_point g0_end f3 x1 x2 x3 0) ∧
     (x4 = 0 →
      wpX11_judge_104 post f1 f2 g0_thrown g0_taped g0_point g0_end f3 x1 x2 x3 1)) ∧
    (¬ g0_end ≤ x5 →
     (x4 = 0 →
      wpX11_judge_84 (fun y0 y1 y2 y3 y4 y5 y6 y7 y8 y9 => wpX11_judge_49 post f1 f2 n_49 y0 y1 y2 y3 y4 y5 y6 y7 y8 y9) post f1 f2 g0_thrown g0_taped g0_point g0_end f3 x1 x2 x3 x5) ∧
     (¬ x4 = 0 →
      vp_in x5 400 ∧
      wpX11_in (fun (r2 : Int32) (u1 : Unit) =>
       (r2 = 0 →
        wpX11_judge_84 (fun y0 y1 y2 y3 y4 y5 y6 y7 y8 y9 => wpX11_judge_49 post f1 f2 n_49 y0 y1 y2 y3 y4 y5 y6 y7 y8 y9) post f1 f2 g0_thrown g0_taped g0_point g0_end f3 x1 x2 x3 x5) ∧
       (¬ r2 = 0 →
        wpX11_judge_85 (fun y0 y1 y2 y3 y4 y5 y6 y7 y8 y9 => wpX11_judge_49 post f1 f2 n_49 y0 y1 y2 y3 y4 y5 y6 y7 y8 y9) post f1 f2 g0_thrown g0_taped g0_point g0_end f3 x1 x2 x3 x5 1)) (f2 x5.toNatClampNeg) 49 51))
def wpX11_judge_44 (post : Int32 → (Int32 × Int32 × Int32 × Int32 × (Nat → Int32)) → Prop) (f1 : Nat → Int32) (f2 : Nat → Int32) (g0_thrown : Int32) (g0_taped : Int32) (g0_point : Int32) (g0_end : Int32) (f3 : Nat → Int32) (x1 : Int32) (x2 : Int32) (x3 : Int32) (s0 : Int32) : Prop :=
  ∃ n_49 : Nat, wpX11_judge_49 post f1 f2 n_49 g0_thrown g0_taped g0_point g0_end f3 x1 x2 x3 s0 0
def wpX11_judge_26 (post : Int32 → (Int32 × Int32 × Int32 × Int32 × (Nat → Int32)) → Prop) (f1 : Nat → Int32) (f2 : Nat → Int32) (g0_thrown : Int32) (g0_taped : Int32) (g0_point : Int32) (g0_end : Int32) (f3 : Nat → Int32) (x1 : Int32) (x2 : Int32) (x3 : Int32) (s1 : Int32) : Prop :=
  wpX11_throwsIf (fun (r2 : Int32) (u1 : Int32) =>
   (r2 = 0 →
    (x3 < 0 →
     wpX11_judge_44 post f1 f2 u1 g0_taped g0_point g0_end f3 x1 x2 x3 0) ∧
    (¬ x3 < 0 →
     wpX11_judge_44 post f1 f2 u1 g0_taped g0_point g0_end f3 x1 x2 x3 1)) ∧
   (¬ r2 = 0 →
    post 0 (u1, g0_taped, g0_point, g0_end, f3))) g0_thrown s1 1
def wpX11_judge_21 (post : Int32 → (Int32 × Int32 × Int32 × Int32 × (Nat → Int32)) → Prop) (f1 : Nat → Int32) (f2 : Nat → Int32) (g0_thrown : Int32) (g0_taped : Int32) (g0_point : Int32) (g0_end : Int32) (f3 : Nat → Int32) (x1 : Int32) (x2 : Int32) (x3 : Int32) : Prop :=
  wpX11_judge_26 post f1 f2 g0_thrown g0_taped g0_point g0_end f3 x1 x2 x3 1
def wpX11_judge (post : Int32 → (Int32 × Int32 × Int32 × Int32 × (Nat → Int32)) → Prop) (f1 : Nat → Int32) (f2 : Nat → Int32) (g0_thrown : Int32) (g0_taped : Int32) (g0_point : Int32) (g0_end : Int32) (f3 : Nat → Int32) (p0 : Int32) (p1 : Int32) (p2 : Int32) : Prop :=
  wpX11_uses (fun (u1 : Int32 × Int32 × Int32 × Int32) =>
   wpX11_noWay (fun (r3 : Int32) (u2 : Unit) =>
    (¬ r3 = 0 →
     wpX11_judge_21 post f1 f2 u1.1 u1.2.1 u1.2.2.1 u1.2.2.2 f3 p0 p1 p2) ∧
    (r3 = 0 →
     wpX11_noWay (fun (r5 : Int32) (u4 : Unit) =>
      (r5 = 0 →
       wpX11_judge_26 post f1 f2 u1.1 u1.2.1 u1.2.2.1 u1.2.2.2 f3 p0 p1 p2 0) ∧
      (¬ r5 = 0 →
       wpX11_judge_21 post f1 f2 u1.1 u1.2.1 u1.2.2.1 u1.2.2.2 f3 p0 p1 p2)) f1 p1)) f1 p0) g0_thrown g0_taped g0_point g0_end
def wpX11_points_16 (n2 : Nat) (n3 : Nat) (post : Int32 → ((Nat → Int32) × (Nat → Int32)) → Prop) (f1 : Nat → Int32) : Nat → (Nat → Int32) → (Nat → Int32) → Int32 → Int32 → Int32 → Int32 → Prop
  | 0, _, _, _, _, _, _ => False
  | n_16 + 1, f2, f3, x1, x2, x5, x6 =>
    (x5 ≤ x6 →
     post x5 (f2, f3)) ∧
    (¬ x5 ≤ x6 →
     ¬ x2 = 0 ∧
     ∀ v1 : Int32, v1 = x6 / x2 →
     ¬ x2 = 0 ∧
     ∀ v2 : Int32, v2 = x6 - x6 / x2 * x2 →
     wpX11_cornersOf (fun (r4 : Int32) (u3 : Unit) =>
      ∀ v5 : Int32, v5 = iMin (r4 - 1) (v1 + 1) →
      wpX11_xOf (fun (r7 : Int32) (u6 : Unit) =>
       wpX11_xOf (fun (r9 : Int32) (u8 : Unit) =>
        wpX11_xOf (fun (r11 : Int32) (u10 : Unit) =>
         vp_in x6 n2 ∧
         wpX11_yOf (fun (r13 : Int32) (u12 : Unit) =>
          wpX11_yOf (fun (r15 : Int32) (u14 : Unit) =>
           wpX11_yOf (fun (r17 : Int32) (u16 : Unit) =>
            vp_in x6 n3 ∧
            ∀ v18 : Int32, v18 = x6 + 1 →
            wpX11_points_16 n2 n3 post f1 n_16 (upd f2 x6.toNatClampNeg ((x2 * r7) + (v2 * (r9 - r11)))) (upd f3 x6.toNatClampNeg ((x2 * r13) + (v2 * (r15 - r17)))) x1 x2 x5 v18) f1 x1 v1) f1 x1 v5) f1 x1 v1) f1 x1 v1) f1 x1 v5) f1 x1 v1) f1 x1)
def wpX11_points (n2 : Nat) (n3 : Nat) (post : Int32 → ((Nat → Int32) × (Nat → Int32)) → Prop) (f1 : Nat → Int32) (f2 : Nat → Int32) (f3 : Nat → Int32) (p0 : Int32) (p1 : Int32) : Prop :=
  wpX11_cornersOf (fun (r2 : Int32) (u1 : Unit) =>
   ∀ v3 : Int32, v3 = (p1 * (r2 - 1)) + 1 →
   ∃ n_16 : Nat, wpX11_points_16 n2 n3 post f1 n_16 f2 f3 p0 p1 v3 0) f1 p0
def wpX11_parts_180 (k109 : Int32 → (Nat → Int32) → (Nat → Int32) → (Nat → Int32) → (Nat → Int32) → (Nat → Int32) → Int32 → Int32 → Int32 → Int32 → Int32 → Prop) (k94 : Int32 → (Nat → Int32) → (Nat → Int32) → (Nat → Int32) → (Nat → Int32) → (Nat → Int32) → Int32 → Int32 → Int32 → Prop) (post : Int64 → (Int32 × (Nat → Int32) × (Nat → Int32) × (Nat → Int32) × (Nat → Int32) × (Nat → Int32)) → Prop) (f1 : Nat → Int32) (g0_thrown : Int32) (f2 : Nat → Int32) (f3 : Nat → Int32) (f4 : Nat → Int32) (f5 : Nat → Int32) (f6 : Nat → Int32) (x4 : Int32) (x5 : Int32) (x6 : Int32) (x8 : Int32) (x9 : Int32) (s0 : Int32) : Prop :=
  vp_in x6 233 ∧
  vp_in x6 233 ∧
  vp_in x8 233 ∧
  vp_in x8 233 ∧
  wpX11_farOf (fun (r2 : Int32) (u1 : Unit) =>
   vp_in x8 233 ∧
   ∀ v3 : Int32, v3 = x8 + 1 →
   k109 g0_thrown f2 f3 f4 f5 (upd f6 x8.toNatClampNeg (iMax r2 s0)) x4 x5 x6 x9 v3) (f2 x6.toNatClampNeg) (f3 x6.toNatClampNeg) (f4 x8.toNatClampNeg) (f5 x8.toNatClampNeg)
def wpX11_parts_174 (k109 : Int32 → (Nat → Int32) → (Nat → Int32) → (Nat → Int32) → (Nat → Int32) → (Nat → Int32) → Int32 → Int32 → Int32 → Int32 → Int32 → Prop) (k94 : Int32 → (Nat → Int32) → (Nat → Int32) → (Nat → Int32) → (Nat → Int32) → (Nat → Int32) → Int32 → Int32 → Int32 → Prop) (post : Int64 → (Int32 × (Nat → Int32) × (Nat → Int32) × (Nat → Int32) × (Nat → Int32) × (Nat → Int32)) → Prop) (f1 : Nat → Int32) (g0_thrown : Int32) (f2 : Nat → Int32) (f3 : Nat → Int32) (f4 : Nat → Int32) (f5 : Nat → Int32) (f6 : Nat → Int32) (x4 : Int32) (x5 : Int32) (x6 : Int32) (x8 : Int32) (x9 : Int32) (s0 : Int32) (s1 : Int32) (s2 : Int32) : Prop :=
  wpX11_parts_180 k109 k94 post f1 g0_thrown f2 f3 f4 f5 f6 x4 x5 x6 x8 x9 (iMin s0 (iMin s1 s2))
def wpX11_parts_150 (k109 : Int32 → (Nat → Int32) → (Nat → Int32) → (Nat → Int32) → (Nat → Int32) → (Nat → Int32) → Int32 → Int32 → Int32 → Int32 → Int32 → Prop) (k94 : Int32 → (Nat → Int32) → (Nat → Int32) → (Nat → Int32) → (Nat → Int32) → (Nat → Int32) → Int32 → Int32 → Int32 → Prop) (post : Int64 → (Int32 × (Nat → Int32) × (Nat → Int32) × (Nat → Int32) × (Nat → Int32) × (Nat → Int32)) → Prop) (f1 : Nat → Int32) (g0_thrown : Int32) (f2 : Nat → Int32) (f3 : Nat → Int32) (f4 : Nat → Int32) (f5 : Nat → Int32) (f6 : Nat → Int32) (x4 : Int32) (x5 : Int32) (x6 : Int32) (x7 : Int32) (x8 : Int32) (x9 : Int32) : Prop :=
  (¬ x8 = 0 →
   vp_in (x8 - 1) 233 ∧
   wpX11_parts_174 k109 k94 post f1 g0_thrown f2 f3 f4 f5 f6 x4 x5 x6 x8 x9 x7 x9 (f6 (x8 - 1).toNatClampNeg)) ∧
  (x8 = 0 →
   wpX11_parts_174 k109 k94 post f1 g0_thrown f2 f3 f4 f5 f6 x4 x5 x6 x8 x9 x7 x9 2000000000)
def wpX11_parts_134 (k109 : Int32 → (Nat → Int32) → (Nat → Int32) → (Nat → Int32) → (Nat → Int32) → (Nat → Int32) → Int32 → Int32 → Int32 → Int32 → Int32 → Prop) (k94 : Int32 → (Nat → Int32) → (Nat → Int32) → (Nat → Int32) → (Nat → Int32) → (Nat → Int32) → Int32 → Int32 → Int32 → Prop) (post : Int64 → (Int32 × (Nat → Int32) × (Nat → Int32) × (Nat → Int32) × (Nat → Int32) × (Nat → Int32)) → Prop) (f1 : Nat → Int32) (g0_thrown : Int32) (f2 : Nat → Int32) (f3 : Nat → Int32) (f4 : Nat → Int32) (f5 : Nat → Int32) (f6 : Nat → Int32) (x4 : Int32) (x5 : Int32) (x6 : Int32) (x7 : Int32) (x8 : Int32) (s0 : Int32) : Prop :=
  (¬ x6 = 0 →
   wpX11_parts_150 k109 k94 post f1 g0_thrown f2 f3 f4 f5 f6 x4 x5 x6 x7 x8 s0) ∧
  (x6 = 0 →
   (¬ x8 = 0 →
    wpX11_parts_150 k109 k94 post f1 g0_thrown f2 f3 f4 f5 f6 x4 x5 x6 x7 x8 s0) ∧
   (x8 = 0 →
    wpX11_parts_180 k109 k94 post f1 g0_thrown f2 f3 f4 f5 f6 x4 x5 x6 x8 s0 0))
def wpX11_parts_109 (k94 : Int32 → (Nat → Int32) → (Nat → Int32) → (Nat → Int32) → (Nat → Int32) → (Nat → Int32) → Int32 → Int32 → Int32 → Prop) (post : Int64 → (Int32 × (Nat → Int32) × (Nat → Int32) × (Nat → Int32) × (Nat → Int32) × (Nat → Int32)) → Prop) (f1 : Nat → Int32) : Nat → Int32 → (Nat → Int32) → (Nat → Int32) → (Nat → Int32) → (Nat → Int32) → (Nat → Int32) → Int32 → Int32 → Int32 → Int32 → Int32 → Prop
  | 0, _, _, _, _, _, _, _, _, _, _, _ => False
  | n_109 + 1, g0_thrown, f2, f3, f4, f5, f6, x4, x5, x6, x7, x8 =>
    (x5 ≤ x8 →
     ∀ v1 : Int32, v1 = x6 + 1 →
     k94 g0_thrown f2 f3 f4 f5 f6 x4 x5 v1) ∧
    (¬ x5 ≤ x8 →
     (¬ x6 = 0 →
      vp_in x8 233 ∧
      wpX11_parts_134 (fun y0 y1 y2 y3 y4 y5 y6 y7 y8 y9 y10 => wpX11_parts_109 k94 post f1 n_109 y0 y1 y2 y3 y4 y5 y6 y7 y8 y9 y10) k94 post f1 g0_thrown f2 f3 f4 f5 f6 x4 x5 x6 x7 x8 (f6 x8.toNatClampNeg)) ∧
     (x6 = 0 →
      wpX11_parts_134 (fun y0 y1 y2 y3 y4 y5 y6 y7 y8 y9 y10 => wpX11_parts_109 k94 post f1 n_109 y0 y1 y2 y3 y4 y5 y6 y7 y8 y9 y10) k94 post f1 g0_thrown f2 f3 f4 f5 f6 x4 x5 x6 x7 x8 2000000000))
def wpX11_parts_94 (post : Int64 → (Int32 × (Nat → Int32) × (Nat → Int32) × (Nat → Int32) × (Nat → Int32) × (Nat → Int32)) → Prop) (f1 : Nat → Int32) : Nat → Int32 → (Nat → Int32) → (Nat → Int32) → (Nat → Int32) → (Nat → Int32) → (Nat → Int32) → Int32 → Int32 → Int32 → Prop
  | 0, _, _, _, _, _, _, _, _, _ => False
  | n_94 + 1, g0_thrown, f2, f3, f4, f5, f6, x4, x5, x6 =>
    (x4 ≤ x6 →
     vp_in (x5 - 1) 233 ∧
     post ((f6 (x5 - 1).toNatClampNeg).toInt64) (g0_thrown, f2, f3, f4, f5, f6)) ∧
    (¬ x4 ≤ x6 →
     ∃ n_109 : Nat, wpX11_parts_109 (fun y0 y1 y2 y3 y4 y5 y6 y7 y8 => wpX11_parts_94 post f1 n_94 y0 y1 y2 y3 y4 y5 y6 y7 y8) post f1 n_109 g0_thrown f2 f3 f4 f5 f6 x4 x5 x6 2000000000 0)
def wpX11_parts_50 (post : Int64 → (Int32 × (Nat → Int32) × (Nat → Int32) × (Nat → Int32) × (Nat → Int32) × (Nat → Int32)) → Prop) (f1 : Nat → Int32) (g0_thrown : Int32) (f2 : Nat → Int32) (f3 : Nat → Int32) (f4 : Nat → Int32) (f5 : Nat → Int32) (f6 : Nat → Int32) (x1 : Int32) (x2 : Int32) (x3 : Int32) (s1 : Int32) : Prop :=
  wpX11_throwsIf (fun (r2 : Int32) (u1 : Int32) =>
   (r2 = 0 →
    wpX11_points 233 233 (fun (r4 : Int32) (u3 : (Nat → Int32) × (Nat → Int32)) =>
     wpX11_points 233 233 (fun (r6 : Int32) (u5 : (Nat → Int32) × (Nat → Int32)) =>
      ∃ n_94 : Nat, wpX11_parts_94 post f1 n_94 u1 u3.1 u3.2 u5.1 u5.2 f6 r4 r6 0) f1 f4 f5 x2 x3) f1 f2 f3 x1 x3) ∧
   (¬ r2 = 0 →
    post 0 (u1, f2, f3, f4, f5, f6))) g0_thrown s1 2
def wpX11_parts_27 (post : Int64 → (Int32 × (Nat → Int32) × (Nat → Int32) × (Nat → Int32) × (Nat → Int32) × (Nat → Int32)) → Prop) (f1 : Nat → Int32) (g0_thrown : Int32) (f2 : Nat → Int32) (f3 : Nat → Int32) (f4 : Nat → Int32) (f5 : Nat → Int32) (f6 : Nat → Int32) (x1 : Int32) (x2 : Int32) (x3 : Int32) (s1 : Int32) : Prop :=
  wpX11_throwsIf (fun (r2 : Int32) (u1 : Int32) =>
   (¬ r2 = 0 →
    post 0 (u1, f2, f3, f4, f5, f6)) ∧
   (r2 = 0 →
    wpX11_in (fun (r4 : Int32) (u3 : Unit) =>
     (¬ r4 = 0 →
      wpX11_parts_50 post f1 u1 f2 f3 f4 f5 f6 x1 x2 x3 0) ∧
     (r4 = 0 →
      wpX11_parts_50 post f1 u1 f2 f3 f4 f5 f6 x1 x2 x3 1)) x3 1 8)) g0_thrown s1 1
def wpX11_parts_22 (post : Int64 → (Int32 × (Nat → Int32) × (Nat → Int32) × (Nat → Int32) × (Nat → Int32) × (Nat → Int32)) → Prop) (f1 : Nat → Int32) (g0_thrown : Int32) (f2 : Nat → Int32) (f3 : Nat → Int32) (f4 : Nat → Int32) (f5 : Nat → Int32) (f6 : Nat → Int32) (x1 : Int32) (x2 : Int32) (x3 : Int32) : Prop :=
  wpX11_parts_27 post f1 g0_thrown f2 f3 f4 f5 f6 x1 x2 x3 1
def wpX11_parts (post : Int64 → (Int32 × (Nat → Int32) × (Nat → Int32) × (Nat → Int32) × (Nat → Int32) × (Nat → Int32)) → Prop) (f1 : Nat → Int32) (g0_thrown : Int32) (f2 : Nat → Int32) (f3 : Nat → Int32) (f4 : Nat → Int32) (f5 : Nat → Int32) (f6 : Nat → Int32) (p0 : Int32) (p1 : Int32) (p2 : Int32) : Prop :=
  wpX11_noWay (fun (r2 : Int32) (u1 : Unit) =>
   (¬ r2 = 0 →
    wpX11_parts_22 post f1 0 f2 f3 f4 f5 f6 p0 p1 p2) ∧
   (r2 = 0 →
    wpX11_noWay (fun (r4 : Int32) (u3 : Unit) =>
     (r4 = 0 →
      wpX11_parts_27 post f1 0 f2 f3 f4 f5 f6 p0 p1 p2 0) ∧
     (¬ r4 = 0 →
      wpX11_parts_22 post f1 0 f2 f3 f4 f5 f6 p0 p1 p2)) f1 p1)) f1 p0
def wpX11_backLead (post : Int32 → Unit → Prop) (g0_men : Int32) (g0_dogs : Int32) (f1 : Nat → Int32) (p0 : Int32) (p1 : Int32) : Prop :=
  (p0 < 0 →
   post 2000000000 ()) ∧
  (¬ p0 < 0 →
   (p1 < 0 →
    post 2000000000 ()) ∧
   (¬ p1 < 0 →
    (g0_men ≤ p0 →
     post 2000000000 ()) ∧
    (¬ g0_men ≤ p0 →
     (p1 < g0_dogs →
      vp_in ((30 * p0) + p1) 900 ∧
      post (f1 ((30 * p0) + p1).toNatClampNeg) ()) ∧
     (¬ p1 < g0_dogs →
      post 2000000000 ()))))
def wpX11_back_218 (k101 : Int32 → Int32 → Int32 → (Nat → Int32) → (Nat → Int32) → (Nat → Int32) → Int32 → Int32 → Int32 → Prop) (k89 : Int32 → Int32 → Int32 → (Nat → Int32) → (Nat → Int32) → (Nat → Int32) → Int32 → Int32 → Prop) (k80 : Int32 → Int32 → Int32 → (Nat → Int32) → (Nat → Int32) → (Nat → Int32) → Int32 → Prop) (post : Int32 → (Int32 × Int32 × Int32 × (Nat → Int32) × (Nat → Int32) × (Nat → Int32)) → Prop) (f1 : Nat → Int32) (g0_thrown : Int32) (g0_men : Int32) (g0_dogs : Int32) (f2 : Nat → Int32) (f3 : Nat → Int32) (f4 : Nat → Int32) (x3 : Int32) (x4 : Int32) (x5 : Int32) : Prop :=
  ∀ v1 : Int32, v1 = x5 + 1 →
  k101 g0_thrown g0_men g0_dogs f2 f3 f4 x3 x4 v1
def wpX11_back_118 (k101 : Int32 → Int32 → Int32 → (Nat → Int32) → (Nat → Int32) → (Nat → Int32) → Int32 → Int32 → Int32 → Prop) (k89 : Int32 → Int32 → Int32 → (Nat → Int32) → (Nat → Int32) → (Nat → Int32) → Int32 → Int32 → Prop) (k80 : Int32 → Int32 → Int32 → (Nat → Int32) → (Nat → Int32) → (Nat → Int32) → Int32 → Prop) (post : Int32 → (Int32 × Int32 × Int32 × (Nat → Int32) × (Nat → Int32) × (Nat → Int32)) → Prop) (f1 : Nat → Int32) : Nat → Int32 → Int32 → Int32 → (Nat → Int32) → (Nat → Int32) → (Nat → Int32) → Int32 → Int32 → Int32 → Int32 → Int32 → Prop
  | 0, _, _, _, _, _, _, _, _, _, _, _ => False
  | n_118 + 1, g0_thrown, g0_men, g0_dogs, f2, f3, f4, x3, x4, x5, x6, x7 =>
    (9 ≤ x7 →
     vp_in ((30 * x4) + x5) 900 ∧
     ∀ v1 : Int32, v1 = iMax (f3 ((30 * x4) + x5).toNatClampNeg) x6 →
     vp_in ((30 * x4) + x5) 900 ∧
     (v1 < (f4 ((30 * x4) + x5).toNatClampNeg) →
      vp_in ((30 * x4) + x5) 900 ∧
      wpX11_back_218 k101 k89 k80 post f1 g0_thrown g0_men g0_dogs f2 f3 (upd f4 ((30 * x4) + x5).toNatClampNeg v1) 1 x4 x5) ∧
     (¬ v1 < (f4 ((30 * x4) + x5).toNatClampNeg) →
      wpX11_back_218 k101 k89 k80 post f1 g0_thrown g0_men g0_dogs f2 f3 f4 x3 x4 x5)) ∧
    (¬ 9 ≤ x7 →
     wpX11_backLead (fun (r3 : Int32) (u2 : Unit) =>
      ∀ v4 : Int32, v4 = iMin x6 r3 →
      ∀ v5 : Int32, v5 = x7 + 1 →
      wpX11_back_118 k101 k89 k80 post f1 n_118 g0_thrown g0_men g0_dogs f2 f3 f4 x3 x4 x5 v4 v5) g0_men g0_dogs f4 ((x4 + (x7 / 3)) - 1) ((x5 + (x7 - x7 / 3 * 3)) - 1))
def wpX11_back_101 (k89 : Int32 → Int32 → Int32 → (Nat → Int32) → (Nat → Int32) → (Nat → Int32) → Int32 → Int32 → Prop) (k80 : Int32 → Int32 → Int32 → (Nat → Int32) → (Nat → Int32) → (Nat → Int32) → Int32 → Prop) (post : Int32 → (Int32 × Int32 × Int32 × (Nat → Int32) × (Nat → Int32) × (Nat → Int32)) → Prop) (f1 : Nat → Int32) : Nat → Int32 → Int32 → Int32 → (Nat → Int32) → (Nat → Int32) → (Nat → Int32) → Int32 → Int32 → Int32 → Prop
  | 0, _, _, _, _, _, _, _, _, _ => False
  | n_101 + 1, g0_thrown, g0_men, g0_dogs, f2, f3, f4, x3, x4, x5 =>
    (g0_dogs ≤ x5 →
     ∀ v1 : Int32, v1 = x4 + 1 →
     k89 g0_thrown g0_men g0_dogs f2 f3 f4 x3 v1) ∧
    (¬ g0_dogs ≤ x5 →
     ∃ n_118 : Nat, wpX11_back_118 (fun y0 y1 y2 y3 y4 y5 y6 y7 y8 => wpX11_back_101 k89 k80 post f1 n_101 y0 y1 y2 y3 y4 y5 y6 y7 y8) k89 k80 post f1 n_118 g0_thrown g0_men g0_dogs f2 f3 f4 x3 x4 x5 2000000000 0)
def wpX11_back_89 (k80 : Int32 → Int32 → Int32 → (Nat → Int32) → (Nat → Int32) → (Nat → Int32) → Int32 → Prop) (post : Int32 → (Int32 × Int32 × Int32 × (Nat → Int32) × (Nat → Int32) × (Nat → Int32)) → Prop) (f1 : Nat → Int32) : Nat → Int32 → Int32 → Int32 → (Nat → Int32) → (Nat → Int32) → (Nat → Int32) → Int32 → Int32 → Prop
  | 0, _, _, _, _, _, _, _, _ => False
  | n_89 + 1, g0_thrown, g0_men, g0_dogs, f2, f3, f4, x3, x4 =>
    (g0_men ≤ x4 →
     k80 g0_thrown g0_men g0_dogs f2 f3 f4 x3) ∧
    (¬ g0_men ≤ x4 →
     ∃ n_101 : Nat, wpX11_back_101 (fun y0 y1 y2 y3 y4 y5 y6 y7 => wpX11_back_89 k80 post f1 n_89 y0 y1 y2 y3 y4 y5 y6 y7) k80 post f1 n_101 g0_thrown g0_men g0_dogs f2 f3 f4 x3 x4 0)
def wpX11_back_80 (post : Int32 → (Int32 × Int32 × Int32 × (Nat → Int32) × (Nat → Int32) × (Nat → Int32)) → Prop) (f1 : Nat → Int32) : Nat → Int32 → Int32 → Int32 → (Nat → Int32) → (Nat → Int32) → (Nat → Int32) → Int32 → Prop
  | 0, _, _, _, _, _, _, _ => False
  | n_80 + 1, g0_thrown, g0_men, g0_dogs, f2, f3, f4, x3 =>
    (x3 = 0 →
     vp_in (((30 * (g0_men - 1)) + g0_dogs) - 1) 900 ∧
     wpX11_orNone (fun (r2 : Int32) (u1 : Unit) =>
      post r2 (g0_thrown, g0_men, g0_dogs, f2, f3, f4)) (f4 (((30 * (g0_men - 1)) + g0_dogs) - 1).toNatClampNeg)) ∧
    (¬ x3 = 0 →
     ∃ n_89 : Nat, wpX11_back_89 (fun y0 y1 y2 y3 y4 y5 y6 => wpX11_back_80 post f1 n_80 y0 y1 y2 y3 y4 y5 y6) post f1 n_89 g0_thrown g0_men g0_dogs f2 f3 f4 0 0)
def wpX11_back_44 (post : Int32 → (Int32 × Int32 × Int32 × (Nat → Int32) × (Nat → Int32) × (Nat → Int32)) → Prop) (f1 : Nat → Int32) : Nat → Int32 → Int32 → Int32 → (Nat → Int32) → (Nat → Int32) → (Nat → Int32) → Int32 → Prop
  | 0, _, _, _, _, _, _, _ => False
  | n_44 + 1, g0_thrown, g0_men, g0_dogs, f2, f3, f4, x3 =>
    (900 ≤ x3 →
     vp_in 0 900 ∧
     vp_in 0 900 ∧
     ∃ n_80 : Nat, wpX11_back_80 post f1 n_80 g0_thrown g0_men g0_dogs f2 f3 (upd f4 (0 : Int32).toNatClampNeg (f3 (0 : Int32).toNatClampNeg)) 1) ∧
    (¬ 900 ≤ x3 →
     vp_in x3 900 ∧
     ∀ v1 : Int32, v1 = x3 + 1 →
     wpX11_back_44 post f1 n_44 g0_thrown g0_men g0_dogs f2 f3 (upd f4 x3.toNatClampNeg 2000000000) v1)
def wpX11_back_27 (post : Int32 → (Int32 × Int32 × Int32 × (Nat → Int32) × (Nat → Int32) × (Nat → Int32)) → Prop) (f1 : Nat → Int32) (g0_thrown : Int32) (g0_men : Int32) (g0_dogs : Int32) (f2 : Nat → Int32) (f3 : Nat → Int32) (f4 : Nat → Int32) (x1 : Int32) (x2 : Int32) (s1 : Int32) : Prop :=
  wpX11_throwsIf (fun (r2 : Int32) (u1 : Int32) =>
   (r2 = 0 →
    wpX11_lays (fun (u3 : Int32 × Int32 × (Nat → Int32) × (Nat → Int32)) =>
     ∃ n_44 : Nat, wpX11_back_44 post f1 n_44 u1 u3.1 u3.2.1 u3.2.2.1 u3.2.2.2 f4 0) f1 g0_men g0_dogs f2 f3 x1 x2) ∧
   (¬ r2 = 0 →
    post 0 (u1, g0_men, g0_dogs, f2, f3, f4))) g0_thrown s1 1
def wpX11_back_22 (post : Int32 → (Int32 × Int32 × Int32 × (Nat → Int32) × (Nat → Int32) × (Nat → Int32)) → Prop) (f1 : Nat → Int32) (g0_thrown : Int32) (g0_men : Int32) (g0_dogs : Int32) (f2 : Nat → Int32) (f3 : Nat → Int32) (f4 : Nat → Int32) (x1 : Int32) (x2 : Int32) : Prop :=
  wpX11_back_27 post f1 g0_thrown g0_men g0_dogs f2 f3 f4 x1 x2 1
def wpX11_back (post : Int32 → (Int32 × Int32 × Int32 × (Nat → Int32) × (Nat → Int32) × (Nat → Int32)) → Prop) (f1 : Nat → Int32) (g0_thrown : Int32) (g0_men : Int32) (g0_dogs : Int32) (f2 : Nat → Int32) (f3 : Nat → Int32) (f4 : Nat → Int32) (p0 : Int32) (p1 : Int32) : Prop :=
  wpX11_noWay (fun (r2 : Int32) (u1 : Unit) =>
   (¬ r2 = 0 →
    wpX11_back_22 post f1 0 g0_men g0_dogs f2 f3 f4 p0 p1) ∧
   (r2 = 0 →
    wpX11_noWay (fun (r4 : Int32) (u3 : Unit) =>
     (r4 = 0 →
      wpX11_back_27 post f1 0 g0_men g0_dogs f2 f3 f4 p0 p1 0) ∧
     (¬ r4 = 0 →
      wpX11_back_22 post f1 0 g0_men g0_dogs f2 f3 f4 p0 p1)) f1 p1)) f1 p0
def wpX11_roundLead_121 (k51 : (Nat → Int32) → Int32 → Int32 → Int32 → Int32 → Int32 → Int32 → Prop) (k37 : (Nat → Int32) → Int32 → Int32 → Int32 → Int32 → Prop) (post : Int32 → ((Nat → Int32)) → Prop) (g0_men : Int32) (g0_dogs : Int32) (f1 : Nat → Int32) (f2 : Nat → Int32) (x1 : Int32) (x2 : Int32) (x3 : Int32) (x4 : Int32) (x6 : Int32) (x7 : Int32) (s0 : Int32) : Prop :=
  ¬ g0_men = 0 ∧
  ¬ g0_dogs = 0 ∧
  vp_in ((30 * (x4 - x4 / g0_men * g0_men)) + ((x1 + x6) - (x1 + x6) / g0_dogs * g0_dogs)) 900 ∧
  vp_in x6 31 ∧
  ∀ v1 : Int32, v1 = x6 + 1 →
  k51 (upd f2 x6.toNatClampNeg (iMax (f1 ((30 * (x4 - x4 / g0_men * g0_men)) + ((x1 + x6) - (x1 + x6) / g0_dogs * g0_dogs)).toNatClampNeg) s0)) x1 x2 x3 x4 x7 v1
def wpX11_roundLead_115 (k51 : (Nat → Int32) → Int32 → Int32 → Int32 → Int32 → Int32 → Int32 → Prop) (k37 : (Nat → Int32) → Int32 → Int32 → Int32 → Int32 → Prop) (post : Int32 → ((Nat → Int32)) → Prop) (g0_men : Int32) (g0_dogs : Int32) (f1 : Nat → Int32) (f2 : Nat → Int32) (x1 : Int32) (x2 : Int32) (x3 : Int32) (x4 : Int32) (x6 : Int32) (x7 : Int32) (s0 : Int32) (s1 : Int32) (s2 : Int32) : Prop :=
  wpX11_roundLead_121 k51 k37 post g0_men g0_dogs f1 f2 x1 x2 x3 x4 x6 x7 (iMin s0 (iMin s1 s2))
def wpX11_roundLead_91 (k51 : (Nat → Int32) → Int32 → Int32 → Int32 → Int32 → Int32 → Int32 → Prop) (k37 : (Nat → Int32) → Int32 → Int32 → Int32 → Int32 → Prop) (post : Int32 → ((Nat → Int32)) → Prop) (g0_men : Int32) (g0_dogs : Int32) (f1 : Nat → Int32) (f2 : Nat → Int32) (x1 : Int32) (x2 : Int32) (x3 : Int32) (x4 : Int32) (x5 : Int32) (x6 : Int32) (x7 : Int32) : Prop :=
  (¬ x6 = 0 →
   vp_in (x6 - 1) 31 ∧
   wpX11_roundLead_115 k51 k37 post g0_men g0_dogs f1 f2 x1 x2 x3 x4 x6 x7 x5 x7 (f2 (x6 - 1).toNatClampNeg)) ∧
  (x6 = 0 →
   wpX11_roundLead_115 k51 k37 post g0_men g0_dogs f1 f2 x1 x2 x3 x4 x6 x7 x5 x7 2000000000)
def wpX11_roundLead_75 (k51 : (Nat → Int32) → Int32 → Int32 → Int32 → Int32 → Int32 → Int32 → Prop) (k37 : (Nat → Int32) → Int32 → Int32 → Int32 → Int32 → Prop) (post : Int32 → ((Nat → Int32)) → Prop) (g0_men : Int32) (g0_dogs : Int32) (f1 : Nat → Int32) (f2 : Nat → Int32) (x1 : Int32) (x2 : Int32) (x3 : Int32) (x4 : Int32) (x5 : Int32) (x6 : Int32) (s0 : Int32) : Prop :=
  (¬ x4 = 0 →
   wpX11_roundLead_91 k51 k37 post g0_men g0_dogs f1 f2 x1 x2 x3 x4 x5 x6 s0) ∧
  (x4 = 0 →
   (¬ x6 = 0 →
    wpX11_roundLead_91 k51 k37 post g0_men g0_dogs f1 f2 x1 x2 x3 x4 x5 x6 s0) ∧
   (x6 = 0 →
    wpX11_roundLead_121 k51 k37 post g0_men g0_dogs f1 f2 x1 x2 x3 x4 x6 s0 0))
def wpX11_roundLead_51 (k37 : (Nat → Int32) → Int32 → Int32 → Int32 → Int32 → Prop) (post : Int32 → ((Nat → Int32)) → Prop) (g0_men : Int32) (g0_dogs : Int32) (f1 : Nat → Int32) : Nat → (Nat → Int32) → Int32 → Int32 → Int32 → Int32 → Int32 → Int32 → Prop
  | 0, _, _, _, _, _, _, _ => False
  | n_51 + 1, f2, x1, x2, x3, x4, x5, x6 =>
    (x3 < x6 →
     ∀ v1 : Int32, v1 = x4 + 1 →
     k37 f2 x1 x2 x3 v1) ∧
    (¬ x3 < x6 →
     (¬ x4 = 0 →
      vp_in x6 31 ∧
      wpX11_roundLead_75 (fun y0 y1 y2 y3 y4 y5 y6 => wpX11_roundLead_51 k37 post g0_men g0_dogs f1 n_51 y0 y1 y2 y3 y4 y5 y6) k37 post g0_men g0_dogs f1 f2 x1 x2 x3 x4 x5 x6 (f2 x6.toNatClampNeg)) ∧
     (x4 = 0 →
      wpX11_roundLead_75 (fun y0 y1 y2 y3 y4 y5 y6 => wpX11_roundLead_51 k37 post g0_men g0_dogs f1 n_51 y0 y1 y2 y3 y4 y5 y6) k37 post g0_men g0_dogs f1 f2 x1 x2 x3 x4 x5 x6 2000000000))
def wpX11_roundLead_37 (post : Int32 → ((Nat → Int32)) → Prop) (g0_men : Int32) (g0_dogs : Int32) (f1 : Nat → Int32) : Nat → (Nat → Int32) → Int32 → Int32 → Int32 → Int32 → Prop
  | 0, _, _, _, _, _ => False
  | n_37 + 1, f2, x1, x2, x3, x4 =>
    (x2 < x4 →
     vp_in x3 31 ∧
     post (f2 x3.toNatClampNeg) (f2)) ∧
    (¬ x2 < x4 →
     ∃ n_51 : Nat, wpX11_roundLead_51 (fun y0 y1 y2 y3 y4 => wpX11_roundLead_37 post g0_men g0_dogs f1 n_37 y0 y1 y2 y3 y4) post g0_men g0_dogs f1 n_51 f2 x1 x2 x3 x4 2000000000 0)
def wpX11_roundLead_33 (post : Int32 → ((Nat → Int32)) → Prop) (g0_men : Int32) (g0_dogs : Int32) (f1 : Nat → Int32) (f2 : Nat → Int32) (x1 : Int32) (x2 : Int32) (s0 : Int32) : Prop :=
  ∃ n_37 : Nat, wpX11_roundLead_37 post g0_men g0_dogs f1 n_37 f2 x1 x2 s0 0
def wpX11_roundLead_16 (post : Int32 → ((Nat → Int32)) → Prop) (g0_men : Int32) (g0_dogs : Int32) (f1 : Nat → Int32) (f2 : Nat → Int32) (x1 : Int32) (s0 : Int32) : Prop :=
  (¬ g0_dogs = 1 →
   wpX11_roundLead_33 post g0_men g0_dogs f1 f2 x1 s0 g0_dogs) ∧
  (g0_dogs = 1 →
   wpX11_roundLead_33 post g0_men g0_dogs f1 f2 x1 s0 0)
def wpX11_roundLead (post : Int32 → ((Nat → Int32)) → Prop) (g0_men : Int32) (g0_dogs : Int32) (f1 : Nat → Int32) (f2 : Nat → Int32) (p0 : Int32) : Prop :=
  (¬ g0_men = 1 →
   wpX11_roundLead_16 post g0_men g0_dogs f1 f2 p0 g0_men) ∧
  (g0_men = 1 →
   wpX11_roundLead_16 post g0_men g0_dogs f1 f2 p0 0)
def wpX11_ring_88 (k53 : Int32 → Int32 → Int32 → (Nat → Int32) → (Nat → Int32) → (Nat → Int32) → Int32 → Int32 → Int32 → Int32 → Prop) (post : Int32 → (Int32 × Int32 × Int32 × (Nat → Int32) × (Nat → Int32) × (Nat → Int32)) → Prop) (f1 : Nat → Int32) (g0_thrown : Int32) (g0_men : Int32) (g0_dogs : Int32) (f2 : Nat → Int32) (f3 : Nat → Int32) (f4 : Nat → Int32) (x3 : Int32) (x4 : Int32) (x5 : Int32) (x6 : Int32) : Prop :=
  ∀ v1 : Int32, v1 = x6 + 1 →
  k53 g0_thrown g0_men g0_dogs f2 f3 f4 x3 x4 x5 v1
def wpX11_ring_53 (post : Int32 → (Int32 × Int32 × Int32 × (Nat → Int32) × (Nat → Int32) × (Nat → Int32)) → Prop) (f1 : Nat → Int32) : Nat → Int32 → Int32 → Int32 → (Nat → Int32) → (Nat → Int32) → (Nat → Int32) → Int32 → Int32 → Int32 → Int32 → Prop
  | 0, _, _, _, _, _, _, _, _, _, _ => False
  | n_53 + 1, g0_thrown, g0_men, g0_dogs, f2, f3, f4, x3, x4, x5, x6 =>
    (g0_dogs ≤ x6 →
     (x3 = 0 →
      wpX11_orNone (fun (r2 : Int32) (u1 : Unit) =>
       post r2 (g0_thrown, g0_men, g0_dogs, f2, f3, f4)) x5) ∧
     (¬ x3 = 0 →
      post x4 (g0_thrown, g0_men, g0_dogs, f2, f3, f4))) ∧
    (¬ g0_dogs ≤ x6 →
     wpX11_roundLead (fun (r4 : Int32) (u3 : (Nat → Int32)) =>
      (r4 < x5 →
       wpX11_ring_88 (fun y0 y1 y2 y3 y4 y5 y6 y7 y8 y9 => wpX11_ring_53 post f1 n_53 y0 y1 y2 y3 y4 y5 y6 y7 y8 y9) post f1 g0_thrown g0_men g0_dogs f2 f3 u3 x3 x6 r4 x6) ∧
      (¬ r4 < x5 →
       wpX11_ring_88 (fun y0 y1 y2 y3 y4 y5 y6 y7 y8 y9 => wpX11_ring_53 post f1 n_53 y0 y1 y2 y3 y4 y5 y6 y7 y8 y9) post f1 g0_thrown g0_men g0_dogs f2 f3 u3 x3 x4 x5 x6)) g0_men g0_dogs f3 f4 x6)
def wpX11_ring_27 (post : Int32 → (Int32 × Int32 × Int32 × (Nat → Int32) × (Nat → Int32) × (Nat → Int32)) → Prop) (f1 : Nat → Int32) (g0_thrown : Int32) (g0_men : Int32) (g0_dogs : Int32) (f2 : Nat → Int32) (f3 : Nat → Int32) (f4 : Nat → Int32) (x1 : Int32) (x2 : Int32) (x3 : Int32) (s1 : Int32) : Prop :=
  wpX11_throwsIf (fun (r2 : Int32) (u1 : Int32) =>
   (r2 = 0 →
    wpX11_lays (fun (u3 : Int32 × Int32 × (Nat → Int32) × (Nat → Int32)) =>
     ∃ n_53 : Nat, wpX11_ring_53 post f1 n_53 u1 u3.1 u3.2.1 u3.2.2.1 u3.2.2.2 f4 x3 (-1) 2000000000 0) f1 g0_men g0_dogs f2 f3 x1 x2) ∧
   (¬ r2 = 0 →
    post 0 (u1, g0_men, g0_dogs, f2, f3, f4))) g0_thrown s1 1
def wpX11_ring_22 (post : Int32 → (Int32 × Int32 × Int32 × (Nat → Int32) × (Nat → Int32) × (Nat → Int32)) → Prop) (f1 : Nat → Int32) (g0_thrown : Int32) (g0_men : Int32) (g0_dogs : Int32) (f2 : Nat → Int32) (f3 : Nat → Int32) (f4 : Nat → Int32) (x1 : Int32) (x2 : Int32) (x3 : Int32) : Prop :=
  wpX11_ring_27 post f1 g0_thrown g0_men g0_dogs f2 f3 f4 x1 x2 x3 1
def wpX11_ring (post : Int32 → (Int32 × Int32 × Int32 × (Nat → Int32) × (Nat → Int32) × (Nat → Int32)) → Prop) (f1 : Nat → Int32) (g0_thrown : Int32) (g0_men : Int32) (g0_dogs : Int32) (f2 : Nat → Int32) (f3 : Nat → Int32) (f4 : Nat → Int32) (p0 : Int32) (p1 : Int32) (p2 : Int32) : Prop :=
  wpX11_noWay (fun (r2 : Int32) (u1 : Unit) =>
   (¬ r2 = 0 →
    wpX11_ring_22 post f1 0 g0_men g0_dogs f2 f3 f4 p0 p1 p2) ∧
   (r2 = 0 →
    wpX11_noWay (fun (r4 : Int32) (u3 : Unit) =>
     (r4 = 0 →
      wpX11_ring_27 post f1 0 g0_men g0_dogs f2 f3 f4 p0 p1 p2 0) ∧
     (¬ r4 = 0 →
      wpX11_ring_22 post f1 0 g0_men g0_dogs f2 f3 f4 p0 p1 p2)) f1 p1)) f1 p0
def wpX11_leadsAt (post : Int32 → Unit → Prop) (f1 : Nat → Int32) (p0 : Int32) (p1 : Int32) (p2 : Int32) : Prop :=
  (p0 < 0 →
   post 2000000000 ()) ∧
  (¬ p0 < 0 →
   (p1 < 0 →
    post 2000000000 ()) ∧
   (¬ p1 < 0 →
    (0 ≤ p2 →
     vp_in ((30 * ((30 * p0) + p1)) + p2) 27000 ∧
     post (f1 ((30 * ((30 * p0) + p1)) + p2).toNatClampNeg) ()) ∧
    (¬ 0 ≤ p2 →
     post 2000000000 ())))
def wpX11_leastOfThree_180 (k72 : Int32 → Int32 → (Nat → Int32) → (Nat → Int32) → (Nat → Int32) → (Nat → Int32) → Int32 → Int32 → Int32 → Int32 → Int32 → Int32 → Int32 → Prop) (k59 : Int32 → Int32 → (Nat → Int32) → (Nat → Int32) → (Nat → Int32) → (Nat → Int32) → Int32 → Int32 → Int32 → Int32 → Int32 → Int32 → Prop) (k46 : Int32 → Int32 → (Nat → Int32) → (Nat → Int32) → (Nat → Int32) → (Nat → Int32) → Int32 → Int32 → Int32 → Int32 → Int32 → Prop) (post : Int32 → (Int32 × Int32 × (Nat → Int32) × (Nat → Int32) × (Nat → Int32) × (Nat → Int32)) → Prop) (f1 : Nat → Int32) : Nat → Int32 → Int32 → (Nat → Int32) → (Nat → Int32) → (Nat → Int32) → (Nat → Int32) → Int32 → Int32 → Int32 → Int32 → Int32 → Int32 → Int32 → Int32 → Int32 → Int32 → Prop
  | 0, _, _, _, _, _, _, _, _, _, _, _, _, _, _, _, _ => False
  | n_180 + 1, g0_men, g0_dogs, f2, f3, f4, f5, x1, x2, x3, x4, x5, x6, x7, x8, x9, x10 =>
    (8 ≤ x10 →
     vp_in ((30 * ((30 * x5) + x6)) + x7) 27000 ∧
     ∀ v1 : Int32, v1 = x7 + 1 →
     k72 g0_men g0_dogs f2 f3 f4 (upd f5 ((30 * ((30 * x5) + x6)) + x7).toNatClampNeg (iMax x8 x9)) x1 x2 x3 x4 x5 x6 v1) ∧
    (¬ 8 ≤ x10 →
     wpX11_leadsAt (fun (r3 : Int32) (u2 : Unit) =>
      ∀ v4 : Int32, v4 = iMin x9 r3 →
      ∀ v5 : Int32, v5 = x10 + 1 →
      wpX11_leastOfThree_180 k72 k59 k46 post f1 n_180 g0_men g0_dogs f2 f3 f4 f5 x1 x2 x3 x4 x5 x6 x7 x8 v4 v5) f5 (x5 - (x10 &&& 1)) (x6 - ((x10 >>> ((1 : Int32) &&& 31)) &&& 1)) (x7 - (x10 >>> ((2 : Int32) &&& 31))))
def wpX11_leastOfThree_175 (k72 : Int32 → Int32 → (Nat → Int32) → (Nat → Int32) → (Nat → Int32) → (Nat → Int32) → Int32 → Int32 → Int32 → Int32 → Int32 → Int32 → Int32 → Prop) (k59 : Int32 → Int32 → (Nat → Int32) → (Nat → Int32) → (Nat → Int32) → (Nat → Int32) → Int32 → Int32 → Int32 → Int32 → Int32 → Int32 → Prop) (k46 : Int32 → Int32 → (Nat → Int32) → (Nat → Int32) → (Nat → Int32) → (Nat → Int32) → Int32 → Int32 → Int32 → Int32 → Int32 → Prop) (post : Int32 → (Int32 × Int32 × (Nat → Int32) × (Nat → Int32) × (Nat → Int32) × (Nat → Int32)) → Prop) (f1 : Nat → Int32) (g0_men : Int32) (g0_dogs : Int32) (f2 : Nat → Int32) (f3 : Nat → Int32) (f4 : Nat → Int32) (f5 : Nat → Int32) (x1 : Int32) (x2 : Int32) (x3 : Int32) (x4 : Int32) (x5 : Int32) (x6 : Int32) (x7 : Int32) (x8 : Int32) (s0 : Int32) : Prop :=
  ∃ n_180 : Nat, wpX11_leastOfThree_180 k72 k59 k46 post f1 n_180 g0_men g0_dogs f2 f3 f4 f5 x1 x2 x3 x4 x5 x6 x7 x8 s0 1
def wpX11_leastOfThree_155 (k72 : Int32 → Int32 → (Nat → Int32) → (Nat → Int32) → (Nat → Int32) → (Nat → Int32) → Int32 → Int32 → Int32 → Int32 → Int32 → Int32 → Int32 → Prop) (k59 : Int32 → Int32 → (Nat → Int32) → (Nat → Int32) → (Nat → Int32) → (Nat → Int32) → Int32 → Int32 → Int32 → Int32 → Int32 → Int32 → Prop) (k46 : Int32 → Int32 → (Nat → Int32) → (Nat → Int32) → (Nat → Int32) → (Nat → Int32) → Int32 → Int32 → Int32 → Int32 → Int32 → Prop) (post : Int32 → (Int32 × Int32 × (Nat → Int32) × (Nat → Int32) × (Nat → Int32) × (Nat → Int32)) → Prop) (f1 : Nat → Int32) (g0_men : Int32) (g0_dogs : Int32) (f2 : Nat → Int32) (f3 : Nat → Int32) (f4 : Nat → Int32) (f5 : Nat → Int32) (x1 : Int32) (x2 : Int32) (x3 : Int32) (x4 : Int32) (x5 : Int32) (x6 : Int32) (x7 : Int32) (s0 : Int32) : Prop :=
  (¬ ((x5 + x6) + x7) = 0 →
   wpX11_leastOfThree_175 k72 k59 k46 post f1 g0_men g0_dogs f2 f3 f4 f5 x1 x2 x3 x4 x5 x6 x7 s0 2000000000) ∧
  (((x5 + x6) + x7) = 0 →
   wpX11_leastOfThree_175 k72 k59 k46 post f1 g0_men g0_dogs f2 f3 f4 f5 x1 x2 x3 x4 x5 x6 x7 s0 0)
def wpX11_leastOfThree_72 (k59 : Int32 → Int32 → (Nat → Int32) → (Nat → Int32) → (Nat → Int32) → (Nat → Int32) → Int32 → Int32 → Int32 → Int32 → Int32 → Int32 → Prop) (k46 : Int32 → Int32 → (Nat → Int32) → (Nat → Int32) → (Nat → Int32) → (Nat → Int32) → Int32 → Int32 → Int32 → Int32 → Int32 → Prop) (post : Int32 → (Int32 × Int32 × (Nat → Int32) × (Nat → Int32) × (Nat → Int32) × (Nat → Int32)) → Prop) (f1 : Nat → Int32) : Nat → Int32 → Int32 → (Nat → Int32) → (Nat → Int32) → (Nat → Int32) → (Nat → Int32) → Int32 → Int32 → Int32 → Int32 → Int32 → Int32 → Int32 → Prop
  | 0, _, _, _, _, _, _, _, _, _, _, _, _, _ => False
  | n_72 + 1, g0_men, g0_dogs, f2, f3, f4, f5, x1, x2, x3, x4, x5, x6, x7 =>
    wpX11_cornersOf (fun (r2 : Int32) (u1 : Unit) =>
     (r2 ≤ x7 →
      ∀ v3 : Int32, v3 = x6 + 1 →
      k59 g0_men g0_dogs f2 f3 f4 f5 x1 x2 x3 x4 x5 v3) ∧
     (¬ r2 ≤ x7 →
      (x4 = 0 →
       vp_in ((30 * x5) + x6) 900 ∧
       vp_in ((30 * x5) + x7) 900 ∧
       wpX11_leastOfThree_155 (fun y0 y1 y2 y3 y4 y5 y6 y7 y8 y9 y10 y11 y12 => wpX11_leastOfThree_72 k59 k46 post f1 n_72 y0 y1 y2 y3 y4 y5 y6 y7 y8 y9 y10 y11 y12) k59 k46 post f1 g0_men g0_dogs f2 f3 f4 f5 x1 x2 x3 x4 x5 x6 x7 (iMax (f4 ((30 * x5) + x6).toNatClampNeg) (f3 ((30 * x5) + x7).toNatClampNeg))) ∧
      (¬ x4 = 0 →
       wpX11_farAt (fun (r5 : Int32) (u4 : Unit) =>
        wpX11_farAt (fun (r7 : Int32) (u6 : Unit) =>
         wpX11_farAt (fun (r9 : Int32) (u8 : Unit) =>
          wpX11_leastOfThree_155 (fun y0 y1 y2 y3 y4 y5 y6 y7 y8 y9 y10 y11 y12 => wpX11_leastOfThree_72 k59 k46 post f1 n_72 y0 y1 y2 y3 y4 y5 y6 y7 y8 y9 y10 y11 y12) k59 k46 post f1 g0_men g0_dogs f2 f3 f4 f5 x1 x2 x3 x4 x5 x6 x7 (iMax r5 (iMax r7 r9))) f1 x1 x5 x3 x7) f1 x1 x5 x2 x6) f1 x2 x6 x3 x7))) f1 x3
def wpX11_leastOfThree_59 (k46 : Int32 → Int32 → (Nat → Int32) → (Nat → Int32) → (Nat → Int32) → (Nat → Int32) → Int32 → Int32 → Int32 → Int32 → Int32 → Prop) (post : Int32 → (Int32 × Int32 × (Nat → Int32) × (Nat → Int32) × (Nat → Int32) × (Nat → Int32)) → Prop) (f1 : Nat → Int32) : Nat → Int32 → Int32 → (Nat → Int32) → (Nat → Int32) → (Nat → Int32) → (Nat → Int32) → Int32 → Int32 → Int32 → Int32 → Int32 → Int32 → Prop
  | 0, _, _, _, _, _, _, _, _, _, _, _, _ => False
  | n_59 + 1, g0_men, g0_dogs, f2, f3, f4, f5, x1, x2, x3, x4, x5, x6 =>
    wpX11_cornersOf (fun (r2 : Int32) (u1 : Unit) =>
     (r2 ≤ x6 →
      ∀ v3 : Int32, v3 = x5 + 1 →
      k46 g0_men g0_dogs f2 f3 f4 f5 x1 x2 x3 x4 v3) ∧
     (¬ r2 ≤ x6 →
      ∃ n_72 : Nat, wpX11_leastOfThree_72 (fun y0 y1 y2 y3 y4 y5 y6 y7 y8 y9 y10 y11 => wpX11_leastOfThree_59 k46 post f1 n_59 y0 y1 y2 y3 y4 y5 y6 y7 y8 y9 y10 y11) k46 post f1 n_72 g0_men g0_dogs f2 f3 f4 f5 x1 x2 x3 x4 x5 x6 0)) f1 x2
def wpX11_leastOfThree_46 (post : Int32 → (Int32 × Int32 × (Nat → Int32) × (Nat → Int32) × (Nat → Int32) × (Nat → Int32)) → Prop) (f1 : Nat → Int32) : Nat → Int32 → Int32 → (Nat → Int32) → (Nat → Int32) → (Nat → Int32) → (Nat → Int32) → Int32 → Int32 → Int32 → Int32 → Int32 → Prop
  | 0, _, _, _, _, _, _, _, _, _, _, _ => False
  | n_46 + 1, g0_men, g0_dogs, f2, f3, f4, f5, x1, x2, x3, x4, x5 =>
    wpX11_cornersOf (fun (r2 : Int32) (u1 : Unit) =>
     (r2 ≤ x5 →
      wpX11_cornersOf (fun (r4 : Int32) (u3 : Unit) =>
       wpX11_cornersOf (fun (r6 : Int32) (u5 : Unit) =>
        wpX11_cornersOf (fun (r8 : Int32) (u7 : Unit) =>
         wpX11_leadsAt (fun (r10 : Int32) (u9 : Unit) =>
          post r10 (g0_men, g0_dogs, f2, f3, f4, f5)) f5 (r4 - 1) (r6 - 1) (r8 - 1)) f1 x3) f1 x2) f1 x1) ∧
     (¬ r2 ≤ x5 →
      ∃ n_59 : Nat, wpX11_leastOfThree_59 (fun y0 y1 y2 y3 y4 y5 y6 y7 y8 y9 y10 => wpX11_leastOfThree_46 post f1 n_46 y0 y1 y2 y3 y4 y5 y6 y7 y8 y9 y10) post f1 n_59 g0_men g0_dogs f2 f3 f4 f5 x1 x2 x3 x4 x5 0)) f1 x1
def wpX11_leastOfThree_9 (post : Int32 → (Int32 × Int32 × (Nat → Int32) × (Nat → Int32) × (Nat → Int32) × (Nat → Int32)) → Prop) (f1 : Nat → Int32) : Nat → Int32 → Int32 → (Nat → Int32) → (Nat → Int32) → (Nat → Int32) → (Nat → Int32) → Int32 → Int32 → Int32 → Int32 → Int32 → Prop
  | 0, _, _, _, _, _, _, _, _, _, _, _ => False
  | n_9 + 1, g0_men, g0_dogs, f2, f3, f4, f5, x1, x2, x3, x4, x5 =>
    (900 ≤ x5 →
     wpX11_lays (fun (u1 : Int32 × Int32 × (Nat → Int32) × (Nat → Int32)) =>
      ∃ n_46 : Nat, wpX11_leastOfThree_46 post f1 n_46 u1.1 u1.2.1 u1.2.2.1 u1.2.2.2 f4 f5 x1 x2 x3 x4 0) f1 g0_men g0_dogs f2 f3 x1 x3) ∧
    (¬ 900 ≤ x5 →
     vp_in x5 900 ∧
     vp_in x5 900 ∧
     ∀ v2 : Int32, v2 = x5 + 1 →
     wpX11_leastOfThree_9 post f1 n_9 g0_men g0_dogs f2 f3 (upd f4 x5.toNatClampNeg (f3 x5.toNatClampNeg)) f5 x1 x2 x3 x4 v2)
def wpX11_leastOfThree (post : Int32 → (Int32 × Int32 × (Nat → Int32) × (Nat → Int32) × (Nat → Int32) × (Nat → Int32)) → Prop) (f1 : Nat → Int32) (g0_men : Int32) (g0_dogs : Int32) (f2 : Nat → Int32) (f3 : Nat → Int32) (f4 : Nat → Int32) (f5 : Nat → Int32) (p0 : Int32) (p1 : Int32) (p2 : Int32) (p3 : Int32) : Prop :=
  wpX11_lays (fun (u1 : Int32 × Int32 × (Nat → Int32) × (Nat → Int32)) =>
   ∃ n_9 : Nat, wpX11_leastOfThree_9 post f1 n_9 u1.1 u1.2.1 u1.2.2.1 u1.2.2.2 f4 f5 p0 p1 p2 p3 0) f1 g0_men g0_dogs f2 f3 p0 p1
def wpX11_dogs_35 (post : Int32 → (Int32 × Int32 × Int32 × (Nat → Int32) × (Nat → Int32) × (Nat → Int32) × (Nat → Int32)) → Prop) (f1 : Nat → Int32) (g0_thrown : Int32) (g0_men : Int32) (g0_dogs : Int32) (f2 : Nat → Int32) (f3 : Nat → Int32) (f4 : Nat → Int32) (f5 : Nat → Int32) (x1 : Int32) (x2 : Int32) (x3 : Int32) (s1 : Int32) : Prop :=
  wpX11_throwsIf (fun (r2 : Int32) (u1 : Int32) =>
   (r2 = 0 →
    wpX11_leastOfThree (fun (r4 : Int32) (u3 : Int32 × Int32 × (Nat → Int32) × (Nat → Int32) × (Nat → Int32) × (Nat → Int32)) =>
     wpX11_orNone (fun (r6 : Int32) (u5 : Unit) =>
      post r6 (u1, u3.1, u3.2.1, u3.2.2.1, u3.2.2.2.1, u3.2.2.2.2.1, u3.2.2.2.2.2)) r4) f1 g0_men g0_dogs f2 f3 f4 f5 x1 x2 x3 0) ∧
   (¬ r2 = 0 →
    post 0 (u1, g0_men, g0_dogs, f2, f3, f4, f5))) g0_thrown s1 1
def wpX11_dogs_30 (post : Int32 → (Int32 × Int32 × Int32 × (Nat → Int32) × (Nat → Int32) × (Nat → Int32) × (Nat → Int32)) → Prop) (f1 : Nat → Int32) (g0_thrown : Int32) (g0_men : Int32) (g0_dogs : Int32) (f2 : Nat → Int32) (f3 : Nat → Int32) (f4 : Nat → Int32) (f5 : Nat → Int32) (x1 : Int32) (x2 : Int32) (x3 : Int32) : Prop :=
  wpX11_dogs_35 post f1 g0_thrown g0_men g0_dogs f2 f3 f4 f5 x1 x2 x3 1
def wpX11_dogs (post : Int32 → (Int32 × Int32 × Int32 × (Nat → Int32) × (Nat → Int32) × (Nat → Int32) × (Nat → Int32)) → Prop) (f1 : Nat → Int32) (g0_thrown : Int32) (g0_men : Int32) (g0_dogs : Int32) (f2 : Nat → Int32) (f3 : Nat → Int32) (f4 : Nat → Int32) (f5 : Nat → Int32) (p0 : Int32) (p1 : Int32) (p2 : Int32) : Prop :=
  wpX11_noWay (fun (r2 : Int32) (u1 : Unit) =>
   (¬ r2 = 0 →
    wpX11_dogs_30 post f1 0 g0_men g0_dogs f2 f3 f4 f5 p0 p1 p2) ∧
   (r2 = 0 →
    wpX11_noWay (fun (r4 : Int32) (u3 : Unit) =>
     (¬ r4 = 0 →
      wpX11_dogs_30 post f1 0 g0_men g0_dogs f2 f3 f4 f5 p0 p1 p2) ∧
     (r4 = 0 →
      wpX11_noWay (fun (r6 : Int32) (u5 : Unit) =>
       (r6 = 0 →
        wpX11_dogs_35 post f1 0 g0_men g0_dogs f2 f3 f4 f5 p0 p1 p2 0) ∧
       (¬ r6 = 0 →
        wpX11_dogs_30 post f1 0 g0_men g0_dogs f2 f3 f4 f5 p0 p1 p2)) f1 p2)) f1 p1)) f1 p0
def wpX11_three_35 (post : Int32 → (Int32 × Int32 × Int32 × (Nat → Int32) × (Nat → Int32) × (Nat → Int32) × (Nat → Int32)) → Prop) (f1 : Nat → Int32) (g0_thrown : Int32) (g0_men : Int32) (g0_dogs : Int32) (f2 : Nat → Int32) (f3 : Nat → Int32) (f4 : Nat → Int32) (f5 : Nat → Int32) (x1 : Int32) (x2 : Int32) (x3 : Int32) (s1 : Int32) : Prop :=
  wpX11_throwsIf (fun (r2 : Int32) (u1 : Int32) =>
   (r2 = 0 →
    wpX11_leastOfThree (fun (r4 : Int32) (u3 : Int32 × Int32 × (Nat → Int32) × (Nat → Int32) × (Nat → Int32) × (Nat → Int32)) =>
     post r4 (u1, u3.1, u3.2.1, u3.2.2.1, u3.2.2.2.1, u3.2.2.2.2.1, u3.2.2.2.2.2)) f1 g0_men g0_dogs f2 f3 f4 f5 x1 x2 x3 1) ∧
   (¬ r2 = 0 →
    post 0 (u1, g0_men, g0_dogs, f2, f3, f4, f5))) g0_thrown s1 1
def wpX11_three_30 (post : Int32 → (Int32 × Int32 × Int32 × (Nat → Int32) × (Nat → Int32) × (Nat → Int32) × (Nat → Int32)) → Prop) (f1 : Nat → Int32) (g0_thrown : Int32) (g0_men : Int32) (g0_dogs : Int32) (f2 : Nat → Int32) (f3 : Nat → Int32) (f4 : Nat → Int32) (f5 : Nat → Int32) (x1 : Int32) (x2 : Int32) (x3 : Int32) : Prop :=
  wpX11_three_35 post f1 g0_thrown g0_men g0_dogs f2 f3 f4 f5 x1 x2 x3 1
def wpX11_three (post : Int32 → (Int32 × Int32 × Int32 × (Nat → Int32) × (Nat → Int32) × (Nat → Int32) × (Nat → Int32)) → Prop) (f1 : Nat → Int32) (g0_thrown : Int32) (g0_men : Int32) (g0_dogs : Int32) (f2 : Nat → Int32) (f3 : Nat → Int32) (f4 : Nat → Int32) (f5 : Nat → Int32) (p0 : Int32) (p1 : Int32) (p2 : Int32) : Prop :=
  wpX11_noWay (fun (r2 : Int32) (u1 : Unit) =>
   (¬ r2 = 0 →
    wpX11_three_30 post f1 0 g0_men g0_dogs f2 f3 f4 f5 p0 p1 p2) ∧
   (r2 = 0 →
    wpX11_noWay (fun (r4 : Int32) (u3 : Unit) =>
     (¬ r4 = 0 →
      wpX11_three_30 post f1 0 g0_men g0_dogs f2 f3 f4 f5 p0 p1 p2) ∧
     (r4 = 0 →
      wpX11_noWay (fun (r6 : Int32) (u5 : Unit) =>
       (r6 = 0 →
        wpX11_three_35 post f1 0 g0_men g0_dogs f2 f3 f4 f5 p0 p1 p2 0) ∧
       (¬ r6 = 0 →
        wpX11_three_30 post f1 0 g0_men g0_dogs f2 f3 f4 f5 p0 p1 p2)) f1 p2)) f1 p1)) f1 p0
def wpX11_dragAt (post : Int64 → Unit → Prop) (f1 : Nat → Int64) (p0 : Int32) (p1 : Int32) : Prop :=
  (p0 < 0 →
   post 1000000000000000 ()) ∧
  (¬ p0 < 0 →
   (0 ≤ p1 →
    vp_in ((30 * p0) + p1) 900 ∧
    post (f1 ((30 * p0) + p1).toNatClampNeg) ()) ∧
   (¬ 0 ≤ p1 →
    post 1000000000000000 ()))
def wpX11_drag_168 (k55 : Int32 → Int32 → Int32 → (Nat → Int32) → (Nat → Int32) → (Nat → Int64) → Int32 → Int32 → Prop) (k44 : Int32 → Int32 → Int32 → (Nat → Int32) → (Nat → Int32) → (Nat → Int64) → Int32 → Prop) (post : Int64 → (Int32 × Int32 × Int32 × (Nat → Int32) × (Nat → Int32) × (Nat → Int64)) → Prop) (f1 : Nat → Int32) (g0_thrown : Int32) (g0_men : Int32) (g0_dogs : Int32) (f2 : Nat → Int32) (f3 : Nat → Int32) (f4 : Nat → Int64) (x3 : Int32) (x4 : Int32) (s1 : Int32) (s2 : Int64) : Prop :=
  vp_in s1 900 ∧
  ∀ v1 : Int32, v1 = x4 + 1 →
  k55 g0_thrown g0_men g0_dogs f2 f3 (vp_updL f4 s1.toNatClampNeg s2) x3 v1
def wpX11_drag_156 (k55 : Int32 → Int32 → Int32 → (Nat → Int32) → (Nat → Int32) → (Nat → Int64) → Int32 → Int32 → Prop) (k44 : Int32 → Int32 → Int32 → (Nat → Int32) → (Nat → Int32) → (Nat → Int64) → Int32 → Prop) (post : Int64 → (Int32 × Int32 × Int32 × (Nat → Int32) × (Nat → Int32) × (Nat → Int64)) → Prop) (f1 : Nat → Int32) (g0_thrown : Int32) (g0_men : Int32) (g0_dogs : Int32) (f2 : Nat → Int32) (f3 : Nat → Int32) (f4 : Nat → Int64) (x3 : Int32) (x4 : Int32) (s1 : Int32) : Prop :=
  wpX11_drag_168 k55 k44 post f1 g0_thrown g0_men g0_dogs f2 f3 f4 x3 x4 s1 1000000000000000
def wpX11_drag_112 (k55 : Int32 → Int32 → Int32 → (Nat → Int32) → (Nat → Int32) → (Nat → Int64) → Int32 → Int32 → Prop) (k44 : Int32 → Int32 → Int32 → (Nat → Int32) → (Nat → Int32) → (Nat → Int64) → Int32 → Prop) (post : Int64 → (Int32 × Int32 × Int32 × (Nat → Int32) × (Nat → Int32) × (Nat → Int64)) → Prop) (f1 : Nat → Int32) (g0_thrown : Int32) (g0_men : Int32) (g0_dogs : Int32) (f2 : Nat → Int32) (f3 : Nat → Int32) (f4 : Nat → Int64) (x3 : Int32) (x4 : Int32) (s0 : Int64) : Prop :=
  vp_in ((30 * x3) + x4) 900 ∧
  ∀ v1 : Int32, v1 = f3 ((30 * x3) + x4).toNatClampNeg →
  (v1 = 2000000000 →
   wpX11_drag_156 k55 k44 post f1 g0_thrown g0_men g0_dogs f2 f3 f4 x3 x4 ((30 * x3) + x4)) ∧
  (¬ v1 = 2000000000 →
   ((lg_cmp s0 1000000000000000) < 0 →
    wpX11_drag_168 k55 k44 post f1 g0_thrown g0_men g0_dogs f2 f3 f4 x3 x4 ((30 * x3) + x4) (s0 + (v1.toInt64))) ∧
   (¬ (lg_cmp s0 1000000000000000) < 0 →
    wpX11_drag_156 k55 k44 post f1 g0_thrown g0_men g0_dogs f2 f3 f4 x3 x4 ((30 * x3) + x4)))
def wpX11_drag_77 (k55 : Int32 → Int32 → Int32 → (Nat → Int32) → (Nat → Int32) → (Nat → Int64) → Int32 → Int32 → Prop) (k44 : Int32 → Int32 → Int32 → (Nat → Int32) → (Nat → Int32) → (Nat → Int64) → Int32 → Prop) (post : Int64 → (Int32 × Int32 × Int32 × (Nat → Int32) × (Nat → Int32) × (Nat → Int64)) → Prop) (f1 : Nat → Int32) (g0_thrown : Int32) (g0_men : Int32) (g0_dogs : Int32) (f2 : Nat → Int32) (f3 : Nat → Int32) (f4 : Nat → Int64) (x3 : Int32) (x4 : Int32) : Prop :=
  wpX11_dragAt (fun (r2 : Int64) (u1 : Unit) =>
   wpX11_dragAt (fun (r4 : Int64) (u3 : Unit) =>
    wpX11_dragAt (fun (r6 : Int64) (u5 : Unit) =>
     wpX11_drag_112 k55 k44 post f1 g0_thrown g0_men g0_dogs f2 f3 f4 x3 x4 (lMin r2 (lMin r4 r6))) f4 x3 (x4 - 1)) f4 (x3 - 1) x4) f4 (x3 - 1) (x4 - 1)
def wpX11_drag_55 (k44 : Int32 → Int32 → Int32 → (Nat → Int32) → (Nat → Int32) → (Nat → Int64) → Int32 → Prop) (post : Int64 → (Int32 × Int32 × Int32 × (Nat → Int32) × (Nat → Int32) × (Nat → Int64)) → Prop) (f1 : Nat → Int32) : Nat → Int32 → Int32 → Int32 → (Nat → Int32) → (Nat → Int32) → (Nat → Int64) → Int32 → Int32 → Prop
  | 0, _, _, _, _, _, _, _, _ => False
  | n_55 + 1, g0_thrown, g0_men, g0_dogs, f2, f3, f4, x3, x4 =>
    (g0_dogs ≤ x4 →
     ∀ v1 : Int32, v1 = x3 + 1 →
     k44 g0_thrown g0_men g0_dogs f2 f3 f4 v1) ∧
    (¬ g0_dogs ≤ x4 →
     (¬ x3 = 0 →
      wpX11_drag_77 (fun y0 y1 y2 y3 y4 y5 y6 y7 => wpX11_drag_55 k44 post f1 n_55 y0 y1 y2 y3 y4 y5 y6 y7) k44 post f1 g0_thrown g0_men g0_dogs f2 f3 f4 x3 x4) ∧
     (x3 = 0 →
      (¬ x4 = 0 →
       wpX11_drag_77 (fun y0 y1 y2 y3 y4 y5 y6 y7 => wpX11_drag_55 k44 post f1 n_55 y0 y1 y2 y3 y4 y5 y6 y7) k44 post f1 g0_thrown g0_men g0_dogs f2 f3 f4 x3 x4) ∧
      (x4 = 0 →
       wpX11_drag_112 (fun y0 y1 y2 y3 y4 y5 y6 y7 => wpX11_drag_55 k44 post f1 n_55 y0 y1 y2 y3 y4 y5 y6 y7) k44 post f1 g0_thrown g0_men g0_dogs f2 f3 f4 x3 x4 0)))
def wpX11_drag_44 (post : Int64 → (Int32 × Int32 × Int32 × (Nat → Int32) × (Nat → Int32) × (Nat → Int64)) → Prop) (f1 : Nat → Int32) : Nat → Int32 → Int32 → Int32 → (Nat → Int32) → (Nat → Int32) → (Nat → Int64) → Int32 → Prop
  | 0, _, _, _, _, _, _, _ => False
  | n_44 + 1, g0_thrown, g0_men, g0_dogs, f2, f3, f4, x3 =>
    (g0_men ≤ x3 →
     wpX11_dragAt (fun (r2 : Int64) (u1 : Unit) =>
      ((lg_cmp r2 1000000000000000) < 0 →
       wpX11_dragAt (fun (r4 : Int64) (u3 : Unit) =>
        post r4 (g0_thrown, g0_men, g0_dogs, f2, f3, f4)) f4 (g0_men - 1) (g0_dogs - 1)) ∧
      (¬ (lg_cmp r2 1000000000000000) < 0 →
       post (-1) (g0_thrown, g0_men, g0_dogs, f2, f3, f4))) f4 (g0_men - 1) (g0_dogs - 1)) ∧
    (¬ g0_men ≤ x3 →
     ∃ n_55 : Nat, wpX11_drag_55 (fun y0 y1 y2 y3 y4 y5 y6 => wpX11_drag_44 post f1 n_44 y0 y1 y2 y3 y4 y5 y6) post f1 n_55 g0_thrown g0_men g0_dogs f2 f3 f4 x3 0)
def wpX11_drag_27 (post : Int64 → (Int32 × Int32 × Int32 × (Nat → Int32) × (Nat → Int32) × (Nat → Int64)) → Prop) (f1 : Nat → Int32) (g0_thrown : Int32) (g0_men : Int32) (g0_dogs : Int32) (f2 : Nat → Int32) (f3 : Nat → Int32) (f4 : Nat → Int64) (x1 : Int32) (x2 : Int32) (s1 : Int32) : Prop :=
  wpX11_throwsIf (fun (r2 : Int32) (u1 : Int32) =>
   (r2 = 0 →
    wpX11_lays (fun (u3 : Int32 × Int32 × (Nat → Int32) × (Nat → Int32)) =>
     ∃ n_44 : Nat, wpX11_drag_44 post f1 n_44 u1 u3.1 u3.2.1 u3.2.2.1 u3.2.2.2 f4 0) f1 g0_men g0_dogs f2 f3 x1 x2) ∧
   (¬ r2 = 0 →
    post 0 (u1, g0_men, g0_dogs, f2, f3, f4))) g0_thrown s1 1
def wpX11_drag_22 (post : Int64 → (Int32 × Int32 × Int32 × (Nat → Int32) × (Nat → Int32) × (Nat → Int64)) → Prop) (f1 : Nat → Int32) (g0_thrown : Int32) (g0_men : Int32) (g0_dogs : Int32) (f2 : Nat → Int32) (f3 : Nat → Int32) (f4 : Nat → Int64) (x1 : Int32) (x2 : Int32) : Prop :=
  wpX11_drag_27 post f1 g0_thrown g0_men g0_dogs f2 f3 f4 x1 x2 1
def wpX11_drag (post : Int64 → (Int32 × Int32 × Int32 × (Nat → Int32) × (Nat → Int32) × (Nat → Int64)) → Prop) (f1 : Nat → Int32) (g0_thrown : Int32) (g0_men : Int32) (g0_dogs : Int32) (f2 : Nat → Int32) (f3 : Nat → Int32) (f4 : Nat → Int64) (p0 : Int32) (p1 : Int32) : Prop :=
  wpX11_noWay (fun (r2 : Int32) (u1 : Unit) =>
   (¬ r2 = 0 →
    wpX11_drag_22 post f1 0 g0_men g0_dogs f2 f3 f4 p0 p1) ∧
   (r2 = 0 →
    wpX11_noWay (fun (r4 : Int32) (u3 : Unit) =>
     (r4 = 0 →
      wpX11_drag_27 post f1 0 g0_men g0_dogs f2 f3 f4 p0 p1 0) ∧
     (¬ r4 = 0 →
      wpX11_drag_22 post f1 0 g0_men g0_dogs f2 f3 f4 p0 p1)) f1 p1)) f1 p0
def wpX11_nearestOf_66 (k10 : Int32 → Int32 → (Nat → Int32) → (Nat → Int32) → (Nat → Int32) → Int32 → Int32 → Int32 → Int32 → Int32 → Prop) (post : Int32 → (Int32 × Int32 × (Nat → Int32) × (Nat → Int32) × (Nat → Int32)) → Prop) (f1 : Nat → Int32) (g0_men : Int32) (g0_dogs : Int32) (f2 : Nat → Int32) (f3 : Nat → Int32) (f4 : Nat → Int32) (x1 : Int32) (x2 : Int32) (x3 : Int32) (x4 : Int32) (x5 : Int32) : Prop :=
  ∀ v1 : Int32, v1 = x5 + 1 →
  k10 g0_men g0_dogs f2 f3 f4 x1 x2 x3 x4 v1
def wpX11_nearestOf_47 (k10 : Int32 → Int32 → (Nat → Int32) → (Nat → Int32) → (Nat → Int32) → Int32 → Int32 → Int32 → Int32 → Int32 → Prop) (post : Int32 → (Int32 × Int32 × (Nat → Int32) × (Nat → Int32) × (Nat → Int32)) → Prop) (f1 : Nat → Int32) (g0_men : Int32) (g0_dogs : Int32) (f2 : Nat → Int32) (f3 : Nat → Int32) (f4 : Nat → Int32) (x1 : Int32) (x2 : Int32) (x3 : Int32) (x4 : Int32) (x5 : Int32) (s0 : Int32) : Prop :=
  (s0 < x4 →
   wpX11_nearestOf_66 k10 post f1 g0_men g0_dogs f2 f3 f4 x1 x2 x5 s0 x5) ∧
  (¬ s0 < x4 →
   wpX11_nearestOf_66 k10 post f1 g0_men g0_dogs f2 f3 f4 x1 x2 x3 x4 x5)
def wpX11_nearestOf_34 (k10 : Int32 → Int32 → (Nat → Int32) → (Nat → Int32) → (Nat → Int32) → Int32 → Int32 → Int32 → Int32 → Int32 → Prop) (post : Int32 → (Int32 × Int32 × (Nat → Int32) × (Nat → Int32) × (Nat → Int32)) → Prop) (f1 : Nat → Int32) (g0_men : Int32) (g0_dogs : Int32) (f2 : Nat → Int32) (f3 : Nat → Int32) (f4 : Nat → Int32) (x1 : Int32) (x2 : Int32) (x3 : Int32) (x4 : Int32) (x5 : Int32) : Prop :=
  wpX11_nearestOf_47 k10 post f1 g0_men g0_dogs f2 f3 f4 x1 x2 x3 x4 x5 2000000000
def wpX11_nearestOf_10 (post : Int32 → (Int32 × Int32 × (Nat → Int32) × (Nat → Int32) × (Nat → Int32)) → Prop) (f1 : Nat → Int32) : Nat → Int32 → Int32 → (Nat → Int32) → (Nat → Int32) → (Nat → Int32) → Int32 → Int32 → Int32 → Int32 → Int32 → Prop
  | 0, _, _, _, _, _, _, _, _, _, _ => False
  | n_10 + 1, g0_men, g0_dogs, f2, f3, f4, x1, x2, x3, x4, x5 =>
    wpX11_ways (fun (r2 : Int32) (u1 : Unit) =>
     (r2 ≤ x5 →
      post x3 (g0_men, g0_dogs, f2, f3, f4)) ∧
     (¬ r2 ≤ x5 →
      (x5 = x1 →
       wpX11_nearestOf_34 (fun y0 y1 y2 y3 y4 y5 y6 y7 y8 y9 => wpX11_nearestOf_10 post f1 n_10 y0 y1 y2 y3 y4 y5 y6 y7 y8 y9) post f1 g0_men g0_dogs f2 f3 f4 x1 x2 x3 x4 x5) ∧
      (¬ x5 = x1 →
       wpX11_has (fun (r4 : Int32) (u3 : Unit) =>
        (¬ r4 = 0 →
         wpX11_leastOf (fun (r6 : Int32) (u5 : Int32 × Int32 × (Nat → Int32) × (Nat → Int32) × (Nat → Int32)) =>
          wpX11_nearestOf_47 (fun y0 y1 y2 y3 y4 y5 y6 y7 y8 y9 => wpX11_nearestOf_10 post f1 n_10 y0 y1 y2 y3 y4 y5 y6 y7 y8 y9) post f1 u5.1 u5.2.1 u5.2.2.1 u5.2.2.2.1 u5.2.2.2.2 x1 x2 x3 x4 x5 r6) f1 g0_men g0_dogs f2 f3 f4 x1 x5) ∧
        (r4 = 0 →
         wpX11_nearestOf_34 (fun y0 y1 y2 y3 y4 y5 y6 y7 y8 y9 => wpX11_nearestOf_10 post f1 n_10 y0 y1 y2 y3 y4 y5 y6 y7 y8 y9) post f1 g0_men g0_dogs f2 f3 f4 x1 x2 x3 x4 x5)) x2 x5))) f1
def wpX11_nearestOf (post : Int32 → (Int32 × Int32 × (Nat → Int32) × (Nat → Int32) × (Nat → Int32)) → Prop) (f1 : Nat → Int32) (g0_men : Int32) (g0_dogs : Int32) (f2 : Nat → Int32) (f3 : Nat → Int32) (f4 : Nat → Int32) (p0 : Int32) (p1 : Int32) : Prop :=
  ∃ n_10 : Nat, wpX11_nearestOf_10 post f1 n_10 g0_men g0_dogs f2 f3 f4 p0 p1 (-1) 2000000000 0
def wpX11_nearest (post : Int32 → (Int32 × Int32 × Int32 × (Nat → Int32) × (Nat → Int32) × (Nat → Int32)) → Prop) (f1 : Nat → Int32) (g0_thrown : Int32) (g0_men : Int32) (g0_dogs : Int32) (f2 : Nat → Int32) (f3 : Nat → Int32) (f4 : Nat → Int32) (p0 : Int32) (p1 : Int32) : Prop :=
  wpX11_noWay (fun (r2 : Int32) (u1 : Unit) =>
   wpX11_throwsIf (fun (r4 : Int32) (u3 : Int32) =>
    (r4 = 0 →
     wpX11_nearestOf (fun (r6 : Int32) (u5 : Int32 × Int32 × (Nat → Int32) × (Nat → Int32) × (Nat → Int32)) =>
      post r6 (u3, u5.1, u5.2.1, u5.2.2.1, u5.2.2.2.1, u5.2.2.2.2)) f1 g0_men g0_dogs f2 f3 f4 p0 p1) ∧
    (¬ r4 = 0 →
     post 0 (u3, g0_men, g0_dogs, f2, f3, f4))) 0 r2 1) f1 p0
def wpX11_middle_102 (k14 : Int32 → Int32 → Int32 → (Nat → Int32) → (Nat → Int32) → (Nat → Int32) → Int32 → Int32 → Int32 → Int32 → Prop) (post : Int32 → (Int32 × Int32 × Int32 × (Nat → Int32) × (Nat → Int32) × (Nat → Int32)) → Prop) (f1 : Nat → Int32) (g0_thrown : Int32) (g0_men : Int32) (g0_dogs : Int32) (f2 : Nat → Int32) (f3 : Nat → Int32) (f4 : Nat → Int32) (x1 : Int32) (x2 : Int32) (x3 : Int32) (x4 : Int32) : Prop :=
  ∀ v1 : Int32, v1 = x4 + 1 →
  k14 g0_thrown g0_men g0_dogs f2 f3 f4 x1 x2 x3 v1
def wpX11_middle_81 (k41 : Int32 → Int32 → Int32 → (Nat → Int32) → (Nat → Int32) → (Nat → Int32) → Int32 → Int32 → Int32 → Int32 → Int32 → Int32 → Prop) (k14 : Int32 → Int32 → Int32 → (Nat → Int32) → (Nat → Int32) → (Nat → Int32) → Int32 → Int32 → Int32 → Int32 → Prop) (post : Int32 → (Int32 × Int32 × Int32 × (Nat → Int32) × (Nat → Int32) × (Nat → Int32)) → Prop) (f1 : Nat → Int32) (g0_thrown : Int32) (g0_men : Int32) (g0_dogs : Int32) (f2 : Nat → Int32) (f3 : Nat → Int32) (f4 : Nat → Int32) (x1 : Int32) (x2 : Int32) (x3 : Int32) (x4 : Int32) (x5 : Int32) (x6 : Int32) : Prop :=
  ∀ v1 : Int32, v1 = x6 + 1 →
  k41 g0_thrown g0_men g0_dogs f2 f3 f4 x1 x2 x3 x4 x5 v1
def wpX11_middle_41 (k14 : Int32 → Int32 → Int32 → (Nat → Int32) → (Nat → Int32) → (Nat → Int32) → Int32 → Int32 → Int32 → Int32 → Prop) (post : Int32 → (Int32 × Int32 × Int32 × (Nat → Int32) × (Nat → Int32) × (Nat → Int32)) → Prop) (f1 : Nat → Int32) : Nat → Int32 → Int32 → Int32 → (Nat → Int32) → (Nat → Int32) → (Nat → Int32) → Int32 → Int32 → Int32 → Int32 → Int32 → Int32 → Prop
  | 0, _, _, _, _, _, _, _, _, _, _, _, _ => False
  | n_41 + 1, g0_thrown, g0_men, g0_dogs, f2, f3, f4, x1, x2, x3, x4, x5, x6 =>
    wpX11_ways (fun (r2 : Int32) (u1 : Unit) =>
     (r2 ≤ x6 →
      (x5 < x3 →
       wpX11_middle_102 k14 post f1 g0_thrown g0_men g0_dogs f2 f3 f4 x1 x4 x5 x4) ∧
      (¬ x5 < x3 →
       wpX11_middle_102 k14 post f1 g0_thrown g0_men g0_dogs f2 f3 f4 x1 x2 x3 x4)) ∧
     (¬ r2 ≤ x6 →
      (x6 = x4 →
       wpX11_middle_81 (fun y0 y1 y2 y3 y4 y5 y6 y7 y8 y9 y10 y11 => wpX11_middle_41 k14 post f1 n_41 y0 y1 y2 y3 y4 y5 y6 y7 y8 y9 y10 y11) k14 post f1 g0_thrown g0_men g0_dogs f2 f3 f4 x1 x2 x3 x4 x5 x6) ∧
      (¬ x6 = x4 →
       wpX11_has (fun (r4 : Int32) (u3 : Unit) =>
        (r4 = 0 →
         wpX11_middle_81 (fun y0 y1 y2 y3 y4 y5 y6 y7 y8 y9 y10 y11 => wpX11_middle_41 k14 post f1 n_41 y0 y1 y2 y3 y4 y5 y6 y7 y8 y9 y10 y11) k14 post f1 g0_thrown g0_men g0_dogs f2 f3 f4 x1 x2 x3 x4 x5 x6) ∧
        (¬ r4 = 0 →
         wpX11_leastOf (fun (r6 : Int32) (u5 : Int32 × Int32 × (Nat → Int32) × (Nat → Int32) × (Nat → Int32)) =>
          ∀ v7 : Int32, v7 = iMax x5 r6 →
          wpX11_middle_81 (fun y0 y1 y2 y3 y4 y5 y6 y7 y8 y9 y10 y11 => wpX11_middle_41 k14 post f1 n_41 y0 y1 y2 y3 y4 y5 y6 y7 y8 y9 y10 y11) k14 post f1 g0_thrown u5.1 u5.2.1 u5.2.2.1 u5.2.2.2.1 u5.2.2.2.2 x1 x2 x3 x4 v7 x6) f1 g0_men g0_dogs f2 f3 f4 x4 x6)) x1 x6))) f1
def wpX11_middle_14 (post : Int32 → (Int32 × Int32 × Int32 × (Nat → Int32) × (Nat → Int32) × (Nat → Int32)) → Prop) (f1 : Nat → Int32) : Nat → Int32 → Int32 → Int32 → (Nat → Int32) → (Nat → Int32) → (Nat → Int32) → Int32 → Int32 → Int32 → Int32 → Prop
  | 0, _, _, _, _, _, _, _, _, _, _ => False
  | n_14 + 1, g0_thrown, g0_men, g0_dogs, f2, f3, f4, x1, x2, x3, x4 =>
    wpX11_ways (fun (r2 : Int32) (u1 : Unit) =>
     (r2 ≤ x4 →
      post x2 (g0_thrown, g0_men, g0_dogs, f2, f3, f4)) ∧
     (¬ r2 ≤ x4 →
      wpX11_has (fun (r4 : Int32) (u3 : Unit) =>
       (¬ r4 = 0 →
        ∃ n_41 : Nat, wpX11_middle_41 (fun y0 y1 y2 y3 y4 y5 y6 y7 y8 y9 => wpX11_middle_14 post f1 n_14 y0 y1 y2 y3 y4 y5 y6 y7 y8 y9) post f1 n_41 g0_thrown g0_men g0_dogs f2 f3 f4 x1 x2 x3 x4 0 0) ∧
       (r4 = 0 →
        wpX11_middle_102 (fun y0 y1 y2 y3 y4 y5 y6 y7 y8 y9 => wpX11_middle_14 post f1 n_14 y0 y1 y2 y3 y4 y5 y6 y7 y8 y9) post f1 g0_thrown g0_men g0_dogs f2 f3 f4 x1 x2 x3 x4)) x1 x4)) f1
def wpX11_middle (post : Int32 → (Int32 × Int32 × Int32 × (Nat → Int32) × (Nat → Int32) × (Nat → Int32)) → Prop) (f1 : Nat → Int32) (g0_thrown : Int32) (g0_men : Int32) (g0_dogs : Int32) (f2 : Nat → Int32) (f3 : Nat → Int32) (f4 : Nat → Int32) (p0 : Int32) : Prop :=
  ∃ n_14 : Nat, wpX11_middle_14 post f1 n_14 0 g0_men g0_dogs f2 f3 f4 p0 (-1) 2000000000 0
def wpX11_goesOn_12 (post : Int32 → Unit → Prop) (f1 : Nat → Int32) : Nat → Int32 → Int32 → Int32 → Prop
  | 0, _, _, _ => False
  | n_12 + 1, x2, x3, x4 =>
    (x4 = x3 →
     post x3 ()) ∧
    (¬ x4 = x3 →
     vp_in x2 30 ∧
     ∀ v1 : Int32, v1 = x3 ||| ((x3 <<< ((1 : Int32) &&& 31)) &&& (f1 x2.toNatClampNeg)) →
     wpX11_goesOn_12 post f1 n_12 x2 v1 x3)
def wpX11_goesOn (post : Int32 → Unit → Prop) (f1 : Nat → Int32) (p0 : Int32) (p1 : Int32) : Prop :=
  vp_in p1 30 ∧
  ∀ v1 : Int32, v1 = p0 &&& (f1 p1.toNatClampNeg) →
  ∃ n_12 : Nat, wpX11_goesOn_12 post f1 n_12 p1 v1 0
def wpX11_comes (post : Int32 → Unit → Prop) (f1 : Nat → Int32) (p0 : Int32) (p1 : Int32) : Prop :=
  wpX11_goesOn (fun (r2 : Int32) (u1 : Unit) =>
   post r2 ()) f1 (p0 ||| (p0 <<< ((1 : Int32) &&& 31))) p1
def wpX11_leadsTo_16 (post : Int32 → Unit → Prop) (f1 : Nat → Int32) : Nat → Int32 → Int32 → Int32 → Prop
  | 0, _, _, _ => False
  | n_16 + 1, x2, x3, x4 =>
    (x4 = x3 →
     post x3 ()) ∧
    (¬ x4 = x3 →
     vp_in x2 30 ∧
     ∀ v1 : Int32, v1 = x3 ||| ((x3 >>> ((1 : Int32) &&& 31)) &&& (f1 x2.toNatClampNeg)) →
     wpX11_leadsTo_16 post f1 n_16 x2 v1 x3)
def wpX11_leadsTo (post : Int32 → Unit → Prop) (f1 : Nat → Int32) (p0 : Int32) (p1 : Int32) : Prop :=
  vp_in p1 30 ∧
  ∀ v1 : Int32, v1 = (p0 ||| (p0 >>> ((1 : Int32) &&& 31))) &&& (f1 p1.toNatClampNeg) →
  ∃ n_16 : Nat, wpX11_leadsTo_16 post f1 n_16 p1 v1 0
def wpX11_backwards_12 (post : Int32 → Unit → Prop) (f1 : Nat → Int32) : Nat → Int32 → Int32 → Int32 → Prop
  | 0, _, _, _ => False
  | n_12 + 1, x2, x3, x4 =>
    (x4 = x3 →
     post x3 ()) ∧
    (¬ x4 = x3 →
     vp_in x2 30 ∧
     ∀ v1 : Int32, v1 = x3 ||| ((x3 >>> ((1 : Int32) &&& 31)) &&& (f1 x2.toNatClampNeg)) →
     wpX11_backwards_12 post f1 n_12 x2 v1 x3)
def wpX11_backwards (post : Int32 → Unit → Prop) (f1 : Nat → Int32) (p0 : Int32) (p1 : Int32) : Prop :=
  vp_in p1 30 ∧
  ∀ v1 : Int32, v1 = p0 &&& (f1 p1.toNatClampNeg) →
  ∃ n_12 : Nat, wpX11_backwards_12 post f1 n_12 p1 v1 0
def wpX11_fewer_211 (k196 : Int32 → (Nat → Int32) → (Nat → Int32) → Int32 → Int32 → Int32 → Prop) (k168 : Int32 → (Nat → Int32) → (Nat → Int32) → Int32 → Int32 → Prop) (post : Int32 → (Int32 × (Nat → Int32) × (Nat → Int32)) → Prop) (f1 : Nat → Int32) : Nat → Int32 → (Nat → Int32) → (Nat → Int32) → Int32 → Int32 → Int32 → Int32 → Int32 → Prop
  | 0, _, _, _, _, _, _, _, _ => False
  | n_211 + 1, g0_thrown, f2, f3, x3, x4, x5, x6, x7 =>
    (x3 ≤ x7 →
     vp_in ((30 * x4) + x5) 930 ∧
     ∀ v1 : Int32, v1 = x5 + 1 →
     k196 g0_thrown f2 (upd f3 ((30 * x4) + x5).toNatClampNeg x6) x3 x4 v1) ∧
    (¬ x3 ≤ x7 →
     vp_in ((30 * (x4 - 1)) + x7) 930 ∧
     wpX11_leadsTo (fun (r3 : Int32) (u2 : Unit) =>
      ∀ v4 : Int32, v4 = x6 ||| r3 →
      ∀ v5 : Int32, v5 = x7 + 1 →
      wpX11_fewer_211 k196 k168 post f1 n_211 g0_thrown f2 f3 x3 x4 x5 v4 v5) f2 (f3 ((30 * (x4 - 1)) + x7).toNatClampNeg) x5)
def wpX11_fewer_196 (k168 : Int32 → (Nat → Int32) → (Nat → Int32) → Int32 → Int32 → Prop) (post : Int32 → (Int32 × (Nat → Int32) × (Nat → Int32)) → Prop) (f1 : Nat → Int32) : Nat → Int32 → (Nat → Int32) → (Nat → Int32) → Int32 → Int32 → Int32 → Prop
  | 0, _, _, _, _, _, _ => False
  | n_196 + 1, g0_thrown, f2, f3, x3, x4, x5 =>
    (x3 ≤ x5 →
     k168 g0_thrown f2 f3 x3 x4) ∧
    (¬ x3 ≤ x5 →
     ∀ v1 : Int32, v1 = x5 + 1 →
     ∃ n_211 : Nat, wpX11_fewer_211 (fun y0 y1 y2 y3 y4 y5 => wpX11_fewer_196 k168 post f1 n_196 y0 y1 y2 y3 y4 y5) k168 post f1 n_211 g0_thrown f2 f3 x3 x4 x5 0 v1)
def wpX11_fewer_190 (k168 : Int32 → (Nat → Int32) → (Nat → Int32) → Int32 → Int32 → Prop) (post : Int32 → (Int32 × (Nat → Int32) × (Nat → Int32)) → Prop) (f1 : Nat → Int32) (g0_thrown : Int32) (f2 : Nat → Int32) (f3 : Nat → Int32) (x3 : Int32) (x4 : Int32) : Prop :=
  ∀ v1 : Int32, v1 = x4 + 1 →
  ∃ n_196 : Nat, wpX11_fewer_196 k168 post f1 n_196 g0_thrown f2 f3 x3 v1 0
def wpX11_fewer_304 (k293 : Int32 → (Nat → Int32) → (Nat → Int32) → Int32 → Int32 → Int32 → Int32 → Prop) (post : Int32 → (Int32 × (Nat → Int32) × (Nat → Int32)) → Prop) (f1 : Nat → Int32) : Nat → Int32 → (Nat → Int32) → (Nat → Int32) → Int32 → Int32 → Int32 → Int32 → Prop
  | 0, _, _, _, _, _, _, _ => False
  | n_304 + 1, g0_thrown, f2, f3, x5, x7, x8, x9 =>
    wpX11_comes (fun (r2 : Int32) (u1 : Unit) =>
     vp_in ((30 * x8) + x9) 930 ∧
     (¬ (r2 &&& (f3 ((30 * x8) + x9).toNatClampNeg)) = 0 →
      wpX11_comes (fun (r4 : Int32) (u3 : Unit) =>
       ∀ v5 : Int32, v5 = x5 ||| ((1 : Int32) <<< (x9 &&& 31)) →
       ∀ v6 : Int32, v6 = x8 + (-1) →
       k293 g0_thrown f2 f3 v5 x9 r4 v6) f2 x7 x9) ∧
     ((r2 &&& (f3 ((30 * x8) + x9).toNatClampNeg)) = 0 →
      ∀ v7 : Int32, v7 = x9 + 1 →
      wpX11_fewer_304 k293 post f1 n_304 g0_thrown f2 f3 x5 x7 x8 v7)) f2 x7 x9
def wpX11_fewer_293 (post : Int32 → (Int32 × (Nat → Int32) × (Nat → Int32)) → Prop) (f1 : Nat → Int32) : Nat → Int32 → (Nat → Int32) → (Nat → Int32) → Int32 → Int32 → Int32 → Int32 → Prop
  | 0, _, _, _, _, _, _, _ => False
  | n_293 + 1, g0_thrown, f2, f3, x5, x6, x7, x8 =>
    (x8 < 0 →
     post x5 (g0_thrown, f2, f3)) ∧
    (¬ x8 < 0 →
     ∀ v1 : Int32, v1 = x6 + 1 →
     ∃ n_304 : Nat, wpX11_fewer_304 (fun y0 y1 y2 y3 y4 y5 y6 => wpX11_fewer_293 post f1 n_293 y0 y1 y2 y3 y4 y5 y6) post f1 n_304 g0_thrown f2 f3 x5 x7 x8 v1)
