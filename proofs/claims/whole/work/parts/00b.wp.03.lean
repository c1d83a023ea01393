def wpX11_fewer_168 (post : Int32 → (Int32 × (Nat → Int32) × (Nat → Int32)) → Prop) (f1 : Nat → Int32) : Nat → Int32 → (Nat → Int32) → (Nat → Int32) → Int32 → Int32 → Prop
  | 0, _, _, _, _, _ => False
  | n_168 + 1, g0_thrown, f2, f3, x3, x4 =>
    (x4 = 0 →
     wpX11_fewer_190 (fun y0 y1 y2 y3 y4 => wpX11_fewer_168 post f1 n_168 y0 y1 y2 y3 y4) post f1 g0_thrown f2 f3 x3 x4) ∧
    (¬ x4 = 0 →
     vp_in (30 * x4) 930 ∧
     wpX11_has (fun (r2 : Int32) (u1 : Unit) =>
      (¬ r2 = 0 →
       wpX11_goesOn (fun (r4 : Int32) (u3 : Unit) =>
        ∀ v5 : Int32, v5 = x4 - 1 →
        ∃ n_293 : Nat, wpX11_fewer_293 post f1 n_293 g0_thrown f2 f3 1 0 r4 v5) f2 1 0) ∧
      (r2 = 0 →
       wpX11_fewer_190 (fun y0 y1 y2 y3 y4 => wpX11_fewer_168 post f1 n_168 y0 y1 y2 y3 y4) post f1 g0_thrown f2 f3 x3 x4)) (f3 (30 * x4).toNatClampNeg) 0)
def wpX11_fewer_158 (k123 : Int32 → (Nat → Int32) → (Nat → Int32) → Int32 → Int32 → Prop) (post : Int32 → (Int32 × (Nat → Int32) × (Nat → Int32)) → Prop) (f1 : Nat → Int32) (g0_thrown : Int32) (f2 : Nat → Int32) (f3 : Nat → Int32) (x3 : Int32) (x4 : Int32) (s1 : Int32) (s2 : Int32) : Prop :=
  vp_in s1 930 ∧
  ∀ v1 : Int32, v1 = x4 + 1 →
  k123 g0_thrown f2 (upd f3 s1.toNatClampNeg s2) x3 v1
def wpX11_fewer_123 (post : Int32 → (Int32 × (Nat → Int32) × (Nat → Int32)) → Prop) (f1 : Nat → Int32) : Nat → Int32 → (Nat → Int32) → (Nat → Int32) → Int32 → Int32 → Prop
  | 0, _, _, _, _, _ => False
  | n_123 + 1, g0_thrown, f2, f3, x3, x4 =>
    (x3 ≤ x4 →
     ∃ n_168 : Nat, wpX11_fewer_168 post f1 n_168 g0_thrown f2 f3 x3 0) ∧
    (¬ x3 ≤ x4 →
     (¬ x4 = (x3 - 1) →
      wpX11_fewer_158 (fun y0 y1 y2 y3 y4 => wpX11_fewer_123 post f1 n_123 y0 y1 y2 y3 y4) post f1 g0_thrown f2 f3 x3 x4 x4 0) ∧
     (x4 = (x3 - 1) →
      wpX11_backwards (fun (r2 : Int32) (u1 : Unit) =>
       wpX11_fewer_158 (fun y0 y1 y2 y3 y4 => wpX11_fewer_123 post f1 n_123 y0 y1 y2 y3 y4) post f1 g0_thrown f2 f3 x3 x4 x4 r2) f2 ((1 : Int32) <<< ((x3 - 1) &&& 31)) x4))
def wpX11_fewer_99 (k63 : Int32 → (Nat → Int32) → (Nat → Int32) → Int32 → Int32 → Int32 → Int32 → Int32 → Prop) (k46 : Int32 → (Nat → Int32) → (Nat → Int32) → Int32 → Int32 → Int32 → Int32 → Prop) (post : Int32 → (Int32 × (Nat → Int32) × (Nat → Int32)) → Prop) (f1 : Nat → Int32) (g0_thrown : Int32) (f2 : Nat → Int32) (f3 : Nat → Int32) (x1 : Int32) (x2 : Int32) (x3 : Int32) (x4 : Int32) (x5 : Int32) (s1 : Int32) (s2 : Int32) (s3 : Int32) : Prop :=
  vp_in s1 30 ∧
  ∀ v1 : Int32, v1 = x5 + 1 →
  k63 g0_thrown (upd f2 s1.toNatClampNeg (s2 ||| s3)) f3 x1 x2 x3 x4 v1
def wpX11_fewer_63 (k46 : Int32 → (Nat → Int32) → (Nat → Int32) → Int32 → Int32 → Int32 → Int32 → Prop) (post : Int32 → (Int32 × (Nat → Int32) × (Nat → Int32)) → Prop) (f1 : Nat → Int32) : Nat → Int32 → (Nat → Int32) → (Nat → Int32) → Int32 → Int32 → Int32 → Int32 → Int32 → Prop
  | 0, _, _, _, _, _, _, _, _ => False
  | n_63 + 1, g0_thrown, f2, f3, x1, x2, x3, x4, x5 =>
    (x3 ≤ x5 →
     ∀ v1 : Int32, v1 = x4 + 1 →
     k46 g0_thrown f2 f3 x1 x2 x3 v1) ∧
    (¬ x3 ≤ x5 →
     vp_in x4 30 ∧
     wpX11_farAt (fun (r3 : Int32) (u2 : Unit) =>
      (x2 < r3 →
       wpX11_fewer_99 (fun y0 y1 y2 y3 y4 y5 y6 y7 => wpX11_fewer_63 k46 post f1 n_63 y0 y1 y2 y3 y4 y5 y6 y7) k46 post f1 g0_thrown f2 f3 x1 x2 x3 x4 x5 x4 (f2 x4.toNatClampNeg) 0) ∧
      (¬ x2 < r3 →
       wpX11_fewer_99 (fun y0 y1 y2 y3 y4 y5 y6 y7 => wpX11_fewer_63 k46 post f1 n_63 y0 y1 y2 y3 y4 y5 y6 y7) k46 post f1 g0_thrown f2 f3 x1 x2 x3 x4 x5 x4 (f2 x4.toNatClampNeg) ((1 : Int32) <<< (x5 &&& 31)))) f1 x1 x4 x1 x5)
def wpX11_fewer_46 (post : Int32 → (Int32 × (Nat → Int32) × (Nat → Int32)) → Prop) (f1 : Nat → Int32) : Nat → Int32 → (Nat → Int32) → (Nat → Int32) → Int32 → Int32 → Int32 → Int32 → Prop
  | 0, _, _, _, _, _, _, _ => False
  | n_46 + 1, g0_thrown, f2, f3, x1, x2, x3, x4 =>
    (x3 ≤ x4 →
     (¬ x3 = 1 →
      ∃ n_123 : Nat, wpX11_fewer_123 post f1 n_123 g0_thrown f2 f3 x3 0) ∧
     (x3 = 1 →
      post 1 (g0_thrown, f2, f3))) ∧
    (¬ x3 ≤ x4 →
     vp_in x4 30 ∧
     ∃ n_63 : Nat, wpX11_fewer_63 (fun y0 y1 y2 y3 y4 y5 y6 => wpX11_fewer_46 post f1 n_46 y0 y1 y2 y3 y4 y5 y6) post f1 n_63 g0_thrown (upd f2 x4.toNatClampNeg 0) f3 x1 x2 x3 x4 0)
def wpX11_fewer_28 (post : Int32 → (Int32 × (Nat → Int32) × (Nat → Int32)) → Prop) (f1 : Nat → Int32) (g0_thrown : Int32) (f2 : Nat → Int32) (f3 : Nat → Int32) (x1 : Int32) (x2 : Int32) (s1 : Int32) : Prop :=
  wpX11_throwsIf (fun (r2 : Int32) (u1 : Int32) =>
   (r2 = 0 →
    wpX11_cornersOf (fun (r4 : Int32) (u3 : Unit) =>
     ∃ n_46 : Nat, wpX11_fewer_46 post f1 n_46 u1 f2 f3 x1 x2 r4 0) f1 x1) ∧
   (¬ r2 = 0 →
    post 0 (u1, f2, f3))) g0_thrown s1 2
def wpX11_fewer (post : Int32 → (Int32 × (Nat → Int32) × (Nat → Int32)) → Prop) (f1 : Nat → Int32) (g0_thrown : Int32) (f2 : Nat → Int32) (f3 : Nat → Int32) (p0 : Int32) (p1 : Int32) : Prop :=
  wpX11_noWay (fun (r2 : Int32) (u1 : Unit) =>
   wpX11_throwsIf (fun (r4 : Int32) (u3 : Int32) =>
    (¬ r4 = 0 →
     post 0 (u3, f2, f3)) ∧
    (r4 = 0 →
     (0 ≤ p1 →
      wpX11_fewer_28 post f1 u3 f2 f3 p0 p1 0) ∧
     (¬ 0 ≤ p1 →
      wpX11_fewer_28 post f1 u3 f2 f3 p0 p1 1))) 0 r2 1) f1 p0
def wpX11_ownOf_55 (k17 : Int32 → Int32 → (Nat → Int32) → (Nat → Int32) → (Nat → Int32) → Int32 → Int32 → Int32 → Int32 → Prop) (k4 : Int32 → Int32 → (Nat → Int32) → (Nat → Int32) → (Nat → Int32) → Int32 → Int32 → Int32 → Prop) (post : Int32 → (Int32 × Int32 × (Nat → Int32) × (Nat → Int32) × (Nat → Int32)) → Prop) (f1 : Nat → Int32) (g0_men : Int32) (g0_dogs : Int32) (f2 : Nat → Int32) (f3 : Nat → Int32) (f4 : Nat → Int32) (x1 : Int32) (x2 : Int32) (x3 : Int32) (x4 : Int32) : Prop :=
  ∀ v1 : Int32, v1 = x4 + 1 →
  k17 g0_men g0_dogs f2 f3 f4 x1 x2 x3 v1
def wpX11_ownOf_17 (k4 : Int32 → Int32 → (Nat → Int32) → (Nat → Int32) → (Nat → Int32) → Int32 → Int32 → Int32 → Prop) (post : Int32 → (Int32 × Int32 × (Nat → Int32) × (Nat → Int32) × (Nat → Int32)) → Prop) (f1 : Nat → Int32) : Nat → Int32 → Int32 → (Nat → Int32) → (Nat → Int32) → (Nat → Int32) → Int32 → Int32 → Int32 → Int32 → Prop
  | 0, _, _, _, _, _, _, _, _, _ => False
  | n_17 + 1, g0_men, g0_dogs, f2, f3, f4, x1, x2, x3, x4 =>
    wpX11_ways (fun (r2 : Int32) (u1 : Unit) =>
     (r2 ≤ x4 →
      ∀ v3 : Int32, v3 = x3 + 1 →
      k4 g0_men g0_dogs f2 f3 f4 x1 x2 v3) ∧
     (¬ r2 ≤ x4 →
      wpX11_has (fun (r5 : Int32) (u4 : Unit) =>
       (r5 = 0 →
        wpX11_ownOf_55 (fun y0 y1 y2 y3 y4 y5 y6 y7 y8 => wpX11_ownOf_17 k4 post f1 n_17 y0 y1 y2 y3 y4 y5 y6 y7 y8) k4 post f1 g0_men g0_dogs f2 f3 f4 x1 x2 x3 x4) ∧
       (¬ r5 = 0 →
        wpX11_has (fun (r7 : Int32) (u6 : Unit) =>
         (r7 = 0 →
          wpX11_ownOf_55 (fun y0 y1 y2 y3 y4 y5 y6 y7 y8 => wpX11_ownOf_17 k4 post f1 n_17 y0 y1 y2 y3 y4 y5 y6 y7 y8) k4 post f1 g0_men g0_dogs f2 f3 f4 x1 x2 x3 x4) ∧
         (¬ r7 = 0 →
          wpX11_leastOf (fun (r9 : Int32) (u8 : Int32 × Int32 × (Nat → Int32) × (Nat → Int32) × (Nat → Int32)) =>
           ∀ v10 : Int32, v10 = iMax x2 r9 →
           wpX11_ownOf_55 (fun y0 y1 y2 y3 y4 y5 y6 y7 y8 => wpX11_ownOf_17 k4 post f1 n_17 y0 y1 y2 y3 y4 y5 y6 y7 y8) k4 post f1 u8.1 u8.2.1 u8.2.2.1 u8.2.2.2.1 u8.2.2.2.2 x1 v10 x3 x4) f1 g0_men g0_dogs f2 f3 f4 x3 x4)) x1 x4)) x1 x3)) f1
def wpX11_ownOf_4 (post : Int32 → (Int32 × Int32 × (Nat → Int32) × (Nat → Int32) × (Nat → Int32)) → Prop) (f1 : Nat → Int32) : Nat → Int32 → Int32 → (Nat → Int32) → (Nat → Int32) → (Nat → Int32) → Int32 → Int32 → Int32 → Prop
  | 0, _, _, _, _, _, _, _, _ => False
  | n_4 + 1, g0_men, g0_dogs, f2, f3, f4, x1, x2, x3 =>
    wpX11_ways (fun (r2 : Int32) (u1 : Unit) =>
     (r2 ≤ x3 →
      wpX11_orNone (fun (r4 : Int32) (u3 : Unit) =>
       post r4 (g0_men, g0_dogs, f2, f3, f4)) x2) ∧
     (¬ r2 ≤ x3 →
      ∀ v5 : Int32, v5 = x3 + 1 →
      ∃ n_17 : Nat, wpX11_ownOf_17 (fun y0 y1 y2 y3 y4 y5 y6 y7 => wpX11_ownOf_4 post f1 n_4 y0 y1 y2 y3 y4 y5 y6 y7) post f1 n_17 g0_men g0_dogs f2 f3 f4 x1 x2 x3 v5)) f1
def wpX11_ownOf (post : Int32 → (Int32 × Int32 × (Nat → Int32) × (Nat → Int32) × (Nat → Int32)) → Prop) (f1 : Nat → Int32) (g0_men : Int32) (g0_dogs : Int32) (f2 : Nat → Int32) (f3 : Nat → Int32) (f4 : Nat → Int32) (p0 : Int32) : Prop :=
  ∃ n_4 : Nat, wpX11_ownOf_4 post f1 n_4 g0_men g0_dogs f2 f3 f4 p0 0 0
def wpX11_own (post : Int32 → (Int32 × Int32 × Int32 × (Nat → Int32) × (Nat → Int32) × (Nat → Int32)) → Prop) (f1 : Nat → Int32) (g0_thrown : Int32) (g0_men : Int32) (g0_dogs : Int32) (f2 : Nat → Int32) (f3 : Nat → Int32) (f4 : Nat → Int32) (p0 : Int32) : Prop :=
  wpX11_ownOf (fun (r2 : Int32) (u1 : Int32 × Int32 × (Nat → Int32) × (Nat → Int32) × (Nat → Int32)) =>
   post r2 (0, u1.1, u1.2.1, u1.2.2.1, u1.2.2.2.1, u1.2.2.2.2)) f1 g0_men g0_dogs f2 f3 f4 p0
def wpX11_forged (post : Int32 → (Int32 × Int32 × Int32 × (Nat → Int32) × (Nat → Int32) × (Nat → Int32)) → Prop) (f1 : Nat → Int32) (g0_thrown : Int32) (g0_men : Int32) (g0_dogs : Int32) (f2 : Nat → Int32) (f3 : Nat → Int32) (f4 : Nat → Int32) (p0 : Int32) (p1 : Int32) : Prop :=
  wpX11_noWay (fun (r2 : Int32) (u1 : Unit) =>
   wpX11_throwsIf (fun (r4 : Int32) (u3 : Int32) =>
    (r4 = 0 →
     wpX11_nearestOf (fun (r6 : Int32) (u5 : Int32 × Int32 × (Nat → Int32) × (Nat → Int32) × (Nat → Int32)) =>
      wpX11_ownOf (fun (r8 : Int32) (u7 : Int32 × Int32 × (Nat → Int32) × (Nat → Int32) × (Nat → Int32)) =>
       (r6 < 0 →
        post 1 (u3, u7.1, u7.2.1, u7.2.2.1, u7.2.2.2.1, u7.2.2.2.2)) ∧
       (¬ r6 < 0 →
        (r8 < 0 →
         post 1 (u3, u7.1, u7.2.1, u7.2.2.1, u7.2.2.2.1, u7.2.2.2.2)) ∧
        (¬ r8 < 0 →
         wpX11_leastOf (fun (r10 : Int32) (u9 : Int32 × Int32 × (Nat → Int32) × (Nat → Int32) × (Nat → Int32)) =>
          (r10 ≤ r8 →
           post 0 (u3, u9.1, u9.2.1, u9.2.2.1, u9.2.2.2.1, u9.2.2.2.2)) ∧
          (¬ r10 ≤ r8 →
           post 1 (u3, u9.1, u9.2.1, u9.2.2.1, u9.2.2.2.1, u9.2.2.2.2))) f1 u7.1 u7.2.1 u7.2.2.1 u7.2.2.2.1 u7.2.2.2.2 p0 r6))) f1 u5.1 u5.2.1 u5.2.2.1 u5.2.2.2.1 u5.2.2.2.2 p1) f1 g0_men g0_dogs f2 f3 f4 p0 p1) ∧
    (¬ r4 = 0 →
     post 0 (u3, g0_men, g0_dogs, f2, f3, f4))) 0 r2 1) f1 p0
def wpX11_mark_107 (post : Int32 → (Int32 × (Nat → Int32)) → Prop) (g0_thrown : Int32) (f1 : Nat → Int32) (x2 : Int32) (x3 : Int32) (x4 : Int32) (x5 : Int32) (s1 : Int32) (s2 : Int32) : Prop :=
  vp_in s1 2508 ∧
  vp_in (x5 + 1) 2508 ∧
  vp_in (x5 + 2) 2508 ∧
  vp_in (x5 + 3) 2508 ∧
  vp_in 4 2508 ∧
  vp_in 4 2508 ∧
  vp_in 4 2508 ∧
  post (((upd (upd (upd (upd (upd f1 s1.toNatClampNeg s2) (x5 + 1).toNatClampNeg x2) (x5 + 2).toNatClampNeg x3) (x5 + 3).toNatClampNeg x4) (4 : Int32).toNatClampNeg (((upd (upd (upd (upd f1 s1.toNatClampNeg s2) (x5 + 1).toNatClampNeg x2) (x5 + 2).toNatClampNeg x3) (x5 + 3).toNatClampNeg x4) (4 : Int32).toNatClampNeg) + 1)) (4 : Int32).toNatClampNeg) - 1) (g0_thrown, (upd (upd (upd (upd (upd f1 s1.toNatClampNeg s2) (x5 + 1).toNatClampNeg x2) (x5 + 2).toNatClampNeg x3) (x5 + 3).toNatClampNeg x4) (4 : Int32).toNatClampNeg (((upd (upd (upd (upd f1 s1.toNatClampNeg s2) (x5 + 1).toNatClampNeg x2) (x5 + 2).toNatClampNeg x3) (x5 + 3).toNatClampNeg x4) (4 : Int32).toNatClampNeg) + 1)))
def wpX11_mark_69 (post : Int32 → (Int32 × (Nat → Int32)) → Prop) (g0_thrown : Int32) (f1 : Nat → Int32) (x1 : Int32) (x2 : Int32) (x3 : Int32) (x4 : Int32) (s1 : Int32) : Prop :=
  wpX11_throwsIf (fun (r2 : Int32) (u1 : Int32) =>
   (r2 = 0 →
    vp_in 4 2508 ∧
    ∀ v3 : Int32, v3 = 778 + (4 * (f1 (4 : Int32).toNatClampNeg)) →
    (x1 = 0 →
     wpX11_mark_107 post u1 f1 x2 x3 x4 v3 v3 0) ∧
    (¬ x1 = 0 →
     wpX11_mark_107 post u1 f1 x2 x3 x4 v3 v3 1)) ∧
   (¬ r2 = 0 →
    post 0 (u1, f1))) g0_thrown s1 2
def wpX11_mark_45 (post : Int32 → (Int32 × (Nat → Int32)) → Prop) (g0_thrown : Int32) (f1 : Nat → Int32) (x1 : Int32) (x2 : Int32) (x3 : Int32) (x4 : Int32) (s1 : Int32) : Prop :=
  wpX11_throwsIf (fun (r2 : Int32) (u1 : Int32) =>
   (¬ r2 = 0 →
    post 0 (u1, f1)) ∧
   (r2 = 0 →
    vp_in 4 2508 ∧
    (¬ (f1 (4 : Int32).toNatClampNeg) = 20 →
     wpX11_mark_69 post u1 f1 x1 x2 x3 x4 0) ∧
    ((f1 (4 : Int32).toNatClampNeg) = 20 →
     wpX11_mark_69 post u1 f1 x1 x2 x3 x4 1))) g0_thrown s1 1
def wpX11_mark_40 (post : Int32 → (Int32 × (Nat → Int32)) → Prop) (g0_thrown : Int32) (f1 : Nat → Int32) (x1 : Int32) (x2 : Int32) (x3 : Int32) (x4 : Int32) : Prop :=
  wpX11_mark_45 post g0_thrown f1 x1 x2 x3 x4 1
def wpX11_mark (post : Int32 → (Int32 × (Nat → Int32)) → Prop) (g0_thrown : Int32) (f1 : Nat → Int32) (p0 : Int32) (p1 : Int32) (p2 : Int32) (p3 : Int32) : Prop :=
  wpX11_in (fun (r2 : Int32) (u1 : Unit) =>
   (r2 = 0 →
    wpX11_mark_40 post 0 f1 p0 p1 p2 p3) ∧
   (¬ r2 = 0 →
    wpX11_in (fun (r4 : Int32) (u3 : Unit) =>
     (r4 = 0 →
      wpX11_mark_40 post 0 f1 p0 p1 p2 p3) ∧
     (¬ r4 = 0 →
      wpX11_in (fun (r6 : Int32) (u5 : Unit) =>
       (¬ r6 = 0 →
        wpX11_mark_45 post 0 f1 p0 p1 p2 p3 0) ∧
       (r6 = 0 →
        wpX11_mark_40 post 0 f1 p0 p1 p2 p3)) p3 0 999)) p2 0 999)) p1 0 999
def wpX11_unmark (post : Int32 → (Int32 × (Nat → Int32)) → Prop) (g0_thrown : Int32) (f1 : Nat → Int32) : Prop :=
  vp_in 4 2508 ∧
  (¬ (f1 (4 : Int32).toNatClampNeg) = 0 →
   vp_in 4 2508 ∧
   vp_in 4 2508 ∧
   vp_in 4 2508 ∧
   post ((upd f1 (4 : Int32).toNatClampNeg ((f1 (4 : Int32).toNatClampNeg) - 1)) (4 : Int32).toNatClampNeg) (0, (upd f1 (4 : Int32).toNatClampNeg ((f1 (4 : Int32).toNatClampNeg) - 1)))) ∧
  ((f1 (4 : Int32).toNatClampNeg) = 0 →
   post (-1) (0, f1))
def wpX11_farOfMarks (post : Int32 → Unit → Prop) (f1 : Nat → Int32) (p0 : Int32) (p1 : Int32) : Prop :=
  wpX11_ofMark (fun (r2 : Int32) (u1 : Unit) =>
   wpX11_ofMark (fun (r4 : Int32) (u3 : Unit) =>
    wpX11_ofMark (fun (r6 : Int32) (u5 : Unit) =>
     wpX11_ofMark (fun (r8 : Int32) (u7 : Unit) =>
      wpX11_farOf (fun (r10 : Int32) (u9 : Unit) =>
       post r10 ()) r2 r4 r6 r8) f1 p1 3) f1 p1 2) f1 p0 3) f1 p0 2
def wpX11_needed_67 (k21 : Int32 → Int32 → Int32 → Int32 → Prop) (k9 : Int32 → Int32 → Int32 → Prop) (post : Int32 → Int32 → Prop) (f1 : Nat → Int32) (g0_thrown : Int32) (x1 : Int32) (x2 : Int32) (x3 : Int32) : Prop :=
  ∀ v1 : Int32, v1 = x3 + 1 →
  k21 g0_thrown x1 x2 v1
def wpX11_needed_21 (k9 : Int32 → Int32 → Int32 → Prop) (post : Int32 → Int32 → Prop) (f1 : Nat → Int32) : Nat → Int32 → Int32 → Int32 → Int32 → Prop
  | 0, _, _, _, _ => False
  | n_21 + 1, g0_thrown, x1, x2, x3 =>
    (x2 ≤ x3 →
     ∀ v1 : Int32, v1 = x2 + 1 →
     k9 g0_thrown x1 v1) ∧
    (¬ x2 ≤ x3 →
     wpX11_ofMark (fun (r3 : Int32) (u2 : Unit) =>
      wpX11_ofMark (fun (r5 : Int32) (u4 : Unit) =>
       (r3 = r5 →
        wpX11_needed_67 (fun y0 y1 y2 y3 => wpX11_needed_21 k9 post f1 n_21 y0 y1 y2 y3) k9 post f1 g0_thrown x1 x2 x3) ∧
       (¬ r3 = r5 →
        wpX11_ofMark (fun (r7 : Int32) (u6 : Unit) =>
         wpX11_ofMark (fun (r9 : Int32) (u8 : Unit) =>
          (¬ r7 = r9 →
           wpX11_needed_67 (fun y0 y1 y2 y3 => wpX11_needed_21 k9 post f1 n_21 y0 y1 y2 y3) k9 post f1 g0_thrown x1 x2 x3) ∧
          (r7 = r9 →
           wpX11_farOfMarks (fun (r11 : Int32) (u10 : Unit) =>
            ∀ v12 : Int32, v12 = iMax x1 r11 →
            wpX11_needed_67 (fun y0 y1 y2 y3 => wpX11_needed_21 k9 post f1 n_21 y0 y1 y2 y3) k9 post f1 g0_thrown v12 x2 x3) f1 x2 x3)) f1 x3 1) f1 x2 1)) f1 x3 0) f1 x2 0)
def wpX11_needed_9 (post : Int32 → Int32 → Prop) (f1 : Nat → Int32) : Nat → Int32 → Int32 → Int32 → Prop
  | 0, _, _, _ => False
  | n_9 + 1, g0_thrown, x1, x2 =>
    vp_in 4 2508 ∧
    ((f1 (4 : Int32).toNatClampNeg) ≤ x2 →
     post x1 (g0_thrown)) ∧
    (¬ (f1 (4 : Int32).toNatClampNeg) ≤ x2 →
     ∃ n_21 : Nat, wpX11_needed_21 (fun y0 y1 y2 => wpX11_needed_9 post f1 n_9 y0 y1 y2) post f1 n_21 g0_thrown x1 x2 0)
def wpX11_needed (post : Int32 → Int32 → Prop) (f1 : Nat → Int32) (g0_thrown : Int32) : Prop :=
  ∃ n_9 : Nat, wpX11_needed_9 post f1 n_9 0 (-1) 0
def wpX11_fits_170 (k67 : Int32 → Int32 → Int32 → Int32 → Int32 → Int32 → Int32 → Int32 → Prop) (k50 : Int32 → Int32 → Int32 → Int32 → Int32 → Int32 → Int32 → Prop) (post : Int32 → Int32 → Prop) (f1 : Nat → Int32) (g0_thrown : Int32) (x1 : Int32) (x2 : Int32) (x3 : Int32) (x4 : Int32) (x5 : Int32) (x6 : Int32) (x7 : Int32) : Prop :=
  ∀ v1 : Int32, v1 = x7 + 1 →
  k67 g0_thrown x1 x2 x3 x4 x5 x6 v1
def wpX11_fits_165 (k67 : Int32 → Int32 → Int32 → Int32 → Int32 → Int32 → Int32 → Int32 → Prop) (k50 : Int32 → Int32 → Int32 → Int32 → Int32 → Int32 → Int32 → Prop) (post : Int32 → Int32 → Prop) (f1 : Nat → Int32) (g0_thrown : Int32) (x1 : Int32) (x2 : Int32) (x3 : Int32) (x4 : Int32) (x6 : Int32) (x7 : Int32) (s0 : Int32) : Prop :=
  ∀ v1 : Int32, v1 = x4 + 1 →
  wpX11_fits_170 k67 k50 post f1 g0_thrown x1 x2 x3 v1 s0 x6 x7
def wpX11_fits_122 (k67 : Int32 → Int32 → Int32 → Int32 → Int32 → Int32 → Int32 → Int32 → Prop) (k50 : Int32 → Int32 → Int32 → Int32 → Int32 → Int32 → Int32 → Prop) (post : Int32 → Int32 → Prop) (f1 : Nat → Int32) (g0_thrown : Int32) (x1 : Int32) (x2 : Int32) (x3 : Int32) (x4 : Int32) (x5 : Int32) (x6 : Int32) (x7 : Int32) (s0 : Int64) (s1 : Int32) : Prop :=
  ∀ v1 : Int64, v1 = s0 + (s1.toInt64) →
  wpX11_farOfMarks (fun (r3 : Int32) (u2 : Unit) =>
   (0 < (lg_cmp (r3.toInt64) (v1 * v1)) →
    (0 ≤ x5 →
     wpX11_fits_165 k67 k50 post f1 g0_thrown x1 x2 x3 x4 x6 x7 x5) ∧
    (¬ 0 ≤ x5 →
     wpX11_fits_165 k67 k50 post f1 g0_thrown x1 x2 x3 x4 x6 x7 ((100 * x6) + x7))) ∧
   (¬ 0 < (lg_cmp (r3.toInt64) (v1 * v1)) →
    wpX11_fits_170 k67 k50 post f1 g0_thrown x1 x2 x3 x4 x5 x6 x7)) f1 x6 x7
def wpX11_fits_67 (k50 : Int32 → Int32 → Int32 → Int32 → Int32 → Int32 → Int32 → Prop) (post : Int32 → Int32 → Prop) (f1 : Nat → Int32) : Nat → Int32 → Int32 → Int32 → Int32 → Int32 → Int32 → Int32 → Int32 → Prop
  | 0, _, _, _, _, _, _, _, _ => False
  | n_67 + 1, g0_thrown, x1, x2, x3, x4, x5, x6, x7 =>
    vp_in 4 2508 ∧
    ((f1 (4 : Int32).toNatClampNeg) ≤ x7 →
     ∀ v1 : Int32, v1 = x6 + 1 →
     k50 g0_thrown x1 x2 x3 x4 x5 v1) ∧
    (¬ (f1 (4 : Int32).toNatClampNeg) ≤ x7 →
     wpX11_ofMark (fun (r3 : Int32) (u2 : Unit) =>
      wpX11_ofMark (fun (r5 : Int32) (u4 : Unit) =>
       wpX11_ofMark (fun (r7 : Int32) (u6 : Unit) =>
        wpX11_ofMark (fun (r9 : Int32) (u8 : Unit) =>
         (¬ r7 = r9 →
          wpX11_fits_122 (fun y0 y1 y2 y3 y4 y5 y6 y7 => wpX11_fits_67 k50 post f1 n_67 y0 y1 y2 y3 y4 y5 y6 y7) k50 post f1 g0_thrown x1 x2 x3 x4 x5 x6 x7 ((x2.toInt64) * ((iAbs (r3 - r5)).toInt64)) x1) ∧
         (r7 = r9 →
          wpX11_fits_122 (fun y0 y1 y2 y3 y4 y5 y6 y7 => wpX11_fits_67 k50 post f1 n_67 y0 y1 y2 y3 y4 y5 y6 y7) k50 post f1 g0_thrown x1 x2 x3 x4 x5 x6 x7 ((x2.toInt64) * ((iAbs (r3 - r5)).toInt64)) 0)) f1 x7 0) f1 x6 0) f1 x7 1) f1 x6 1)
def wpX11_fits_50 (post : Int32 → Int32 → Prop) (f1 : Nat → Int32) : Nat → Int32 → Int32 → Int32 → Int32 → Int32 → Int32 → Int32 → Prop
  | 0, _, _, _, _, _, _, _ => False
  | n_50 + 1, g0_thrown, x1, x2, x3, x4, x5, x6 =>
    vp_in 4 2508 ∧
    ((f1 (4 : Int32).toNatClampNeg) ≤ x6 →
     (x3 = 0 →
      post x4 (g0_thrown)) ∧
     (¬ x3 = 0 →
      post x5 (g0_thrown))) ∧
    (¬ (f1 (4 : Int32).toNatClampNeg) ≤ x6 →
     ∀ v1 : Int32, v1 = x6 + 1 →
     ∃ n_67 : Nat, wpX11_fits_67 (fun y0 y1 y2 y3 y4 y5 y6 => wpX11_fits_50 post f1 n_50 y0 y1 y2 y3 y4 y5 y6) post f1 n_67 g0_thrown x1 x2 x3 x4 x5 x6 v1)
def wpX11_fits_32 (post : Int32 → Int32 → Prop) (f1 : Nat → Int32) (g0_thrown : Int32) (x1 : Int32) (x2 : Int32) (x3 : Int32) (s1 : Int32) : Prop :=
  wpX11_throwsIf (fun (r2 : Int32) (u1 : Int32) =>
   (r2 = 0 →
    ∃ n_50 : Nat, wpX11_fits_50 post f1 n_50 u1 x1 x2 x3 0 (-1) 0) ∧
   (¬ r2 = 0 →
    post 0 (u1))) g0_thrown s1 1
def wpX11_fits_27 (post : Int32 → Int32 → Prop) (f1 : Nat → Int32) (g0_thrown : Int32) (x1 : Int32) (x2 : Int32) (x3 : Int32) : Prop :=
  wpX11_fits_32 post f1 g0_thrown x1 x2 x3 1
def wpX11_fits (post : Int32 → Int32 → Prop) (f1 : Nat → Int32) (g0_thrown : Int32) (p0 : Int32) (p1 : Int32) (p2 : Int32) : Prop :=
  wpX11_in (fun (r2 : Int32) (u1 : Unit) =>
   (r2 = 0 →
    wpX11_fits_27 post f1 0 p0 p1 p2) ∧
   (¬ r2 = 0 →
    wpX11_in (fun (r4 : Int32) (u3 : Unit) =>
     (¬ r4 = 0 →
      wpX11_fits_32 post f1 0 p0 p1 p2 0) ∧
     (r4 = 0 →
      wpX11_fits_27 post f1 0 p0 p1 p2)) p1 0 99)) p0 0 999
def wpX11_begin_44 (post : Int32 → (Int32 × Int32 × (Nat → Int32) × (Nat → Int32)) → Prop) (g0_thrown : Int32) (g0_remembered : Int32) (f1 : Nat → Int32) (f2 : Nat → Int32) (x1 : Int32) (x2 : Int32) (x3 : Int32) (s1 : Int32) : Prop :=
  wpX11_throwsIf (fun (r2 : Int32) (u1 : Int32) =>
   (r2 = 0 →
    wpX11_isShut (fun (r4 : Int32) (u3 : (Nat → Int32)) =>
     (¬ r4 = 0 →
      post 0 (u1, g0_remembered, f1, u3)) ∧
     (r4 = 0 →
      wpX11_farAt (fun (r6 : Int32) (u5 : Unit) =>
       (r6 ≤ x3 →
        vp_in 6 2508 ∧
        vp_in 7 2508 ∧
        vp_in 8 2508 ∧
        vp_in 9 2508 ∧
        vp_in 10 2508 ∧
        vp_in 11 2508 ∧
        vp_in 12 2508 ∧
        wpX11_farAt (fun (r8 : Int32) (u7 : Unit) =>
         vp_in 13 2508 ∧
         post 1 (u1, 0, (upd (upd (upd (upd (upd (upd (upd (upd f1 (6 : Int32).toNatClampNeg 1) (7 : Int32).toNatClampNeg x1) (8 : Int32).toNatClampNeg x2) (9 : Int32).toNatClampNeg x3) (10 : Int32).toNatClampNeg 0) (11 : Int32).toNatClampNeg 0) (12 : Int32).toNatClampNeg 0) (13 : Int32).toNatClampNeg r8), u3)) (upd (upd (upd (upd (upd (upd (upd f1 (6 : Int32).toNatClampNeg 1) (7 : Int32).toNatClampNeg x1) (8 : Int32).toNatClampNeg x2) (9 : Int32).toNatClampNeg x3) (10 : Int32).toNatClampNeg 0) (11 : Int32).toNatClampNeg 0) (12 : Int32).toNatClampNeg 0) x1 0 x2 0) ∧
       (¬ r6 ≤ x3 →
        post 0 (u1, g0_remembered, f1, u3))) f1 x1 0 x2 0)) f1 f2 x1 0 x2 0) ∧
   (¬ r2 = 0 →
    post 0 (u1, g0_remembered, f1, f2))) g0_thrown s1 2
def wpX11_begin_27 (post : Int32 → (Int32 × Int32 × (Nat → Int32) × (Nat → Int32)) → Prop) (g0_thrown : Int32) (g0_remembered : Int32) (f1 : Nat → Int32) (f2 : Nat → Int32) (x1 : Int32) (x2 : Int32) (x3 : Int32) (s1 : Int32) : Prop :=
  wpX11_throwsIf (fun (r2 : Int32) (u1 : Int32) =>
   (¬ r2 = 0 →
    post 0 (u1, g0_remembered, f1, f2)) ∧
   (r2 = 0 →
    (0 ≤ x3 →
     wpX11_begin_44 post u1 g0_remembered f1 f2 x1 x2 x3 0) ∧
    (¬ 0 ≤ x3 →
     wpX11_begin_44 post u1 g0_remembered f1 f2 x1 x2 x3 1))) g0_thrown s1 1
def wpX11_begin_22 (post : Int32 → (Int32 × Int32 × (Nat → Int32) × (Nat → Int32)) → Prop) (g0_thrown : Int32) (g0_remembered : Int32) (f1 : Nat → Int32) (f2 : Nat → Int32) (x1 : Int32) (x2 : Int32) (x3 : Int32) : Prop :=
  wpX11_begin_27 post g0_thrown g0_remembered f1 f2 x1 x2 x3 1
def wpX11_begin (post : Int32 → (Int32 × Int32 × (Nat → Int32) × (Nat → Int32)) → Prop) (g0_thrown : Int32) (g0_remembered : Int32) (f1 : Nat → Int32) (f2 : Nat → Int32) (p0 : Int32) (p1 : Int32) (p2 : Int32) : Prop :=
  wpX11_noWay (fun (r2 : Int32) (u1 : Unit) =>
   (¬ r2 = 0 →
    wpX11_begin_22 post 0 g0_remembered f1 f2 p0 p1 p2) ∧
   (r2 = 0 →
    wpX11_noWay (fun (r4 : Int32) (u3 : Unit) =>
     (r4 = 0 →
      wpX11_begin_27 post 0 g0_remembered f1 f2 p0 p1 p2 0) ∧
     (¬ r4 = 0 →
      wpX11_begin_22 post 0 g0_remembered f1 f2 p0 p1 p2)) f1 p1)) f1 p0
def wpX11_canGo (post : Int32 → ((Nat → Int32)) → Prop) (f1 : Nat → Int32) (f2 : Nat → Int32) (p0 : Int32) : Prop :=
  vp_in 6 2508 ∧
  (¬ (f1 (6 : Int32).toNatClampNeg) = 0 →
   vp_in 7 2508 ∧
   ∀ v1 : Int32, v1 = f1 (7 : Int32).toNatClampNeg →
   vp_in 8 2508 ∧
   ∀ v2 : Int32, v2 = f1 (8 : Int32).toNatClampNeg →
   vp_in 10 2508 ∧
   wpX11_manBy (fun (r4 : Int32) (u3 : Unit) =>
    ∀ v5 : Int32, v5 = (f1 (10 : Int32).toNatClampNeg) + r4 →
    vp_in 11 2508 ∧
    wpX11_dogBy (fun (r7 : Int32) (u6 : Unit) =>
     ∀ v8 : Int32, v8 = (f1 (11 : Int32).toNatClampNeg) + r7 →
     wpX11_cornersOf (fun (r10 : Int32) (u9 : Unit) =>
      (r10 ≤ v5 →
       post 0 (f2)) ∧
      (¬ r10 ≤ v5 →
       wpX11_cornersOf (fun (r12 : Int32) (u11 : Unit) =>
        (r12 ≤ v8 →
         post 0 (f2)) ∧
        (¬ r12 ≤ v8 →
         wpX11_farAt (fun (r14 : Int32) (u13 : Unit) =>
          vp_in 9 2508 ∧
          ((f1 (9 : Int32).toNatClampNeg) < r14 →
           post 0 (f2)) ∧
          (¬ (f1 (9 : Int32).toNatClampNeg) < r14 →
           wpX11_isShut (fun (r16 : Int32) (u15 : (Nat → Int32)) =>
            (¬ r16 = 0 →
             post 0 (u15)) ∧
            (r16 = 0 →
             post 1 (u15))) f1 f2 v1 v5 v2 v8)) f1 v1 v5 v2 v8)) f1 v2)) f1 v1) p0) p0) ∧
  ((f1 (6 : Int32).toNatClampNeg) = 0 →
   post 0 (f2))
def wpX11_goes_50 (post : Int32 → (Int32 × (Nat → Int32) × (Nat → Int32)) → Prop) (g0_remembered : Int32) (f1 : Nat → Int32) (f2 : Nat → Int32) (x1 : Int32) : Prop :=
  vp_in ((2 * g0_remembered) - 2) 80 ∧
  vp_in 13 2508 ∧
  vp_in ((2 * g0_remembered) - 1) 80 ∧
  vp_in 10 2508 ∧
  wpX11_manBy (fun (r2 : Int32) (u1 : Unit) =>
   vp_in 10 2508 ∧
   vp_in 11 2508 ∧
   wpX11_dogBy (fun (r4 : Int32) (u3 : Unit) =>
    vp_in 11 2508 ∧
    vp_in 12 2508 ∧
    vp_in 12 2508 ∧
    vp_in 7 2508 ∧
    vp_in 10 2508 ∧
    vp_in 8 2508 ∧
    vp_in 11 2508 ∧
    wpX11_farAt (fun (r6 : Int32) (u5 : Unit) =>
     vp_in 13 2508 ∧
     vp_in 13 2508 ∧
     post r6 (g0_remembered, (upd (upd f1 ((2 * g0_remembered) - 2).toNatClampNeg x1) ((2 * g0_remembered) - 1).toNatClampNeg (f2 (13 : Int32).toNatClampNeg)), (upd (upd (upd (upd f2 (10 : Int32).toNatClampNeg ((f2 (10 : Int32).toNatClampNeg) + r2)) (11 : Int32).toNatClampNeg (((upd f2 (10 : Int32).toNatClampNeg ((f2 (10 : Int32).toNatClampNeg) + r2)) (11 : Int32).toNatClampNeg) + r4)) (12 : Int32).toNatClampNeg (((upd (upd f2 (10 : Int32).toNatClampNeg ((f2 (10 : Int32).toNatClampNeg) + r2)) (11 : Int32).toNatClampNeg (((upd f2 (10 : Int32).toNatClampNeg ((f2 (10 : Int32).toNatClampNeg) + r2)) (11 : Int32).toNatClampNeg) + r4)) (12 : Int32).toNatClampNeg) + 1)) (13 : Int32).toNatClampNeg (iMax ((upd (upd (upd f2 (10 : Int32).toNatClampNeg ((f2 (10 : Int32).toNatClampNeg) + r2)) (11 : Int32).toNatClampNeg (((upd f2 (10 : Int32).toNatClampNeg ((f2 (10 : Int32).toNatClampNeg) + r2)) (11 : Int32).toNatClampNeg) + r4)) (12 : Int32).toNatClampNeg (((upd (upd f2 (10 : Int32).toNatClampNeg ((f2 (10 : Int32).toNatClampNeg) + r2)) (11 : Int32).toNatClampNeg (((upd f2 (10 : Int32).toNatClampNeg ((f2 (10 : Int32).toNatClampNeg) + r2)) (11 : Int32).toNatClampNeg) + r4)) (12 : Int32).toNatClampNeg) + 1)) (13 : Int32).toNatClampNeg) r6)))) (upd (upd (upd f2 (10 : Int32).toNatClampNeg ((f2 (10 : Int32).toNatClampNeg) + r2)) (11 : Int32).toNatClampNeg (((upd f2 (10 : Int32).toNatClampNeg ((f2 (10 : Int32).toNatClampNeg) + r2)) (11 : Int32).toNatClampNeg) + r4)) (12 : Int32).toNatClampNeg (((upd (upd f2 (10 : Int32).toNatClampNeg ((f2 (10 : Int32).toNatClampNeg) + r2)) (11 : Int32).toNatClampNeg (((upd f2 (10 : Int32).toNatClampNeg ((f2 (10 : Int32).toNatClampNeg) + r2)) (11 : Int32).toNatClampNeg) + r4)) (12 : Int32).toNatClampNeg) + 1)) ((upd (upd (upd f2 (10 : Int32).toNatClampNeg ((f2 (10 : Int32).toNatClampNeg) + r2)) (11 : Int32).toNatClampNeg (((upd f2 (10 : Int32).toNatClampNeg ((f2 (10 : Int32).toNatClampNeg) + r2)) (11 : Int32).toNatClampNeg) + r4)) (12 : Int32).toNatClampNeg (((upd (upd f2 (10 : Int32).toNatClampNeg ((f2 (10 : Int32).toNatClampNeg) + r2)) (11 : Int32).toNatClampNeg (((upd f2 (10 : Int32).toNatClampNeg ((f2 (10 : Int32).toNatClampNeg) + r2)) (11 : Int32).toNatClampNeg) + r4)) (12 : Int32).toNatClampNeg) + 1)) (7 : Int32).toNatClampNeg) ((upd (upd (upd f2 (10 : Int32).toNatClampNeg ((f2 (10 : Int32).toNatClampNeg) + r2)) (11 : Int32).toNatClampNeg (((upd f2 (10 : Int32).toNatClampNeg ((f2 (10 : Int32).toNatClampNeg) + r2)) (11 : Int32).toNatClampNeg) + r4)) (12 : Int32).toNatClampNeg (((upd (upd f2 (10 : Int32).toNatClampNeg ((f2 (10 : Int32).toNatClampNeg) + r2)) (11 : Int32).toNatClampNeg (((upd f2 (10 : Int32).toNatClampNeg ((f2 (10 : Int32).toNatClampNeg) + r2)) (11 : Int32).toNatClampNeg) + r4)) (12 : Int32).toNatClampNeg) + 1)) (10 : Int32).toNatClampNeg) ((upd (upd (upd f2 (10 : Int32).toNatClampNeg ((f2 (10 : Int32).toNatClampNeg) + r2)) (11 : Int32).toNatClampNeg (((upd f2 (10 : Int32).toNatClampNeg ((f2 (10 : Int32).toNatClampNeg) + r2)) (11 : Int32).toNatClampNeg) + r4)) (12 : Int32).toNatClampNeg (((upd (upd f2 (10 : Int32).toNatClampNeg ((f2 (10 : Int32).toNatClampNeg) + r2)) (11 : Int32).toNatClampNeg (((upd f2 (10 : Int32).toNatClampNeg ((f2 (10 : Int32).toNatClampNeg) + r2)) (11 : Int32).toNatClampNeg) + r4)) (12 : Int32).toNatClampNeg) + 1)) (8 : Int32).toNatClampNeg) ((upd (upd (upd f2 (10 : Int32).toNatClampNeg ((f2 (10 : Int32).toNatClampNeg) + r2)) (11 : Int32).toNatClampNeg (((upd f2 (10 : Int32).toNatClampNeg ((f2 (10 : Int32).toNatClampNeg) + r2)) (11 : Int32).toNatClampNeg) + r4)) (12 : Int32).toNatClampNeg (((upd (upd f2 (10 : Int32).toNatClampNeg ((f2 (10 : Int32).toNatClampNeg) + r2)) (11 : Int32).toNatClampNeg (((upd f2 (10 : Int32).toNatClampNeg ((f2 (10 : Int32).toNatClampNeg) + r2)) (11 : Int32).toNatClampNeg) + r4)) (12 : Int32).toNatClampNeg) + 1)) (11 : Int32).toNatClampNeg)) x1) x1
def wpX11_goes_11 (post : Int32 → (Int32 × (Nat → Int32) × (Nat → Int32)) → Prop) : Nat → Int32 → (Nat → Int32) → (Nat → Int32) → Int32 → Int32 → Prop
  | 0, _, _, _, _, _ => False
  | n_11 + 1, g0_remembered, f1, f2, x1, x2 =>
    (78 ≤ x2 →
     wpX11_goes_50 post g0_remembered f1 f2 x1) ∧
    (¬ 78 ≤ x2 →
     vp_in (x2 + 2) 80 ∧
     vp_in x2 80 ∧
     ∀ v1 : Int32, v1 = x2 + 1 →
     wpX11_goes_11 post n_11 g0_remembered (upd f1 x2.toNatClampNeg (f1 (x2 + 2).toNatClampNeg)) f2 x1 v1)
def wpX11_goes (post : Int32 → (Int32 × (Nat → Int32) × (Nat → Int32)) → Prop) (g0_remembered : Int32) (f1 : Nat → Int32) (f2 : Nat → Int32) (p0 : Int32) : Prop :=
  (¬ g0_remembered = 40 →
   ∀ v1 : Int32, v1 = g0_remembered + 1 →
   wpX11_goes_50 post v1 f1 f2 p0) ∧
  (g0_remembered = 40 →
   ∃ n_11 : Nat, wpX11_goes_11 post n_11 g0_remembered f1 f2 p0 0)
def wpX11_step_20 (post : Int32 → (Int32 × Int32 × (Nat → Int32) × (Nat → Int32) × (Nat → Int32)) → Prop) (g0_thrown : Int32) (g0_remembered : Int32) (f1 : Nat → Int32) (f2 : Nat → Int32) (f3 : Nat → Int32) (x1 : Int32) (s1 : Int32) : Prop :=
  wpX11_throwsIf (fun (r2 : Int32) (u1 : Int32) =>
   (r2 = 0 →
    wpX11_canGo (fun (r4 : Int32) (u3 : (Nat → Int32)) =>
     (r4 = 0 →
      post (-1) (u1, g0_remembered, f1, u3, f3)) ∧
     (¬ r4 = 0 →
      wpX11_goes (fun (r6 : Int32) (u5 : Int32 × (Nat → Int32) × (Nat → Int32)) =>
       post r6 (u1, u5.1, u5.2.2, u3, u5.2.1)) g0_remembered f3 f1 x1)) f1 f2 x1) ∧
   (¬ r2 = 0 →
    post 0 (u1, g0_remembered, f1, f2, f3))) g0_thrown s1 1
def wpX11_step (post : Int32 → (Int32 × Int32 × (Nat → Int32) × (Nat → Int32) × (Nat → Int32)) → Prop) (g0_thrown : Int32) (g0_remembered : Int32) (f1 : Nat → Int32) (f2 : Nat → Int32) (f3 : Nat → Int32) (p0 : Int32) : Prop :=
  wpX11_in (fun (r2 : Int32) (u1 : Unit) =>
   (¬ r2 = 0 →
    wpX11_step_20 post 0 g0_remembered f1 f2 f3 p0 0) ∧
   (r2 = 0 →
    wpX11_step_20 post 0 g0_remembered f1 f2 f3 p0 1)) p0 1 3
def wpX11_undo (post : Int32 → (Int32 × Int32 × (Nat → Int32)) → Prop) (f1 : Nat → Int32) (g0_thrown : Int32) (g0_remembered : Int32) (f2 : Nat → Int32) : Prop :=
  (¬ g0_remembered = 0 →
   ∀ v1 : Int32, v1 = g0_remembered - 1 →
   vp_in (2 * v1) 80 ∧
   ∀ v2 : Int32, v2 = f1 (2 * v1).toNatClampNeg →
   vp_in ((2 * v1) + 1) 80 ∧
   vp_in 13 2508 ∧
   vp_in 10 2508 ∧
   wpX11_manBy (fun (r4 : Int32) (u3 : Unit) =>
    vp_in 10 2508 ∧
    vp_in 11 2508 ∧
    wpX11_dogBy (fun (r6 : Int32) (u5 : Unit) =>
     vp_in 11 2508 ∧
     vp_in 12 2508 ∧
     vp_in 12 2508 ∧
     post v2 (0, v1, (upd (upd (upd (upd f2 (13 : Int32).toNatClampNeg (f1 ((2 * v1) + 1).toNatClampNeg)) (10 : Int32).toNatClampNeg (((upd f2 (13 : Int32).toNatClampNeg (f1 ((2 * v1) + 1).toNatClampNeg)) (10 : Int32).toNatClampNeg) - r4)) (11 : Int32).toNatClampNeg (((upd (upd f2 (13 : Int32).toNatClampNeg (f1 ((2 * v1) + 1).toNatClampNeg)) (10 : Int32).toNatClampNeg (((upd f2 (13 : Int32).toNatClampNeg (f1 ((2 * v1) + 1).toNatClampNeg)) (10 : Int32).toNatClampNeg) - r4)) (11 : Int32).toNatClampNeg) - r6)) (12 : Int32).toNatClampNeg (((upd (upd (upd f2 (13 : Int32).toNatClampNeg (f1 ((2 * v1) + 1).toNatClampNeg)) (10 : Int32).toNatClampNeg (((upd f2 (13 : Int32).toNatClampNeg (f1 ((2 * v1) + 1).toNatClampNeg)) (10 : Int32).toNatClampNeg) - r4)) (11 : Int32).toNatClampNeg (((upd (upd f2 (13 : Int32).toNatClampNeg (f1 ((2 * v1) + 1).toNatClampNeg)) (10 : Int32).toNatClampNeg (((upd f2 (13 : Int32).toNatClampNeg (f1 ((2 * v1) + 1).toNatClampNeg)) (10 : Int32).toNatClampNeg) - r4)) (11 : Int32).toNatClampNeg) - r6)) (12 : Int32).toNatClampNeg) - 1)))) v2) v2) ∧
  (g0_remembered = 0 →
   post (-1) (0, g0_remembered, f2))
def wpX11_live_147 (k117 : Int32 → Int32 → (Nat → Int32) → (Nat → Int32) → (Nat → Int32) → Int32 → Int32 → Int32 → Int32 → Prop) (k32 : Int32 → Int32 → (Nat → Int32) → (Nat → Int32) → (Nat → Int32) → Int32 → Int32 → Prop) (post : Int32 → (Int32 × Int32 × (Nat → Int32) × (Nat → Int32) × (Nat → Int32)) → Prop) (g0_thrown : Int32) (g0_remembered : Int32) (f1 : Nat → Int32) (f2 : Nat → Int32) (f3 : Nat → Int32) (x1 : Int32) (x2 : Int32) (x5 : Int32) (s0 : Int32) (s1 : Int32) : Prop :=
  ∀ v1 : Int32, v1 = s0 - s1 →
  ∀ v2 : Int32, v2 = x5 + 1 →
  k117 g0_thrown g0_remembered f1 f2 f3 x1 x2 v1 v2
def wpX11_live_131 (k117 : Int32 → Int32 → (Nat → Int32) → (Nat → Int32) → (Nat → Int32) → Int32 → Int32 → Int32 → Int32 → Prop) (k32 : Int32 → Int32 → (Nat → Int32) → (Nat → Int32) → (Nat → Int32) → Int32 → Int32 → Prop) (post : Int32 → (Int32 × Int32 × (Nat → Int32) × (Nat → Int32) × (Nat → Int32)) → Prop) (g0_thrown : Int32) (g0_remembered : Int32) (f1 : Nat → Int32) (f2 : Nat → Int32) (f3 : Nat → Int32) (x1 : Int32) (x2 : Int32) (x4 : Int32) (x5 : Int32) : Prop :=
  wpX11_canGo (fun (r2 : Int32) (u1 : (Nat → Int32)) =>
   (r2 = 0 →
    wpX11_live_147 k117 k32 post g0_thrown g0_remembered f1 u1 f3 x1 x2 x5 x4 0) ∧
   (¬ r2 = 0 →
    wpX11_live_147 k117 k32 post g0_thrown g0_remembered f1 u1 f3 x1 x2 x5 x4 1)) f1 f2 x5
def wpX11_live_117 (k32 : Int32 → Int32 → (Nat → Int32) → (Nat → Int32) → (Nat → Int32) → Int32 → Int32 → Prop) (post : Int32 → (Int32 × Int32 × (Nat → Int32) × (Nat → Int32) × (Nat → Int32)) → Prop) : Nat → Int32 → Int32 → (Nat → Int32) → (Nat → Int32) → (Nat → Int32) → Int32 → Int32 → Int32 → Int32 → Prop
  | 0, _, _, _, _, _, _, _, _, _ => False
  | n_117 + 1, g0_thrown, g0_remembered, f1, f2, f3, x1, x2, x4, x5 =>
    wpX11_canGo (fun (r2 : Int32) (u1 : (Nat → Int32)) =>
     (r2 = 0 →
      wpX11_live_131 (fun y0 y1 y2 y3 y4 y5 y6 y7 y8 => wpX11_live_117 k32 post n_117 y0 y1 y2 y3 y4 y5 y6 y7 y8) k32 post g0_thrown g0_remembered f1 u1 f3 x1 x2 x4 x5) ∧
     (¬ r2 = 0 →
      (x4 ≤ 0 →
       wpX11_goes (fun (r4 : Int32) (u3 : Int32 × (Nat → Int32) × (Nat → Int32)) =>
        ∀ v5 : Int32, v5 = x2 + 1 →
        k32 g0_thrown u3.1 u3.2.2 u1 u3.2.1 x1 v5) g0_remembered f3 f1 x5) ∧
      (¬ x4 ≤ 0 →
       wpX11_live_131 (fun y0 y1 y2 y3 y4 y5 y6 y7 y8 => wpX11_live_117 k32 post n_117 y0 y1 y2 y3 y4 y5 y6 y7 y8) k32 post g0_thrown g0_remembered f1 u1 f3 x1 x2 x4 x5))) f1 f2 x5
def wpX11_live_63 (k42 : Int32 → Int32 → (Nat → Int32) → (Nat → Int32) → (Nat → Int32) → Int32 → Int32 → Int32 → Int32 → Prop) (k32 : Int32 → Int32 → (Nat → Int32) → (Nat → Int32) → (Nat → Int32) → Int32 → Int32 → Prop) (post : Int32 → (Int32 × Int32 × (Nat → Int32) × (Nat → Int32) × (Nat → Int32)) → Prop) (g0_thrown : Int32) (g0_remembered : Int32) (f1 : Nat → Int32) (f2 : Nat → Int32) (f3 : Nat → Int32) (x1 : Int32) (x2 : Int32) (x4 : Int32) (s0 : Int32) (s1 : Int32) : Prop :=
  ∀ v1 : Int32, v1 = s0 + s1 →
  ∀ v2 : Int32, v2 = x4 + 1 →
  k42 g0_thrown g0_remembered f1 f2 f3 x1 x2 v1 v2
def wpX11_live_42 (k32 : Int32 → Int32 → (Nat → Int32) → (Nat → Int32) → (Nat → Int32) → Int32 → Int32 → Prop) (post : Int32 → (Int32 × Int32 × (Nat → Int32) × (Nat → Int32) × (Nat → Int32)) → Prop) : Nat → Int32 → Int32 → (Nat → Int32) → (Nat → Int32) → (Nat → Int32) → Int32 → Int32 → Int32 → Int32 → Prop
  | 0, _, _, _, _, _, _, _, _, _ => False
  | n_42 + 1, g0_thrown, g0_remembered, f1, f2, f3, x1, x2, x3, x4 =>
    (4 ≤ x4 →
     (¬ x3 = 0 →
      vp_in 5 2508 ∧
      vp_in 5 2508 ∧
      vp_in 5 2508 ∧
      ¬ x3 = 0 ∧
      ∀ v1 : Int32, v1 = ((((upd f1 (5 : Int32).toNatClampNeg ((1103515245 * (f1 (5 : Int32).toNatClampNeg)) + 12345)) (5 : Int32).toNatClampNeg) >>> ((16 : Int32) &&& 31)) &&& 32767) - ((((upd f1 (5 : Int32).toNatClampNeg ((1103515245 * (f1 (5 : Int32).toNatClampNeg)) + 12345)) (5 : Int32).toNatClampNeg) >>> ((16 : Int32) &&& 31)) &&& 32767) / x3 * x3 →
      ∃ n_117 : Nat, wpX11_live_117 k32 post n_117 g0_thrown g0_remembered (upd f1 (5 : Int32).toNatClampNeg ((1103515245 * (f1 (5 : Int32).toNatClampNeg)) + 12345)) f2 f3 x1 x2 v1 1) ∧
     (x3 = 0 →
      post x2 (g0_thrown, g0_remembered, f1, f2, f3))) ∧
    (¬ 4 ≤ x4 →
     wpX11_canGo (fun (r3 : Int32) (u2 : (Nat → Int32)) =>
      (r3 = 0 →
       wpX11_live_63 (fun y0 y1 y2 y3 y4 y5 y6 y7 y8 => wpX11_live_42 k32 post n_42 y0 y1 y2 y3 y4 y5 y6 y7 y8) k32 post g0_thrown g0_remembered f1 u2 f3 x1 x2 x4 x3 0) ∧
      (¬ r3 = 0 →
       wpX11_live_63 (fun y0 y1 y2 y3 y4 y5 y6 y7 y8 => wpX11_live_42 k32 post n_42 y0 y1 y2 y3 y4 y5 y6 y7 y8) k32 post g0_thrown g0_remembered f1 u2 f3 x1 x2 x4 x3 1)) f1 f2 x4)
def wpX11_live_32 (post : Int32 → (Int32 × Int32 × (Nat → Int32) × (Nat → Int32) × (Nat → Int32)) → Prop) : Nat → Int32 → Int32 → (Nat → Int32) → (Nat → Int32) → (Nat → Int32) → Int32 → Int32 → Prop
  | 0, _, _, _, _, _, _, _ => False
  | n_32 + 1, g0_thrown, g0_remembered, f1, f2, f3, x1, x2 =>
    (x1 ≤ x2 →
     post x2 (g0_thrown, g0_remembered, f1, f2, f3)) ∧
    (¬ x1 ≤ x2 →
     ∃ n_42 : Nat, wpX11_live_42 (fun y0 y1 y2 y3 y4 y5 y6 => wpX11_live_32 post n_32 y0 y1 y2 y3 y4 y5 y6) post n_42 g0_thrown g0_remembered f1 f2 f3 x1 x2 0 1)
def wpX11_live_21 (post : Int32 → (Int32 × Int32 × (Nat → Int32) × (Nat → Int32) × (Nat → Int32)) → Prop) (g0_thrown : Int32) (g0_remembered : Int32) (f1 : Nat → Int32) (f2 : Nat → Int32) (f3 : Nat → Int32) (x1 : Int32) (s1 : Int32) : Prop :=
  wpX11_throwsIf (fun (r2 : Int32) (u1 : Int32) =>
   (r2 = 0 →
    ∃ n_32 : Nat, wpX11_live_32 post n_32 u1 g0_remembered f1 f2 f3 x1 0) ∧
   (¬ r2 = 0 →
    post 0 (u1, g0_remembered, f1, f2, f3))) g0_thrown s1 1
def wpX11_live (post : Int32 → (Int32 × Int32 × (Nat → Int32) × (Nat → Int32) × (Nat → Int32)) → Prop) (g0_thrown : Int32) (g0_remembered : Int32) (f1 : Nat → Int32) (f2 : Nat → Int32) (f3 : Nat → Int32) (p0 : Int32) : Prop :=
  wpX11_in (fun (r2 : Int32) (u1 : Unit) =>
   (¬ r2 = 0 →
    wpX11_live_21 post 0 g0_remembered f1 f2 f3 p0 0) ∧
   (r2 = 0 →
    wpX11_live_21 post 0 g0_remembered f1 f2 f3 p0 1)) p0 1 60
def wpX11_on_21 (post : Int32 → Int32 → Prop) (g0_remembered : Int32) (f1 : Nat → Int32) (g0_thrown : Int32) (x1 : Int32) (s1 : Int32) : Prop :=
  wpX11_throwsIf (fun (r2 : Int32) (u1 : Int32) =>
   (r2 = 0 →
    vp_in 6 2508 ∧
    (¬ (f1 (6 : Int32).toNatClampNeg) = 0 →
     (x1 = 4 →
      vp_in 10 2508 ∧
      vp_in 7 2508 ∧
      wpX11_cornersOf (fun (r4 : Int32) (u3 : Unit) =>
       (¬ (f1 (10 : Int32).toNatClampNeg) = (r4 - 1) →
        post 0 (u1)) ∧
       ((f1 (10 : Int32).toNatClampNeg) = (r4 - 1) →
        vp_in 11 2508 ∧
        vp_in 8 2508 ∧
        wpX11_cornersOf (fun (r6 : Int32) (u5 : Unit) =>
         (¬ (f1 (11 : Int32).toNatClampNeg) = (r6 - 1) →
          post 0 (u1)) ∧
         ((f1 (11 : Int32).toNatClampNeg) = (r6 - 1) →
          post 1 (u1))) f1 (f1 (8 : Int32).toNatClampNeg))) f1 (f1 (7 : Int32).toNatClampNeg)) ∧
     (x1 = 5 →
      post g0_remembered (u1)) ∧
     (x1 = 6 →
      vp_in 9 2508 ∧
      post (f1 (9 : Int32).toNatClampNeg) (u1)) ∧
     (¬ (x1 = 4 ∨ x1 = 5 ∨ x1 = 6) →
      vp_in (10 + x1) 2508 ∧
      post (f1 (10 + x1).toNatClampNeg) (u1))) ∧
    ((f1 (6 : Int32).toNatClampNeg) = 0 →
     post (-1) (u1))) ∧
   (¬ r2 = 0 →
    post 0 (u1))) g0_thrown s1 1
def wpX11_on (post : Int32 → Int32 → Prop) (g0_remembered : Int32) (f1 : Nat → Int32) (g0_thrown : Int32) (p0 : Int32) : Prop :=
  wpX11_in (fun (r2 : Int32) (u1 : Unit) =>
   (¬ r2 = 0 →
    wpX11_on_21 post g0_remembered f1 0 p0 0) ∧
   (r2 = 0 →
    wpX11_on_21 post g0_remembered f1 0 p0 1)) p0 0 6
def wpX11_seed (post : Int32 → (Int32 × (Nat → Int32)) → Prop) (g0_thrown : Int32) (f1 : Nat → Int32) (p0 : Int32) : Prop :=
  vp_in 5 2508 ∧
  ∀ v1 : Int32, v1 = f1 (5 : Int32).toNatClampNeg →
  vp_in 5 2508 ∧
  post v1 (0, (upd f1 (5 : Int32).toNatClampNeg p0))
def wpX11_count_61 (post : Int32 → Int32 → Prop) (f1 : Nat → Int32) : Nat → Int32 → Int32 → Int32 → Prop
  | 0, _, _, _ => False
  | n_61 + 1, g0_thrown, x2, x3 =>
    wpX11_ways (fun (r2 : Int32) (u1 : Unit) =>
     (r2 ≤ x3 →
      post x2 (g0_thrown)) ∧
     (¬ r2 ≤ x3 →
      wpX11_cornersOf (fun (r4 : Int32) (u3 : Unit) =>
       ∀ v5 : Int32, v5 = x2 + r4 →
       ∀ v6 : Int32, v6 = x3 + 1 →
       wpX11_count_61 post f1 n_61 g0_thrown v5 v6) f1 x3)) f1
def wpX11_count (post : Int32 → Int32 → Prop) (f1 : Nat → Int32) (g0_thrown : Int32) (p0 : Int32) : Prop :=
  (p0 = 3 →
   vp_in 3 2508 ∧
   (¬ (f1 (3 : Int32).toNatClampNeg) = 1 →
    post (-1) (0)) ∧
   ((f1 (3 : Int32).toNatClampNeg) = 1 →
    vp_in 858 2508 ∧
    post (f1 (858 : Int32).toNatClampNeg) (0))) ∧
  (p0 = 5 →
   ∃ n_61 : Nat, wpX11_count_61 post f1 n_61 0 0 0) ∧
  (¬ (p0 = 3 ∨ p0 = 5) →
   wpX11_in (fun (r2 : Int32) (u1 : Unit) =>
    (r2 = 0 →
     post (-1) (0)) ∧
    (¬ r2 = 0 →
     vp_in p0 2508 ∧
     post (f1 p0.toNatClampNeg) (0))) p0 0 4)
def wpX10_feed (post : Int32 → (Int32 × (Nat → Int32)) → Prop) (g1_size : Int32) (f2 : Nat → Int32) (p0 : Int32) (p1 : Int32) (p2 : Int32) (p3 : Int32) (p4 : Int32) : Prop :=
  wpX8_hasRoomFor (fun (r2 : Int32) (u1 : Unit) =>
   (¬ r2 = 0 →
    wpX8_append (fun (u3 : Int32 × (Nat → Int32)) =>
     wpX8_append (fun (u4 : Int32 × (Nat → Int32)) =>
      wpX8_append (fun (u5 : Int32 × (Nat → Int32)) =>
       wpX8_append (fun (u6 : Int32 × (Nat → Int32)) =>
        wpX8_append (fun (u7 : Int32 × (Nat → Int32)) =>
         post u7.1 (u7.1, u7.2)) u6.1 u6.2 p4) u5.1 u5.2 p3) u4.1 u4.2 p2) u3.1 u3.2 p1) g1_size f2 p0) ∧
   (r2 = 0 →
    post (-1) (g1_size, f2))) g1_size 20
def wpX10_end (post : Int32 → Int32 → Prop) (g1_size : Int32) (p0 : Int32) : Prop :=
  (p0 < 0 →
   post 0 (g1_size)) ∧
  (¬ p0 < 0 →
   (p0 ≤ g1_size →
    post 1 (p0)) ∧
   (¬ p0 ≤ g1_size →
    post 0 (g1_size)))
def wpX10_useUpText_16 (post : (Int32 × Int32) → Prop) (g1_here : Int32) (g0_wrongByte : Int32) (g1_size : Int32) (s1 : Int32) : Prop :=
  post (s1, 0)
def wpX10_useUpText (post : (Int32 × Int32) → Prop) (g1_here : Int32) (g0_wrongByte : Int32) (g1_size : Int32) (p0 : Int32) : Prop :=
  (p0 = 0 →
   wpX10_useUpText_16 post g1_here g0_wrongByte g1_size g1_here) ∧
  (¬ p0 = 0 →
   wpX10_useUpText_16 post g1_here g0_wrongByte g1_size (-1))
def wpX10_park (post : Int32 → (Int32 × Int32 × Int32 × Int32 × (Nat → Int32) × (Nat → Int32) × (Nat → Int32) × (Nat → Int32) × Int32 × Int32 × Int32 × Int32 × (Nat → Int32) × (Nat → Int32) × (Nat → Int32) × (Nat → Int32) × Int32 × Int32 × Int32 × Int32 × Int32) → Prop) (postX : String → (Int32 × Int32 × Int32 × Int32 × (Nat → Int32) × (Nat → Int32) × (Nat → Int32) × (Nat → Int32) × Int32 × Int32 × Int32 × Int32 × (Nat → Int32) × (Nat → Int32) × (Nat → Int32) × (Nat → Int32) × Int32 × Int32 × Int32 × Int32 × Int32) → Prop) (f14 : Nat → Int32) (g0_wrongByte : Int32) (g2_ways : Int32) (g2_wallCount : Int32) (g2_texts : Int32) (f3 : Nat → Int32) (f4 : Nat → Int32) (f5 : Nat → Int32) (f6 : Nat → Int32) (g7_underWay : Int32) (g8_ways : Int32) (g8_wallCount : Int32) (g8_texts : Int32) (f9 : Nat → Int32) (f10 : Nat → Int32) (f11 : Nat → Int32) (f12 : Nat → Int32) (g13_size : Int32) (g13_here : Int32) (g13_behind : Int32) (g13_digits : Int32) (g13_value : Int32) : Prop :=
  wpX1_copyFrom (fun (u1 : Int32 × Int32 × Int32 × (Nat → Int32) × (Nat → Int32) × (Nat → Int32) × (Nat → Int32)) =>
   wpX1_readText (fun (r3 : Int32) (u2 : Int32 × Int32 × (Nat → Int32) × (Nat → Int32) × (Nat → Int32) × (Nat → Int32) × Int32 × Int32 × Int32 × Int32) =>
    wpX10_useUpText (fun (u4 : Int32 × Int32) =>
     (¬ r3 = 0 →
      (g2_texts < 16 →
       ∀ v5 : Int32, v5 = u1.2.2.1 + 1 →
       wpX1_copyFrom (fun (u6 : Int32 × Int32 × Int32 × (Nat → Int32) × (Nat → Int32) × (Nat → Int32) × (Nat → Int32)) =>
        post u6.2.2.1 (u4.1, u6.1, u6.2.1, u6.2.2.1, u6.2.2.2.1, u6.2.2.2.2.1, u6.2.2.2.2.2.1, u6.2.2.2.2.2.2, 0, u2.1, u2.2.1, v5, u2.2.2.2.1, u2.2.2.2.2.1, u2.2.2.1, u2.2.2.2.2.2.1, u4.2, u2.2.2.2.2.2.2.1, u2.2.2.2.2.2.2.2.1, u2.2.2.2.2.2.2.2.2.1, u2.2.2.2.2.2.2.2.2.2)) u2.1 u2.2.1 v5 u2.2.2.2.1 u2.2.2.2.2.1 u2.2.2.1 u2.2.2.2.2.2.1 g2_ways g2_wallCount g2_texts f3 f4 f5 f6) ∧
      (¬ g2_texts < 16 →
       postX "java/lang/UnsupportedOperationException" (u4.1, g2_ways, g2_wallCount, g2_texts, f3, f4, f5, f6, g7_underWay, u2.1, u2.2.1, u1.2.2.1, u2.2.2.2.1, u2.2.2.2.2.1, u2.2.2.1, u2.2.2.2.2.2.1, u4.2, u2.2.2.2.2.2.2.1, u2.2.2.2.2.2.2.2.1, u2.2.2.2.2.2.2.2.2.1, u2.2.2.2.2.2.2.2.2.2))) ∧
     (r3 = 0 →
      postX "java/lang/IllegalArgumentException" (u4.1, g2_ways, g2_wallCount, g2_texts, f3, f4, f5, f6, g7_underWay, u2.1, u2.2.1, u1.2.2.1, u2.2.2.2.1, u2.2.2.2.2.1, u2.2.2.1, u2.2.2.2.2.2.1, u4.2, u2.2.2.2.2.2.2.1, u2.2.2.2.2.2.2.2.1, u2.2.2.2.2.2.2.2.2.1, u2.2.2.2.2.2.2.2.2.2))) u2.2.2.2.2.2.2.1 g0_wrongByte g13_size r3) g13_size f14 u1.1 u1.2.1 u1.2.2.2.2.2.1 u1.2.2.2.1 u1.2.2.2.2.1 u1.2.2.2.2.2.2 g13_here g13_behind g13_digits g13_value) g2_ways g2_wallCount g2_texts f3 f4 f5 f6 g8_ways g8_wallCount g8_texts f9 f10 f11 f12
def wpX10_law (post : Int32 → (Int32 × Int32 × Int32 × (Nat → Int32) × Int32 × Int32 × Int32 × Int32 × Int32 × Int32 × Int32 × (Nat → Int32) × Int32) → Prop) (postX : String → (Int32 × Int32 × Int32 × (Nat → Int32) × Int32 × Int32 × Int32 × Int32 × Int32 × Int32 × Int32 × (Nat → Int32) × Int32) → Prop) (f4 : Nat → Int32) (g0_wrongByte : Int32) (g1_size : Int32) (g1_lines : Int32) (f2 : Nat → Int32) (g3_size : Int32) (g3_here : Int32) (g3_behind : Int32) (g3_digits : Int32) (g3_value : Int32) (g6_size : Int32) (g6_lines : Int32) (f7 : Nat → Int32) (g8_underWay : Int32) : Prop :=
  wpX2_readText (fun (r2 : Int32) (u1 : Int32 × Int32 × (Nat → Int32) × Int32 × Int32 × Int32 × Int32) =>
   wpX10_useUpText (fun (u3 : Int32 × Int32) =>
    (¬ r2 = 0 →
     wpX2_copyFrom (fun (u4 : Int32 × Int32 × (Nat → Int32)) =>
      post u4.2.1 (u3.1, u1.1, u1.2.1, u1.2.2.1, u3.2, u1.2.2.2.1, u1.2.2.2.2.1, u1.2.2.2.2.2.1, u1.2.2.2.2.2.2, u4.1, u4.2.1, u4.2.2, 0)) u1.1 u1.2.1 u1.2.2.1 g6_size g6_lines f7) ∧
    (r2 = 0 →
     postX "java/lang/IllegalArgumentException" (u3.1, u1.1, u1.2.1, u1.2.2.1, u3.2, u1.2.2.2.1, u1.2.2.2.2.1, u1.2.2.2.2.2.1, u1.2.2.2.2.2.2, g6_size, g6_lines, f7, g8_underWay))) u1.2.2.2.1 g0_wrongByte g3_size r2) g3_size f4 g1_size g1_lines f2 g3_here g3_behind g3_digits g3_value
def wpX10_fault (post : Int32 → Unit → Prop) (g0_wrongByte : Int32) : Prop :=
  post g0_wrongByte ()
def wpX10_needCorner (post : Unit → Prop) (postX : String → Unit → Prop) (g2_ways : Int32) (f3 : Nat → Int32) (p0 : Int32) (p1 : Int32) : Prop :=
  wpX1_hasCorner (fun (r2 : Int32) (u1 : Unit) =>
   (¬ r2 = 0 →
    post ()) ∧
   (r2 = 0 →
    postX "java/lang/IndexOutOfBoundsException" ())) g2_ways f3 p0 p1
def wpX10_corner (post : Int32 → Unit → Prop) (postX : String → Unit → Prop) (g2_ways : Int32) (f3 : Nat → Int32) (f4 : Nat → Int32) (f5 : Nat → Int32) (p0 : Int32) (p1 : Int32) (p2 : Int32) : Prop :=
  wpX10_needCorner (fun (u1 : Unit) =>
   (p2 = 0 →
    wpX1_xOf (fun (r3 : Int32) (u2 : Unit) =>
     post r3 ()) f5 p0 p1) ∧
   (¬ p2 = 0 →
    wpX1_yOf (fun (r5 : Int32) (u4 : Unit) =>
     post r5 ()) f4 p0 p1)) (fun (E : String) (u1 : Unit) => postX E ()) g2_ways f3 p0 p1
def wpX10_needWay (post : Unit → Prop) (postX : String → Unit → Prop) (g2_ways : Int32) (p0 : Int32) : Prop :=
  wpX1_hasWay (fun (r2 : Int32) (u1 : Unit) =>
   (¬ r2 = 0 →
    post ()) ∧
   (r2 = 0 →
    postX "java/lang/IndexOutOfBoundsException" ())) g2_ways p0
def wpX10_corners (post : Int32 → Unit → Prop) (postX : String → Unit → Prop) (g2_ways : Int32) (f3 : Nat → Int32) (p0 : Int32) : Prop :=
  wpX10_needWay (fun (u1 : Unit) =>
   vp_in p0 12 ∧
   post (f3 p0.toNatClampNeg) ()) (fun (E : String) (u1 : Unit) => postX E ()) g2_ways p0
def wpX10_far (post : Int32 → Unit → Prop) (postX : String → Unit → Prop) (g2_ways : Int32) (f3 : Nat → Int32) (f4 : Nat → Int32) (f5 : Nat → Int32) (p0 : Int32) (p1 : Int32) (p2 : Int32) (p3 : Int32) : Prop :=
  wpX10_needCorner (fun (u1 : Unit) =>
   wpX10_needCorner (fun (u2 : Unit) =>
    wpX1_distance (fun (r4 : Int32) (u3 : Unit) =>
     post r4 ()) f4 f5 p0 p1 p2 p3) (fun (E : String) (u2 : Unit) => postX E ()) g2_ways f3 p2 p3) (fun (E : String) (u1 : Unit) => postX E ()) g2_ways f3 p0 p1
def wpX10_shut (post : Int32 → ((Nat → Int32)) → Prop) (postX : String → ((Nat → Int32)) → Prop) (g2_ways : Int32) (g2_wallCount : Int32) (f3 : Nat → Int32) (f4 : Nat → Int32) (f5 : Nat → Int32) (f6 : Nat → Int32) (g7_size : Int32) (f9 : Nat → Int32) (f8 : Nat → Int32) (p0 : Int32) (p1 : Int32) (p2 : Int32) (p3 : Int32) : Prop :=
  wpX10_needCorner (fun (u1 : Unit) =>
   wpX10_needCorner (fun (u2 : Unit) =>
    wpX6_isShut (fun (r4 : Int32) (u3 : (Nat → Int32)) =>
     (r4 = 0 ∨ r4 = 1) ∧ post r4 (u3)) g2_wallCount f4 f5 f6 g7_size f9 f8 p0 p1 p2 p3) (fun (E : String) (u2 : Unit) => postX E (f8)) g2_ways f3 p2 p3) (fun (E : String) (u1 : Unit) => postX E (f8)) g2_ways f3 p0 p1
def wpX10_shortest (post : Int32 → (Int32 × Int32 × (Nat → Int32) × (Nat → Int32) × (Nat → Int32)) → Prop) (g5_wallCount : Int32) (f6 : Nat → Int32) (f7 : Nat → Int32) (f8 : Nat → Int32) (f9 : Nat → Int32) (g10_size : Int32) (f12 : Nat → Int32) (g1_rows : Int32) (g1_columns : Int32) (f2 : Nat → Int32) (f3 : Nat → Int32) (f11 : Nat → Int32) (p0 : Int32) (p1 : Int32) : Prop :=
  wpX0_lay (fun (u1 : Int32 × Int32 × (Nat → Int32) × (Nat → Int32)) =>
   wpX0_settle (fun (r3 : Int32) (u2 : (Nat → Int32)) =>
    wpX10_orNone (fun (r5 : Int32) (u4 : Unit) =>
     post r5 (u1.1, u1.2.1, u1.2.2.1, u2, u1.2.2.2)) r3) u1.1 u1.2.1 u1.2.2.1 f3 u1.1 u1.2.1 0) g5_wallCount f6 f7 f8 f9 g10_size f12 g1_rows g1_columns f2 f11 p0 p1
def wpX10_least (post : Int32 → ((Nat → Int32) × Int32 × Int32 × (Nat → Int32) × (Nat → Int32)) → Prop) (postX : String → ((Nat → Int32) × Int32 × Int32 × (Nat → Int32) × (Nat → Int32)) → Prop) (g2_ways : Int32) (g2_wallCount : Int32) (f3 : Nat → Int32) (f4 : Nat → Int32) (f5 : Nat → Int32) (f6 : Nat → Int32) (g7_size : Int32) (f9 : Nat → Int32) (f8 : Nat → Int32) (g10_rows : Int32) (g10_columns : Int32) (f11 : Nat → Int32) (f12 : Nat → Int32) (p0 : Int32) (p1 : Int32) : Prop :=
  wpX10_needWay (fun (u1 : Unit) =>
   wpX10_needWay (fun (u2 : Unit) =>
    wpX10_shortest (fun (r4 : Int32) (u3 : Int32 × Int32 × (Nat → Int32) × (Nat → Int32) × (Nat → Int32)) =>
     post r4 (u3.2.2.2.2, u3.1, u3.2.1, u3.2.2.1, u3.2.2.2.1)) g2_wallCount f3 f4 f5 f6 g7_size f9 g10_rows g10_columns f11 f12 f8 p0 p1) (fun (E : String) (u2 : Unit) => postX E (f8, g10_rows, g10_columns, f11, f12)) g2_ways p1) (fun (E : String) (u1 : Unit) => postX E (f8, g10_rows, g10_columns, f11, f12)) g2_ways p0
def wpX10_first (post : Int32 → ((Nat → Int32) × Int32 × Int32 × (Nat → Int32) × (Nat → Int32)) → Prop) (postX : String → ((Nat → Int32) × Int32 × Int32 × (Nat → Int32) × (Nat → Int32)) → Prop) (g2_ways : Int32) (g2_wallCount : Int32) (f3 : Nat → Int32) (f4 : Nat → Int32) (f5 : Nat → Int32) (f6 : Nat → Int32) (g7_size : Int32) (f9 : Nat → Int32) (f8 : Nat → Int32) (g10_rows : Int32) (g10_columns : Int32) (f11 : Nat → Int32) (f12 : Nat → Int32) (p0 : Int32) (p1 : Int32) (p2 : Int32) : Prop :=
  wpX10_needWay (fun (u1 : Unit) =>
   wpX10_needWay (fun (u2 : Unit) =>
    ((-1) ≤ p2 →
     wpX10_shortest (fun (r4 : Int32) (u3 : Int32 × Int32 × (Nat → Int32) × (Nat → Int32) × (Nat → Int32)) =>
      (¬ r4 = (-1) →
       wpX0_firstWalk (fun (r6 : Int32) (u5 : Unit) =>
        post r6 (u3.2.2.2.2, u3.1, u3.2.1, u3.2.2.1, u3.2.2.2.1)) u3.1 u3.2.1 u3.2.2.2.1 p2) ∧
      (r4 = (-1) →
       post (-1) (u3.2.2.2.2, u3.1, u3.2.1, u3.2.2.1, u3.2.2.2.1))) g2_wallCount f3 f4 f5 f6 g7_size f9 g10_rows g10_columns f11 f12 f8 p0 p1) ∧
    (¬ (-1) ≤ p2 →
     postX "java/lang/IllegalArgumentException" (f8, g10_rows, g10_columns, f11, f12))) (fun (E : String) (u2 : Unit) => postX E (f8, g10_rows, g10_columns, f11, f12)) g2_ways p1) (fun (E : String) (u1 : Unit) => postX E (f8, g10_rows, g10_columns, f11, f12)) g2_ways p0
def wpX10_bars (post : Int32 → ((Nat → Int32) × Int32 × Int32 × (Nat → Int32) × (Nat → Int32)) → Prop) (postX : String → ((Nat → Int32) × Int32 × Int32 × (Nat → Int32) × (Nat → Int32)) → Prop) (g2_ways : Int32) (g2_wallCount : Int32) (f3 : Nat → Int32) (f4 : Nat → Int32) (f5 : Nat → Int32) (f6 : Nat → Int32) (g7_size : Int32) (f9 : Nat → Int32) (f8 : Nat → Int32) (g10_rows : Int32) (g10_columns : Int32) (f11 : Nat → Int32) (f12 : Nat → Int32) (p0 : Int32) (p1 : Int32) : Prop :=
  wpX10_needWay (fun (u1 : Unit) =>
   wpX10_needWay (fun (u2 : Unit) =>
    wpX10_shortest (fun (r4 : Int32) (u3 : Int32 × Int32 × (Nat → Int32) × (Nat → Int32) × (Nat → Int32)) =>
     (¬ r4 = (-1) →
      wpX0_farthestOfFirstWalk (fun (r6 : Int32) (u5 : Unit) =>
       post r6 (u3.2.2.2.2, u3.1, u3.2.1, u3.2.2.1, u3.2.2.2.1)) u3.1 u3.2.1 u3.2.2.1 u3.2.2.2.1) ∧
     (r4 = (-1) →
      post (-1) (u3.2.2.2.2, u3.1, u3.2.1, u3.2.2.1, u3.2.2.2.1))) g2_wallCount f3 f4 f5 f6 g7_size f9 g10_rows g10_columns f11 f12 f8 p0 p1) (fun (E : String) (u2 : Unit) => postX E (f8, g10_rows, g10_columns, f11, f12)) g2_ways p1) (fun (E : String) (u1 : Unit) => postX E (f8, g10_rows, g10_columns, f11, f12)) g2_ways p0
def wpX10_judge_43 (post : Int32 → (Int32 × (Nat → Int32)) → Prop) (postX : String → (Int32 × (Nat → Int32)) → Prop) (f2 : Nat → Int32) (g4_ways : Int32) (g4_wallCount : Int32) (f5 : Nat → Int32) (f6 : Nat → Int32) (f7 : Nat → Int32) (f8 : Nat → Int32) (g9_size : Int32) (f11 : Nat → Int32) (g1_size : Int32) (f10 : Nat → Int32) : Prop :=
  postX "java/lang/IllegalArgumentException" (g1_size, f10)
def wpX10_judge_80 (post : Int32 → (Int32 × (Nat → Int32)) → Prop) (postX : String → (Int32 × (Nat → Int32)) → Prop) (f2 : Nat → Int32) (g4_ways : Int32) (g4_wallCount : Int32) (f5 : Nat → Int32) (f6 : Nat → Int32) (f7 : Nat → Int32) (f8 : Nat → Int32) (g9_size : Int32) (f11 : Nat → Int32) : Nat → Int32 → (Nat → Int32) → Int32 → Int32 → Int32 → Int32 → Int32 → Int32 → Int32 → Prop
  | 0, _, _, _, _, _, _, _, _, _ => False
  | n_80 + 1, g1_size, f10, x1, x2, x3, x4, x5, x6, x7 =>
    (x4 ≤ x7 →
     post (-1) (g1_size, f10)) ∧
    (¬ x4 ≤ x7 →
     wpX8_stepAt (fun (r2 : Int32) (u1 : Unit) =>
      wpX10_manMoves (fun (r4 : Int32) (u3 : Unit) =>
       ∀ v5 : Int32, v5 = x5 + r4 →
       wpX10_dogMoves (fun (r7 : Int32) (u6 : Unit) =>
        ∀ v8 : Int32, v8 = x6 + r7 →
        wpX6_allows (fun (r10 : Int32) (u9 : (Nat → Int32)) =>
         (¬ r10 = 0 →
          ∀ v11 : Int32, v11 = x7 + 1 →
          wpX10_judge_80 post postX f2 g4_ways g4_wallCount f5 f6 f7 f8 g9_size f11 n_80 g1_size u9 x1 x2 x3 x4 v5 v8 v11) ∧
         (r10 = 0 →
          post x7 (g1_size, u9))) g4_ways g4_wallCount f5 f6 f7 f8 g9_size f11 f10 x1 v5 x2 v8 x3) r2) r2) f2 x7)
def wpX10_judge (post : Int32 → (Int32 × (Nat → Int32)) → Prop) (postX : String → (Int32 × (Nat → Int32)) → Prop) (f2 : Nat → Int32) (g4_ways : Int32) (g4_wallCount : Int32) (f5 : Nat → Int32) (f6 : Nat → Int32) (f7 : Nat → Int32) (f8 : Nat → Int32) (g9_size : Int32) (f11 : Nat → Int32) (g1_size : Int32) (f10 : Nat → Int32) (p0 : Int32) (p1 : Int32) (p2 : Int32) : Prop :=
  wpX10_needWay (fun (u1 : Unit) =>
   wpX10_needWay (fun (u2 : Unit) =>
    (p2 < 0 →
     wpX10_judge_43 post postX f2 g4_ways g4_wallCount f5 f6 f7 f8 g9_size f11 0 f10) ∧
    (¬ p2 < 0 →
     wpX8_holdsStepsUpTo (fun (r4 : Int32) (u3 : Unit) =>
      (¬ r4 = 0 →
       wpX6_allows (fun (r6 : Int32) (u5 : (Nat → Int32)) =>
        (¬ r6 = 0 →
         ∃ n_80 : Nat, wpX10_judge_80 post postX f2 g4_ways g4_wallCount f5 f6 f7 f8 g9_size f11 n_80 0 u5 p0 p1 p2 g1_size 0 0 0) ∧
        (r6 = 0 →
         post (-2) (0, u5))) g4_ways g4_wallCount f5 f6 f7 f8 g9_size f11 f10 p0 0 p1 0 p2) ∧
      (r4 = 0 →
       wpX10_judge_43 post postX f2 g4_ways g4_wallCount f5 f6 f7 f8 g9_size f11 0 f10)) f2 g1_size)) (fun (E : String) (u2 : Unit) => postX E (0, f10)) g4_ways p1) (fun (E : String) (u1 : Unit) => postX E (0, f10)) g4_ways p0
def wpX10_parts_21 (post : Int64 → ((Nat → Int32) × (Nat → Int32) × (Nat → Int32) × (Nat → Int32) × (Nat → Int32)) → Prop) (postX : String → ((Nat → Int32) × (Nat → Int32) × (Nat → Int32) × (Nat → Int32) × (Nat → Int32)) → Prop) (g2_ways : Int32) (f3 : Nat → Int32) (f4 : Nat → Int32) (f5 : Nat → Int32) (f7 : Nat → Int32) (f8 : Nat → Int32) (f9 : Nat → Int32) (f10 : Nat → Int32) (f11 : Nat → Int32) : Prop :=
  postX "java/lang/IllegalArgumentException" (f7, f8, f9, f10, f11)
def wpX10_parts (post : Int64 → ((Nat → Int32) × (Nat → Int32) × (Nat → Int32) × (Nat → Int32) × (Nat → Int32)) → Prop) (postX : String → ((Nat → Int32) × (Nat → Int32) × (Nat → Int32) × (Nat → Int32) × (Nat → Int32)) → Prop) (g2_ways : Int32) (f3 : Nat → Int32) (f4 : Nat → Int32) (f5 : Nat → Int32) (f7 : Nat → Int32) (f8 : Nat → Int32) (f9 : Nat → Int32) (f10 : Nat → Int32) (f11 : Nat → Int32) (p0 : Int32) (p1 : Int32) (p2 : Int32) : Prop :=
  wpX10_needWay (fun (u1 : Unit) =>
   wpX10_needWay (fun (u2 : Unit) =>
    (p2 < 1 →
     wpX10_parts_21 post postX g2_ways f3 f4 f5 f7 f8 f9 f10 f11) ∧
    (¬ p2 < 1 →
     (p2 ≤ 8 →
      wpX5_leastLead (fun (r4 : Int32) (u3 : (Nat → Int32) × (Nat → Int32) × (Nat → Int32) × (Nat → Int32) × (Nat → Int32)) =>
       post (r4.toInt64) (u3.1, u3.2.1, u3.2.2.1, u3.2.2.2.1, u3.2.2.2.2)) f3 f4 f5 f7 f8 f9 f10 f11 p0 p1 p2) ∧
     (¬ p2 ≤ 8 →
      wpX10_parts_21 post postX g2_ways f3 f4 f5 f7 f8 f9 f10 f11))) (fun (E : String) (u2 : Unit) => postX E (f7, f8, f9, f10, f11)) g2_ways p1) (fun (E : String) (u1 : Unit) => postX E (f7, f8, f9, f10, f11)) g2_ways p0
def wpX10_back (post : Int32 → ((Nat → Int32) × Int32 × Int32 × (Nat → Int32) × (Nat → Int32)) → Prop) (postX : String → ((Nat → Int32) × Int32 × Int32 × (Nat → Int32) × (Nat → Int32)) → Prop) (g2_ways : Int32) (g2_wallCount : Int32) (f3 : Nat → Int32) (f4 : Nat → Int32) (f5 : Nat → Int32) (f6 : Nat → Int32) (g7_size : Int32) (f9 : Nat → Int32) (f8 : Nat → Int32) (g10_rows : Int32) (g10_columns : Int32) (f11 : Nat → Int32) (f12 : Nat → Int32) (p0 : Int32) (p1 : Int32) : Prop :=
  wpX10_needWay (fun (u1 : Unit) =>
   wpX10_needWay (fun (u2 : Unit) =>
    wpX0_lay (fun (u3 : Int32 × Int32 × (Nat → Int32) × (Nat → Int32)) =>
     wpX0_leastGoingBack (fun (r5 : Int32) (u4 : (Nat → Int32)) =>
      wpX10_orNone (fun (r7 : Int32) (u6 : Unit) =>
       post r7 (u3.2.2.2, u3.1, u3.2.1, u3.2.2.1, u4)) r5) u3.1 u3.2.1 u3.2.2.1 f12) g2_wallCount f3 f4 f5 f6 g7_size f9 g10_rows g10_columns f11 f8 p0 p1) (fun (E : String) (u2 : Unit) => postX E (f8, g10_rows, g10_columns, f11, f12)) g2_ways p1) (fun (E : String) (u1 : Unit) => postX E (f8, g10_rows, g10_columns, f11, f12)) g2_ways p0
def wpX10_ring (post : Int32 → ((Nat → Int32) × Int32 × Int32 × (Nat → Int32) × (Nat → Int32)) → Prop) (postX : String → ((Nat → Int32) × Int32 × Int32 × (Nat → Int32) × (Nat → Int32)) → Prop) (g2_ways : Int32) (g2_wallCount : Int32) (f3 : Nat → Int32) (f4 : Nat → Int32) (f5 : Nat → Int32) (f6 : Nat → Int32) (g7_size : Int32) (f9 : Nat → Int32) (f8 : Nat → Int32) (g10_rows : Int32) (g10_columns : Int32) (f11 : Nat → Int32) (f12 : Nat → Int32) (p0 : Int32) (p1 : Int32) (p2 : Int32) : Prop :=
  wpX10_needWay (fun (u1 : Unit) =>
   wpX10_needWay (fun (u2 : Unit) =>
    wpX0_lay (fun (u3 : Int32 × Int32 × (Nat → Int32) × (Nat → Int32)) =>
     wpX0_leastRound (fun (r5 : Int32) (u4 : (Nat → Int32)) =>
      post r5 (u3.2.2.2, u3.1, u3.2.1, u3.2.2.1, u4)) u3.1 u3.2.1 u3.2.2.1 f12 p2) g2_wallCount f3 f4 f5 f6 g7_size f9 g10_rows g10_columns f11 f8 p0 p1) (fun (E : String) (u2 : Unit) => postX E (f8, g10_rows, g10_columns, f11, f12)) g2_ways p1) (fun (E : String) (u1 : Unit) => postX E (f8, g10_rows, g10_columns, f11, f12)) g2_ways p0
def wpX10_dogs (post : Int32 → ((Nat → Int32) × Int32 × Int32 × (Nat → Int32) × (Nat → Int32) × (Nat → Int32) × (Nat → Int32) × (Nat → Int32)) → Prop) (postX : String → ((Nat → Int32) × Int32 × Int32 × (Nat → Int32) × (Nat → Int32) × (Nat → Int32) × (Nat → Int32) × (Nat → Int32)) → Prop) (g2_ways : Int32) (g2_wallCount : Int32) (f3 : Nat → Int32) (f4 : Nat → Int32) (f5 : Nat → Int32) (f6 : Nat → Int32) (g7_size : Int32) (f9 : Nat → Int32) (f8 : Nat → Int32) (g10_ones : Int32) (g10_others : Int32) (f11 : Nat → Int32) (f12 : Nat → Int32) (f13 : Nat → Int32) (f14 : Nat → Int32) (f15 : Nat → Int32) (p0 : Int32) (p1 : Int32) (p2 : Int32) : Prop :=
  wpX10_needWay (fun (u1 : Unit) =>
   wpX10_needWay (fun (u2 : Unit) =>
    wpX10_needWay (fun (u3 : Unit) =>
     wpX4_leastLead (fun (r5 : Int32) (u4 : Int32 × Int32 × (Nat → Int32) × (Nat → Int32) × (Nat → Int32) × (Nat → Int32) × (Nat → Int32) × (Nat → Int32)) =>
      wpX10_orNone (fun (r7 : Int32) (u6 : Unit) =>
       post r7 (u4.2.2.2.2.2.2.2, u4.1, u4.2.1, u4.2.2.1, u4.2.2.2.1, u4.2.2.2.2.1, u4.2.2.2.2.2.1, u4.2.2.2.2.2.2.1)) r5) g2_wallCount f3 f4 f5 f6 g7_size f9 g10_ones g10_others f11 f12 f13 f14 f15 f8 p0 p1 p2 0) (fun (E : String) (u3 : Unit) => postX E (f8, g10_ones, g10_others, f11, f12, f13, f14, f15)) g2_ways p2) (fun (E : String) (u2 : Unit) => postX E (f8, g10_ones, g10_others, f11, f12, f13, f14, f15)) g2_ways p1) (fun (E : String) (u1 : Unit) => postX E (f8, g10_ones, g10_others, f11, f12, f13, f14, f15)) g2_ways p0
def wpX10_three (post : Int32 → ((Nat → Int32) × Int32 × Int32 × (Nat → Int32) × (Nat → Int32) × (Nat → Int32) × (Nat → Int32) × (Nat → Int32)) → Prop) (postX : String → ((Nat → Int32) × Int32 × Int32 × (Nat → Int32) × (Nat → Int32) × (Nat → Int32) × (Nat → Int32) × (Nat → Int32)) → Prop) (g2_ways : Int32) (g2_wallCount : Int32) (f3 : Nat → Int32) (f4 : Nat → Int32) (f5 : Nat → Int32) (f6 : Nat → Int32) (g7_size : Int32) (f9 : Nat → Int32) (f8 : Nat → Int32) (g10_ones : Int32) (g10_others : Int32) (f11 : Nat → Int32) (f12 : Nat → Int32) (f13 : Nat → Int32) (f14 : Nat → Int32) (f15 : Nat → Int32) (p0 : Int32) (p1 : Int32) (p2 : Int32) : Prop :=
  wpX10_needWay (fun (u1 : Unit) =>
   wpX10_needWay (fun (u2 : Unit) =>
    wpX10_needWay (fun (u3 : Unit) =>
     wpX4_leastLead (fun (r5 : Int32) (u4 : Int32 × Int32 × (Nat → Int32) × (Nat → Int32) × (Nat → Int32) × (Nat → Int32) × (Nat → Int32) × (Nat → Int32)) =>
      wpX10_orNone (fun (r7 : Int32) (u6 : Unit) =>
       post r7 (u4.2.2.2.2.2.2.2, u4.1, u4.2.1, u4.2.2.1, u4.2.2.2.1, u4.2.2.2.2.1, u4.2.2.2.2.2.1, u4.2.2.2.2.2.2.1)) r5) g2_wallCount f3 f4 f5 f6 g7_size f9 g10_ones g10_others f11 f12 f13 f14 f15 f8 p0 p1 p2 1) (fun (E : String) (u3 : Unit) => postX E (f8, g10_ones, g10_others, f11, f12, f13, f14, f15)) g2_ways p2) (fun (E : String) (u2 : Unit) => postX E (f8, g10_ones, g10_others, f11, f12, f13, f14, f15)) g2_ways p1) (fun (E : String) (u1 : Unit) => postX E (f8, g10_ones, g10_others, f11, f12, f13, f14, f15)) g2_ways p0
def wpX10_drag (post : Int64 → ((Nat → Int32) × Int32 × Int32 × (Nat → Int32) × (Nat → Int32)) → Prop) (postX : String → ((Nat → Int32) × Int32 × Int32 × (Nat → Int32) × (Nat → Int32)) → Prop) (g2_ways : Int32) (g2_wallCount : Int32) (f3 : Nat → Int32) (f4 : Nat → Int32) (f5 : Nat → Int32) (f6 : Nat → Int32) (g7_size : Int32) (f9 : Nat → Int32) (f8 : Nat → Int32) (g10_rows : Int32) (g10_columns : Int32) (f11 : Nat → Int32) (f12 : Nat → Int32) (p0 : Int32) (p1 : Int32) : Prop :=
  wpX10_needWay (fun (u1 : Unit) =>
   wpX10_needWay (fun (u2 : Unit) =>
    wpX0_lay (fun (u3 : Int32 × Int32 × (Nat → Int32) × (Nat → Int32)) =>
     wpX0_leastSum (fun (r5 : Int32) (u4 : (Nat → Int32)) =>
      wpX10_orNone (fun (r7 : Int32) (u6 : Unit) =>
       post (r7.toInt64) (u3.2.2.2, u3.1, u3.2.1, u3.2.2.1, u4)) r5) u3.1 u3.2.1 u3.2.2.1 f12) g2_wallCount f3 f4 f5 f6 g7_size f9 g10_rows g10_columns f11 f8 p0 p1) (fun (E : String) (u2 : Unit) => postX E (f8, g10_rows, g10_columns, f11, f12)) g2_ways p1) (fun (E : String) (u1 : Unit) => postX E (f8, g10_rows, g10_columns, f11, f12)) g2_ways p0
def wpX10_isIn (post : Int32 → Unit → Prop) (p0 : Int32) (p1 : Int32) : Prop :=
  (¬ ((p0 >>> (p1 &&& 31)) &&& 1) = 1 →
   post 0 ()) ∧
  (((p0 >>> (p1 &&& 31)) &&& 1) = 1 →
   post 1 ())
def wpX10_nearestOf_71 (k9 : (Nat → Int32) → Int32 → Int32 → (Nat → Int32) → (Nat → Int32) → Int32 → Int32 → Int32 → Int32 → Int32 → Prop) (post : Int32 → ((Nat → Int32) × Int32 × Int32 × (Nat → Int32) × (Nat → Int32)) → Prop) (g2_ways : Int32) (g2_wallCount : Int32) (f3 : Nat → Int32) (f4 : Nat → Int32) (f5 : Nat → Int32) (f6 : Nat → Int32) (g7_size : Int32) (f9 : Nat → Int32) (f8 : Nat → Int32) (g10_rows : Int32) (g10_columns : Int32) (f11 : Nat → Int32) (f12 : Nat → Int32) (x1 : Int32) (x2 : Int32) (x3 : Int32) (x4 : Int32) (x5 : Int32) : Prop :=
  ∀ v1 : Int32, v1 = x5 + 1 →
  k9 f8 g10_rows g10_columns f11 f12 x1 x2 x3 x4 v1
def wpX10_nearestOf_9 (post : Int32 → ((Nat → Int32) × Int32 × Int32 × (Nat → Int32) × (Nat → Int32)) → Prop) (g2_ways : Int32) (g2_wallCount : Int32) (f3 : Nat → Int32) (f4 : Nat → Int32) (f5 : Nat → Int32) (f6 : Nat → Int32) (g7_size : Int32) (f9 : Nat → Int32) : Nat → (Nat → Int32) → Int32 → Int32 → (Nat → Int32) → (Nat → Int32) → Int32 → Int32 → Int32 → Int32 → Int32 → Prop
  | 0, _, _, _, _, _, _, _, _, _, _ => False
  | n_9 + 1, f8, g10_rows, g10_columns, f11, f12, x1, x2, x3, x4, x5 =>
    (g2_ways ≤ x5 →
     post x3 (f8, g10_rows, g10_columns, f11, f12)) ∧
    (¬ g2_ways ≤ x5 →
     (x5 = x1 →
      wpX10_nearestOf_71 (fun y0 y1 y2 y3 y4 y5 y6 y7 y8 y9 => wpX10_nearestOf_9 post g2_ways g2_wallCount f3 f4 f5 f6 g7_size f9 n_9 y0 y1 y2 y3 y4 y5 y6 y7 y8 y9) post g2_ways g2_wallCount f3 f4 f5 f6 g7_size f9 f8 g10_rows g10_columns f11 f12 x1 x2 x3 x4 x5) ∧
     (¬ x5 = x1 →
      wpX10_isIn (fun (r2 : Int32) (u1 : Unit) =>
       (¬ r2 = 0 →
        wpX10_shortest (fun (r4 : Int32) (u3 : Int32 × Int32 × (Nat → Int32) × (Nat → Int32) × (Nat → Int32)) =>
         (r4 = (-1) →
          wpX10_nearestOf_71 (fun y0 y1 y2 y3 y4 y5 y6 y7 y8 y9 => wpX10_nearestOf_9 post g2_ways g2_wallCount f3 f4 f5 f6 g7_size f9 n_9 y0 y1 y2 y3 y4 y5 y6 y7 y8 y9) post g2_ways g2_wallCount f3 f4 f5 f6 g7_size f9 u3.2.2.2.2 u3.1 u3.2.1 u3.2.2.1 u3.2.2.2.1 x1 x2 x3 x4 x5) ∧
         (¬ r4 = (-1) →
          (x4 ≤ r4 →
           wpX10_nearestOf_71 (fun y0 y1 y2 y3 y4 y5 y6 y7 y8 y9 => wpX10_nearestOf_9 post g2_ways g2_wallCount f3 f4 f5 f6 g7_size f9 n_9 y0 y1 y2 y3 y4 y5 y6 y7 y8 y9) post g2_ways g2_wallCount f3 f4 f5 f6 g7_size f9 u3.2.2.2.2 u3.1 u3.2.1 u3.2.2.1 u3.2.2.2.1 x1 x2 x3 x4 x5) ∧
          (¬ x4 ≤ r4 →
           wpX10_nearestOf_71 (fun y0 y1 y2 y3 y4 y5 y6 y7 y8 y9 => wpX10_nearestOf_9 post g2_ways g2_wallCount f3 f4 f5 f6 g7_size f9 n_9 y0 y1 y2 y3 y4 y5 y6 y7 y8 y9) post g2_ways g2_wallCount f3 f4 f5 f6 g7_size f9 u3.2.2.2.2 u3.1 u3.2.1 u3.2.2.1 u3.2.2.2.1 x1 x2 x5 r4 x5))) g2_wallCount f3 f4 f5 f6 g7_size f9 g10_rows g10_columns f11 f12 f8 x1 x5) ∧
       (r2 = 0 →
        wpX10_nearestOf_71 (fun y0 y1 y2 y3 y4 y5 y6 y7 y8 y9 => wpX10_nearestOf_9 post g2_ways g2_wallCount f3 f4 f5 f6 g7_size f9 n_9 y0 y1 y2 y3 y4 y5 y6 y7 y8 y9) post g2_ways g2_wallCount f3 f4 f5 f6 g7_size f9 f8 g10_rows g10_columns f11 f12 x1 x2 x3 x4 x5)) x2 x5))
def wpX10_nearestOf (post : Int32 → ((Nat → Int32) × Int32 × Int32 × (Nat → Int32) × (Nat → Int32)) → Prop) (g2_ways : Int32) (g2_wallCount : Int32) (f3 : Nat → Int32) (f4 : Nat → Int32) (f5 : Nat → Int32) (f6 : Nat → Int32) (g7_size : Int32) (f9 : Nat → Int32) (f8 : Nat → Int32) (g10_rows : Int32) (g10_columns : Int32) (f11 : Nat → Int32) (f12 : Nat → Int32) (p0 : Int32) (p1 : Int32) : Prop :=
  ∃ n_9 : Nat, wpX10_nearestOf_9 post g2_ways g2_wallCount f3 f4 f5 f6 g7_size f9 n_9 f8 g10_rows g10_columns f11 f12 p0 p1 (-1) 2147483647 0
def wpX10_nearest (post : Int32 → ((Nat → Int32) × Int32 × Int32 × (Nat → Int32) × (Nat → Int32)) → Prop) (postX : String → ((Nat → Int32) × Int32 × Int32 × (Nat → Int32) × (Nat → Int32)) → Prop) (g2_ways : Int32) (g2_wallCount : Int32) (f3 : Nat → Int32) (f4 : Nat → Int32) (f5 : Nat → Int32) (f6 : Nat → Int32) (g7_size : Int32) (f9 : Nat → Int32) (f8 : Nat → Int32) (g10_rows : Int32) (g10_columns : Int32) (f11 : Nat → Int32) (f12 : Nat → Int32) (p0 : Int32) (p1 : Int32) : Prop :=
  wpX10_needWay (fun (u1 : Unit) =>
   wpX10_nearestOf (fun (r3 : Int32) (u2 : (Nat → Int32) × Int32 × Int32 × (Nat → Int32) × (Nat → Int32)) =>
    post r3 (u2.1, u2.2.1, u2.2.2.1, u2.2.2.2.1, u2.2.2.2.2)) g2_ways g2_wallCount f3 f4 f5 f6 g7_size f9 f8 g10_rows g10_columns f11 f12 p0 p1) (fun (E : String) (u1 : Unit) => postX E (f8, g10_rows, g10_columns, f11, f12)) g2_ways p0
def wpX10_greatestToOthers_62 (k5 : (Nat → Int32) → Int32 → Int32 → (Nat → Int32) → (Nat → Int32) → Int32 → Int32 → Int32 → Int32 → Prop) (post : Int32 → ((Nat → Int32) × Int32 × Int32 × (Nat → Int32) × (Nat → Int32)) → Prop) (g2_ways : Int32) (g2_wallCount : Int32) (f3 : Nat → Int32) (f4 : Nat → Int32) (f5 : Nat → Int32) (f6 : Nat → Int32) (g7_size : Int32) (f9 : Nat → Int32) (f8 : Nat → Int32) (g10_rows : Int32) (g10_columns : Int32) (f11 : Nat → Int32) (f12 : Nat → Int32) (x1 : Int32) (x2 : Int32) (x3 : Int32) (x4 : Int32) : Prop :=
  ∀ v1 : Int32, v1 = x4 + 1 →
  k5 f8 g10_rows g10_columns f11 f12 x1 x2 x3 v1
def wpX10_greatestToOthers_5 (post : Int32 → ((Nat → Int32) × Int32 × Int32 × (Nat → Int32) × (Nat → Int32)) → Prop) (g2_ways : Int32) (g2_wallCount : Int32) (f3 : Nat → Int32) (f4 : Nat → Int32) (f5 : Nat → Int32) (f6 : Nat → Int32) (g7_size : Int32) (f9 : Nat → Int32) : Nat → (Nat → Int32) → Int32 → Int32 → (Nat → Int32) → (Nat → Int32) → Int32 → Int32 → Int32 → Int32 → Prop
  | 0, _, _, _, _, _, _, _, _, _ => False
  | n_5 + 1, f8, g10_rows, g10_columns, f11, f12, x1, x2, x3, x4 =>
    (g2_ways ≤ x4 →
     post x3 (f8, g10_rows, g10_columns, f11, f12)) ∧
    (¬ g2_ways ≤ x4 →
     (x4 = x1 →
      wpX10_greatestToOthers_62 (fun y0 y1 y2 y3 y4 y5 y6 y7 y8 => wpX10_greatestToOthers_5 post g2_ways g2_wallCount f3 f4 f5 f6 g7_size f9 n_5 y0 y1 y2 y3 y4 y5 y6 y7 y8) post g2_ways g2_wallCount f3 f4 f5 f6 g7_size f9 f8 g10_rows g10_columns f11 f12 x1 x2 x3 x4) ∧
     (¬ x4 = x1 →
      wpX10_isIn (fun (r2 : Int32) (u1 : Unit) =>
       (¬ r2 = 0 →
        wpX10_shortest (fun (r4 : Int32) (u3 : Int32 × Int32 × (Nat → Int32) × (Nat → Int32) × (Nat → Int32)) =>
         (¬ r4 = (-1) →
          ∀ v5 : Int32, v5 = iMax x3 r4 →
          wpX10_greatestToOthers_62 (fun y0 y1 y2 y3 y4 y5 y6 y7 y8 => wpX10_greatestToOthers_5 post g2_ways g2_wallCount f3 f4 f5 f6 g7_size f9 n_5 y0 y1 y2 y3 y4 y5 y6 y7 y8) post g2_ways g2_wallCount f3 f4 f5 f6 g7_size f9 u3.2.2.2.2 u3.1 u3.2.1 u3.2.2.1 u3.2.2.2.1 x1 x2 v5 x4) ∧
         (r4 = (-1) →
          post (-1) (u3.2.2.2.2, u3.1, u3.2.1, u3.2.2.1, u3.2.2.2.1))) g2_wallCount f3 f4 f5 f6 g7_size f9 g10_rows g10_columns f11 f12 f8 x1 x4) ∧
       (r2 = 0 →
        wpX10_greatestToOthers_62 (fun y0 y1 y2 y3 y4 y5 y6 y7 y8 => wpX10_greatestToOthers_5 post g2_ways g2_wallCount f3 f4 f5 f6 g7_size f9 n_5 y0 y1 y2 y3 y4 y5 y6 y7 y8) post g2_ways g2_wallCount f3 f4 f5 f6 g7_size f9 f8 g10_rows g10_columns f11 f12 x1 x2 x3 x4)) x2 x4))
def wpX10_greatestToOthers (post : Int32 → ((Nat → Int32) × Int32 × Int32 × (Nat → Int32) × (Nat → Int32)) → Prop) (g2_ways : Int32) (g2_wallCount : Int32) (f3 : Nat → Int32) (f4 : Nat → Int32) (f5 : Nat → Int32) (f6 : Nat → Int32) (g7_size : Int32) (f9 : Nat → Int32) (f8 : Nat → Int32) (g10_rows : Int32) (g10_columns : Int32) (f11 : Nat → Int32) (f12 : Nat → Int32) (p0 : Int32) (p1 : Int32) : Prop :=
  ∃ n_5 : Nat, wpX10_greatestToOthers_5 post g2_ways g2_wallCount f3 f4 f5 f6 g7_size f9 n_5 f8 g10_rows g10_columns f11 f12 p0 p1 0 0
def wpX10_middle_62 (k8 : (Nat → Int32) → Int32 → Int32 → (Nat → Int32) → (Nat → Int32) → Int32 → Int32 → Int32 → Int32 → Prop) (post : Int32 → ((Nat → Int32) × Int32 × Int32 × (Nat → Int32) × (Nat → Int32)) → Prop) (g2_ways : Int32) (g2_wallCount : Int32) (f3 : Nat → Int32) (f4 : Nat → Int32) (f5 : Nat → Int32) (f6 : Nat → Int32) (g7_size : Int32) (f9 : Nat → Int32) (f8 : Nat → Int32) (g10_rows : Int32) (g10_columns : Int32) (f11 : Nat → Int32) (f12 : Nat → Int32) (x1 : Int32) (x2 : Int32) (x3 : Int32) (x4 : Int32) : Prop :=
  ∀ v1 : Int32, v1 = x4 + 1 →
  k8 f8 g10_rows g10_columns f11 f12 x1 x2 x3 v1
def wpX10_middle_8 (post : Int32 → ((Nat → Int32) × Int32 × Int32 × (Nat → Int32) × (Nat → Int32)) → Prop) (g2_ways : Int32) (g2_wallCount : Int32) (f3 : Nat → Int32) (f4 : Nat → Int32) (f5 : Nat → Int32) (f6 : Nat → Int32) (g7_size : Int32) (f9 : Nat → Int32) : Nat → (Nat → Int32) → Int32 → Int32 → (Nat → Int32) → (Nat → Int32) → Int32 → Int32 → Int32 → Int32 → Prop
  | 0, _, _, _, _, _, _, _, _, _ => False
  | n_8 + 1, f8, g10_rows, g10_columns, f11, f12, x1, x2, x3, x4 =>
    (g2_ways ≤ x4 →
     post x2 (f8, g10_rows, g10_columns, f11, f12)) ∧
    (¬ g2_ways ≤ x4 →
     wpX10_isIn (fun (r2 : Int32) (u1 : Unit) =>
      (¬ r2 = 0 →
       wpX10_greatestToOthers (fun (r4 : Int32) (u3 : (Nat → Int32) × Int32 × Int32 × (Nat → Int32) × (Nat → Int32)) =>
        (r4 = (-1) →
         wpX10_middle_62 (fun y0 y1 y2 y3 y4 y5 y6 y7 y8 => wpX10_middle_8 post g2_ways g2_wallCount f3 f4 f5 f6 g7_size f9 n_8 y0 y1 y2 y3 y4 y5 y6 y7 y8) post g2_ways g2_wallCount f3 f4 f5 f6 g7_size f9 u3.1 u3.2.1 u3.2.2.1 u3.2.2.2.1 u3.2.2.2.2 x1 x2 x3 x4) ∧
        (¬ r4 = (-1) →
         (x3 ≤ r4 →
          wpX10_middle_62 (fun y0 y1 y2 y3 y4 y5 y6 y7 y8 => wpX10_middle_8 post g2_ways g2_wallCount f3 f4 f5 f6 g7_size f9 n_8 y0 y1 y2 y3 y4 y5 y6 y7 y8) post g2_ways g2_wallCount f3 f4 f5 f6 g7_size f9 u3.1 u3.2.1 u3.2.2.1 u3.2.2.2.1 u3.2.2.2.2 x1 x2 x3 x4) ∧
         (¬ x3 ≤ r4 →
          wpX10_middle_62 (fun y0 y1 y2 y3 y4 y5 y6 y7 y8 => wpX10_middle_8 post g2_ways g2_wallCount f3 f4 f5 f6 g7_size f9 n_8 y0 y1 y2 y3 y4 y5 y6 y7 y8) post g2_ways g2_wallCount f3 f4 f5 f6 g7_size f9 u3.1 u3.2.1 u3.2.2.1 u3.2.2.2.1 u3.2.2.2.2 x1 x4 r4 x4))) g2_ways g2_wallCount f3 f4 f5 f6 g7_size f9 f8 g10_rows g10_columns f11 f12 x4 x1) ∧
      (r2 = 0 →
       wpX10_middle_62 (fun y0 y1 y2 y3 y4 y5 y6 y7 y8 => wpX10_middle_8 post g2_ways g2_wallCount f3 f4 f5 f6 g7_size f9 n_8 y0 y1 y2 y3 y4 y5 y6 y7 y8) post g2_ways g2_wallCount f3 f4 f5 f6 g7_size f9 f8 g10_rows g10_columns f11 f12 x1 x2 x3 x4)) x1 x4)
def wpX10_middle (post : Int32 → ((Nat → Int32) × Int32 × Int32 × (Nat → Int32) × (Nat → Int32)) → Prop) (g2_ways : Int32) (g2_wallCount : Int32) (f3 : Nat → Int32) (f4 : Nat → Int32) (f5 : Nat → Int32) (f6 : Nat → Int32) (g7_size : Int32) (f9 : Nat → Int32) (f8 : Nat → Int32) (g10_rows : Int32) (g10_columns : Int32) (f11 : Nat → Int32) (f12 : Nat → Int32) (p0 : Int32) : Prop :=
  ∃ n_8 : Nat, wpX10_middle_8 post g2_ways g2_wallCount f3 f4 f5 f6 g7_size f9 n_8 f8 g10_rows g10_columns f11 f12 p0 (-1) 2147483647 0
def wpX10_fewer (post : Int32 → ((Nat → Int32) × (Nat → Int32)) → Prop) (postX : String → ((Nat → Int32) × (Nat → Int32)) → Prop) (g2_ways : Int32) (f3 : Nat → Int32) (f4 : Nat → Int32) (f5 : Nat → Int32) (f7 : Nat → Int32) (f8 : Nat → Int32) (p0 : Int32) (p1 : Int32) : Prop :=
  wpX10_needWay (fun (u1 : Unit) =>
   (0 ≤ p1 →
    wpX9_fewestCorners (fun (r3 : Int32) (u2 : (Nat → Int32) × (Nat → Int32)) =>
     post r3 (u2.1, u2.2)) f3 f4 f5 f7 f8 p0 p1) ∧
   (¬ 0 ≤ p1 →
    postX "java/lang/IllegalArgumentException" (f7, f8))) (fun (E : String) (u1 : Unit) => postX E (f7, f8)) g2_ways p0
def wpX10_greatestOfPairs_82 (k23 : (Nat → Int32) → Int32 → Int32 → (Nat → Int32) → (Nat → Int32) → Int32 → Int32 → Int32 → Int32 → Prop) (k4 : (Nat → Int32) → Int32 → Int32 → (Nat → Int32) → (Nat → Int32) → Int32 → Int32 → Int32 → Prop) (post : Int32 → ((Nat → Int32) × Int32 × Int32 × (Nat → Int32) × (Nat → Int32)) → Prop) (g2_ways : Int32) (g2_wallCount : Int32) (f3 : Nat → Int32) (f4 : Nat → Int32) (f5 : Nat → Int32) (f6 : Nat → Int32) (g7_size : Int32) (f9 : Nat → Int32) (f8 : Nat → Int32) (g10_rows : Int32) (g10_columns : Int32) (f11 : Nat → Int32) (f12 : Nat → Int32) (x1 : Int32) (x2 : Int32) (x3 : Int32) (x4 : Int32) : Prop :=
  ∀ v1 : Int32, v1 = x4 + 1 →
  k23 f8 g10_rows g10_columns f11 f12 x1 x2 x3 v1
def wpX10_greatestOfPairs_23 (k4 : (Nat → Int32) → Int32 → Int32 → (Nat → Int32) → (Nat → Int32) → Int32 → Int32 → Int32 → Prop) (post : Int32 → ((Nat → Int32) × Int32 × Int32 × (Nat → Int32) × (Nat → Int32)) → Prop) (g2_ways : Int32) (g2_wallCount : Int32) (f3 : Nat → Int32) (f4 : Nat → Int32) (f5 : Nat → Int32) (f6 : Nat → Int32) (g7_size : Int32) (f9 : Nat → Int32) : Nat → (Nat → Int32) → Int32 → Int32 → (Nat → Int32) → (Nat → Int32) → Int32 → Int32 → Int32 → Int32 → Prop
  | 0, _, _, _, _, _, _, _, _, _ => False
  | n_23 + 1, f8, g10_rows, g10_columns, f11, f12, x1, x2, x3, x4 =>
    (g2_ways ≤ x4 →
     ∀ v1 : Int32, v1 = x3 + 1 →
     k4 f8 g10_rows g10_columns f11 f12 x1 x2 v1) ∧
    (¬ g2_ways ≤ x4 →
     wpX10_isIn (fun (r3 : Int32) (u2 : Unit) =>
      (r3 = 0 →
       wpX10_greatestOfPairs_82 (fun y0 y1 y2 y3 y4 y5 y6 y7 y8 => wpX10_greatestOfPairs_23 k4 post g2_ways g2_wallCount f3 f4 f5 f6 g7_size f9 n_23 y0 y1 y2 y3 y4 y5 y6 y7 y8) k4 post g2_ways g2_wallCount f3 f4 f5 f6 g7_size f9 f8 g10_rows g10_columns f11 f12 x1 x2 x3 x4) ∧
      (¬ r3 = 0 →
       wpX10_isIn (fun (r5 : Int32) (u4 : Unit) =>
        (¬ r5 = 0 →
         wpX10_shortest (fun (r7 : Int32) (u6 : Int32 × Int32 × (Nat → Int32) × (Nat → Int32) × (Nat → Int32)) =>
          (¬ r7 = (-1) →
           ∀ v8 : Int32, v8 = iMax x2 r7 →
           wpX10_greatestOfPairs_82 (fun y0 y1 y2 y3 y4 y5 y6 y7 y8 => wpX10_greatestOfPairs_23 k4 post g2_ways g2_wallCount f3 f4 f5 f6 g7_size f9 n_23 y0 y1 y2 y3 y4 y5 y6 y7 y8) k4 post g2_ways g2_wallCount f3 f4 f5 f6 g7_size f9 u6.2.2.2.2 u6.1 u6.2.1 u6.2.2.1 u6.2.2.2.1 x1 v8 x3 x4) ∧
          (r7 = (-1) →
           post (-1) (u6.2.2.2.2, u6.1, u6.2.1, u6.2.2.1, u6.2.2.2.1))) g2_wallCount f3 f4 f5 f6 g7_size f9 g10_rows g10_columns f11 f12 f8 x3 x4) ∧
        (r5 = 0 →
         wpX10_greatestOfPairs_82 (fun y0 y1 y2 y3 y4 y5 y6 y7 y8 => wpX10_greatestOfPairs_23 k4 post g2_ways g2_wallCount f3 f4 f5 f6 g7_size f9 n_23 y0 y1 y2 y3 y4 y5 y6 y7 y8) k4 post g2_ways g2_wallCount f3 f4 f5 f6 g7_size f9 f8 g10_rows g10_columns f11 f12 x1 x2 x3 x4)) x1 x4)) x1 x3)
def wpX10_greatestOfPairs_4 (post : Int32 → ((Nat → Int32) × Int32 × Int32 × (Nat → Int32) × (Nat → Int32)) → Prop) (g2_ways : Int32) (g2_wallCount : Int32) (f3 : Nat → Int32) (f4 : Nat → Int32) (f5 : Nat → Int32) (f6 : Nat → Int32) (g7_size : Int32) (f9 : Nat → Int32) : Nat → (Nat → Int32) → Int32 → Int32 → (Nat → Int32) → (Nat → Int32) → Int32 → Int32 → Int32 → Prop
  | 0, _, _, _, _, _, _, _, _ => False
  | n_4 + 1, f8, g10_rows, g10_columns, f11, f12, x1, x2, x3 =>
    (g2_ways ≤ x3 →
     post x2 (f8, g10_rows, g10_columns, f11, f12)) ∧
    (¬ g2_ways ≤ x3 →
     ∀ v1 : Int32, v1 = x3 + 1 →
     ∃ n_23 : Nat, wpX10_greatestOfPairs_23 (fun y0 y1 y2 y3 y4 y5 y6 y7 => wpX10_greatestOfPairs_4 post g2_ways g2_wallCount f3 f4 f5 f6 g7_size f9 n_4 y0 y1 y2 y3 y4 y5 y6 y7) post g2_ways g2_wallCount f3 f4 f5 f6 g7_size f9 n_23 f8 g10_rows g10_columns f11 f12 x1 x2 x3 v1)
def wpX10_greatestOfPairs (post : Int32 → ((Nat → Int32) × Int32 × Int32 × (Nat → Int32) × (Nat → Int32)) → Prop) (g2_ways : Int32) (g2_wallCount : Int32) (f3 : Nat → Int32) (f4 : Nat → Int32) (f5 : Nat → Int32) (f6 : Nat → Int32) (g7_size : Int32) (f9 : Nat → Int32) (f8 : Nat → Int32) (g10_rows : Int32) (g10_columns : Int32) (f11 : Nat → Int32) (f12 : Nat → Int32) (p0 : Int32) : Prop :=
  ∃ n_4 : Nat, wpX10_greatestOfPairs_4 post g2_ways g2_wallCount f3 f4 f5 f6 g7_size f9 n_4 f8 g10_rows g10_columns f11 f12 p0 0 0
def wpX10_own (post : Int32 → ((Nat → Int32) × Int32 × Int32 × (Nat → Int32) × (Nat → Int32)) → Prop) (g2_ways : Int32) (g2_wallCount : Int32) (f3 : Nat → Int32) (f4 : Nat → Int32) (f5 : Nat → Int32) (f6 : Nat → Int32) (g7_size : Int32) (f9 : Nat → Int32) (f8 : Nat → Int32) (g10_rows : Int32) (g10_columns : Int32) (f11 : Nat → Int32) (f12 : Nat → Int32) (p0 : Int32) : Prop :=
  wpX10_greatestOfPairs (fun (r2 : Int32) (u1 : (Nat → Int32) × Int32 × Int32 × (Nat → Int32) × (Nat → Int32)) =>
   post r2 (u1.1, u1.2.1, u1.2.2.1, u1.2.2.2.1, u1.2.2.2.2)) g2_ways g2_wallCount f3 f4 f5 f6 g7_size f9 f8 g10_rows g10_columns f11 f12 p0
def wpX10_forged (post : Int32 → ((Nat → Int32) × Int32 × Int32 × (Nat → Int32) × (Nat → Int32)) → Prop) (postX : String → ((Nat → Int32) × Int32 × Int32 × (Nat → Int32) × (Nat → Int32)) → Prop) (g2_ways : Int32) (g2_wallCount : Int32) (f3 : Nat → Int32) (f4 : Nat → Int32) (f5 : Nat → Int32) (f6 : Nat → Int32) (g7_size : Int32) (f9 : Nat → Int32) (f8 : Nat → Int32) (g10_rows : Int32) (g10_columns : Int32) (f11 : Nat → Int32) (f12 : Nat → Int32) (p0 : Int32) (p1 : Int32) : Prop :=
  wpX10_needWay (fun (u1 : Unit) =>
   wpX10_greatestOfPairs (fun (r3 : Int32) (u2 : (Nat → Int32) × Int32 × Int32 × (Nat → Int32) × (Nat → Int32)) =>
    wpX10_nearestOf (fun (r5 : Int32) (u4 : (Nat → Int32) × Int32 × Int32 × (Nat → Int32) × (Nat → Int32)) =>
     (r3 = (-1) →
      post 1 (u4.1, u4.2.1, u4.2.2.1, u4.2.2.2.1, u4.2.2.2.2)) ∧
     (¬ r3 = (-1) →
      (r5 = (-1) →
       post 1 (u4.1, u4.2.1, u4.2.2.1, u4.2.2.2.1, u4.2.2.2.2)) ∧
      (¬ r5 = (-1) →
       wpX10_shortest (fun (r7 : Int32) (u6 : Int32 × Int32 × (Nat → Int32) × (Nat → Int32) × (Nat → Int32)) =>
        (r7 ≤ r3 →
         post 0 (u6.2.2.2.2, u6.1, u6.2.1, u6.2.2.1, u6.2.2.2.1)) ∧
        (¬ r7 ≤ r3 →
         post 1 (u6.2.2.2.2, u6.1, u6.2.1, u6.2.2.1, u6.2.2.2.1))) g2_wallCount f3 f4 f5 f6 g7_size f9 u4.2.1 u4.2.2.1 u4.2.2.2.1 u4.2.2.2.2 u4.1 p0 r5))) g2_ways g2_wallCount f3 f4 f5 f6 g7_size f9 u2.1 u2.2.1 u2.2.2.1 u2.2.2.2.1 u2.2.2.2.2 p0 p1) g2_ways g2_wallCount f3 f4 f5 f6 g7_size f9 f8 g10_rows g10_columns f11 f12 p1) (fun (E : String) (u1 : Unit) => postX E (f8, g10_rows, g10_columns, f11, f12)) g2_ways p0
def wpX10_isOutside (post : Int32 → Unit → Prop) (p0 : Int32) (p1 : Int32) : Prop :=
  (p0 < 0 →
   post 1 ()) ∧
  (¬ p0 < 0 →
   (p0 ≤ p1 →
    post 0 ()) ∧
   (¬ p0 ≤ p1 →
    post 1 ()))
def wpX10_mark_31 (post : Int32 → (Int32 × (Nat → Int32) × (Nat → Int32) × (Nat → Int32) × (Nat → Int32)) → Prop) (postX : String → (Int32 × (Nat → Int32) × (Nat → Int32) × (Nat → Int32) × (Nat → Int32)) → Prop) (g2_size : Int32) (f3 : Nat → Int32) (f4 : Nat → Int32) (f5 : Nat → Int32) (f6 : Nat → Int32) : Prop :=
  postX "java/lang/IllegalArgumentException" (g2_size, f3, f4, f5, f6)
def wpX10_mark (post : Int32 → (Int32 × (Nat → Int32) × (Nat → Int32) × (Nat → Int32) × (Nat → Int32)) → Prop) (postX : String → (Int32 × (Nat → Int32) × (Nat → Int32) × (Nat → Int32) × (Nat → Int32)) → Prop) (g2_size : Int32) (f3 : Nat → Int32) (f4 : Nat → Int32) (f5 : Nat → Int32) (f6 : Nat → Int32) (p0 : Int32) (p1 : Int32) (p2 : Int32) (p3 : Int32) : Prop :=
  wpX10_isOutside (fun (r2 : Int32) (u1 : Unit) =>
   (¬ r2 = 0 →
    wpX10_mark_31 post postX g2_size f3 f4 f5 f6) ∧
   (r2 = 0 →
    wpX10_isOutside (fun (r4 : Int32) (u3 : Unit) =>
     (¬ r4 = 0 →
      wpX10_mark_31 post postX g2_size f3 f4 f5 f6) ∧
     (r4 = 0 →
      wpX10_isOutside (fun (r6 : Int32) (u5 : Unit) =>
       (r6 = 0 →
        (g2_size < 20 →
         wpX3_add (fun (r8 : Int32) (u7 : Int32 × (Nat → Int32) × (Nat → Int32) × (Nat → Int32) × (Nat → Int32)) =>
          post r8 (u7.1, u7.2.1, u7.2.2.1, u7.2.2.2.1, u7.2.2.2.2)) g2_size f3 f4 f5 f6 p0 p1 p2 p3) ∧
        (¬ g2_size < 20 →
         postX "java/lang/UnsupportedOperationException" (g2_size, f3, f4, f5, f6))) ∧
       (¬ r6 = 0 →
        wpX10_mark_31 post postX g2_size f3 f4 f5 f6)) p3 999)) p2 999)) p1 999
def wpX10_unmark (post : Int32 → Int32 → Prop) (g2_size : Int32) : Prop :=
  (¬ g2_size = 0 →
   ∀ v1 : Int32, v1 = g2_size - 1 →
   post v1 (v1)) ∧
  (g2_size = 0 →
   post (-1) (g2_size))
def wpX10_needed (post : Int32 → Unit → Prop) (g2_size : Int32) (f3 : Nat → Int32) (f4 : Nat → Int32) (f5 : Nat → Int32) (f6 : Nat → Int32) : Prop :=
  wpX3_greatestOfOneMinute (fun (r2 : Int32) (u1 : Unit) =>
   post r2 ()) g2_size f3 f4 f5 f6
def wpX10_fits_19 (post : Int32 → Unit → Prop) (postX : String → Unit → Prop) (g2_size : Int32) (f3 : Nat → Int32) (f4 : Nat → Int32) (f5 : Nat → Int32) (f6 : Nat → Int32) : Prop :=
  postX "java/lang/IllegalArgumentException" ()
def wpX10_fits (post : Int32 → Unit → Prop) (postX : String → Unit → Prop) (g2_size : Int32) (f3 : Nat → Int32) (f4 : Nat → Int32) (f5 : Nat → Int32) (f6 : Nat → Int32) (p0 : Int32) (p1 : Int32) (p2 : Int32) : Prop :=
  wpX10_isOutside (fun (r2 : Int32) (u1 : Unit) =>
   (¬ r2 = 0 →
    wpX10_fits_19 post postX g2_size f3 f4 f5 f6 ) ∧
   (r2 = 0 →
    wpX10_isOutside (fun (r4 : Int32) (u3 : Unit) =>
     (r4 = 0 →
      (p2 = 0 →
       wpX3_countMisfits (fun (r6 : Int32) (u5 : Unit) =>
        post r6 ()) g2_size f3 f4 f5 f6 p0 p1) ∧
      (¬ p2 = 0 →
       wpX3_firstMisfit (fun (r8 : Int32) (u7 : Unit) =>
        post r8 ()) g2_size f3 f4 f5 f6 p0 p1)) ∧
     (¬ r4 = 0 →
      wpX10_fits_19 post postX g2_size f3 f4 f5 f6 )) p1 99)) p0 999
def wpX10_begin (post : Int32 → ((Nat → Int32) × Int32 × Int32 × Int32 × Int32 × Int32 × Int32 × Int32 × Int32 × Int32) → Prop) (postX : String → ((Nat → Int32) × Int32 × Int32 × Int32 × Int32 × Int32 × Int32 × Int32 × Int32 × Int32) → Prop) (g2_ways : Int32) (g2_wallCount : Int32) (f3 : Nat → Int32) (f4 : Nat → Int32) (f5 : Nat → Int32) (f6 : Nat → Int32) (g7_size : Int32) (f9 : Nat → Int32) (f8 : Nat → Int32) (g10_underWay : Int32) (g10_way : Int32) (g10_other : Int32) (g10_lead : Int32) (g10_man : Int32) (g10_dog : Int32) (g10_gone : Int32) (g10_greatest : Int32) (g10_remembered : Int32) (p0 : Int32) (p1 : Int32) (p2 : Int32) : Prop :=
  wpX10_needWay (fun (u1 : Unit) =>
   wpX10_needWay (fun (u2 : Unit) =>
    (0 ≤ p2 →
     wpX6_allows (fun (r4 : Int32) (u3 : (Nat → Int32)) =>
      (¬ r4 = 0 →
       wpX1_distance (fun (r6 : Int32) (u5 : Unit) =>
        wpX7_start (fun (u7 : Int32 × Int32 × Int32 × Int32 × Int32 × Int32 × Int32 × Int32 × Int32) =>
         post 1 (u3, u7.1, u7.2.1, u7.2.2.1, u7.2.2.2.1, u7.2.2.2.2.1, u7.2.2.2.2.2.1, u7.2.2.2.2.2.2.1, u7.2.2.2.2.2.2.2.1, u7.2.2.2.2.2.2.2.2)) g10_underWay g10_way g10_other g10_lead g10_man g10_dog g10_gone g10_greatest g10_remembered p0 p1 p2 r6) f4 f5 p0 0 p1 0) ∧
      (r4 = 0 →
       post 0 (u3, g10_underWay, g10_way, g10_other, g10_lead, g10_man, g10_dog, g10_gone, g10_greatest, g10_remembered))) g2_ways g2_wallCount f3 f4 f5 f6 g7_size f9 f8 p0 0 p1 0 p2) ∧
    (¬ 0 ≤ p2 →
     postX "java/lang/IllegalArgumentException" (f8, g10_underWay, g10_way, g10_other, g10_lead, g10_man, g10_dog, g10_gone, g10_greatest, g10_remembered))) (fun (E : String) (u2 : Unit) => postX E (f8, g10_underWay, g10_way, g10_other, g10_lead, g10_man, g10_dog, g10_gone, g10_greatest, g10_remembered)) g2_ways p1) (fun (E : String) (u1 : Unit) => postX E (f8, g10_underWay, g10_way, g10_other, g10_lead, g10_man, g10_dog, g10_gone, g10_greatest, g10_remembered)) g2_ways p0
def wpX10_step_10 (post : Int32 → (Int32 × Int32 × Int32 × Int32 × Int32 × (Nat → Int32) × (Nat → Int32) × (Nat → Int32)) → Prop) (postX : String → (Int32 × Int32 × Int32 × Int32 × Int32 × (Nat → Int32) × (Nat → Int32) × (Nat → Int32)) → Prop) (g2_underWay : Int32) (g2_way : Int32) (g2_other : Int32) (g2_lead : Int32) (g5_ways : Int32) (g5_wallCount : Int32) (f6 : Nat → Int32) (f7 : Nat → Int32) (f8 : Nat → Int32) (f9 : Nat → Int32) (g10_size : Int32) (f12 : Nat → Int32) (g2_man : Int32) (g2_dog : Int32) (g2_gone : Int32) (g2_greatest : Int32) (g2_remembered : Int32) (f3 : Nat → Int32) (f4 : Nat → Int32) (f11 : Nat → Int32) : Prop :=
  postX "java/lang/IllegalArgumentException" (g2_man, g2_dog, g2_gone, g2_greatest, g2_remembered, f3, f4, f11)
def wpX10_step (post : Int32 → (Int32 × Int32 × Int32 × Int32 × Int32 × (Nat → Int32) × (Nat → Int32) × (Nat → Int32)) → Prop) (postX : String → (Int32 × Int32 × Int32 × Int32 × Int32 × (Nat → Int32) × (Nat → Int32) × (Nat → Int32)) → Prop) (g2_underWay : Int32) (g2_way : Int32) (g2_other : Int32) (g2_lead : Int32) (g5_ways : Int32) (g5_wallCount : Int32) (f6 : Nat → Int32) (f7 : Nat → Int32) (f8 : Nat → Int32) (f9 : Nat → Int32) (g10_size : Int32) (f12 : Nat → Int32) (g2_man : Int32) (g2_dog : Int32) (g2_gone : Int32) (g2_greatest : Int32) (g2_remembered : Int32) (f3 : Nat → Int32) (f4 : Nat → Int32) (f11 : Nat → Int32) (p0 : Int32) : Prop :=
  (p0 < 1 →
   wpX10_step_10 post postX g2_underWay g2_way g2_other g2_lead g5_ways g5_wallCount f6 f7 f8 f9 g10_size f12 g2_man g2_dog g2_gone g2_greatest g2_remembered f3 f4 f11) ∧
  (¬ p0 < 1 →
   (p0 ≤ 3 →
    wpX6_canGo (fun (r2 : Int32) (u1 : (Nat → Int32)) =>
     (¬ r2 = 0 →
      wpX6_go (fun (r4 : Int32) (u3 : Int32 × Int32 × Int32 × Int32 × Int32 × (Nat → Int32) × (Nat → Int32)) =>
       post r4 (u3.1, u3.2.1, u3.2.2.1, u3.2.2.2.1, u3.2.2.2.2.1, u3.2.2.2.2.2.1, u3.2.2.2.2.2.2, u1)) g2_way g2_other f7 f8 g2_man g2_dog g2_gone g2_greatest g2_remembered f3 f4 p0) ∧
     (r2 = 0 →
      post (-1) (g2_man, g2_dog, g2_gone, g2_greatest, g2_remembered, f3, f4, u1))) g2_underWay g2_way g2_other g2_lead g2_man g2_dog g5_ways g5_wallCount f6 f7 f8 f9 g10_size f12 f11 p0) ∧
   (¬ p0 ≤ 3 →
    wpX10_step_10 post postX g2_underWay g2_way g2_other g2_lead g5_ways g5_wallCount f6 f7 f8 f9 g10_size f12 g2_man g2_dog g2_gone g2_greatest g2_remembered f3 f4 f11))
def wpX10_undo (post : Int32 → (Int32 × Int32 × Int32 × Int32 × Int32) → Prop) (g2_underWay : Int32) (f3 : Nat → Int32) (f4 : Nat → Int32) (g2_man : Int32) (g2_dog : Int32) (g2_gone : Int32) (g2_greatest : Int32) (g2_remembered : Int32) : Prop :=
  wpX7_takeBack (fun (r2 : Int32) (u1 : Int32 × Int32 × Int32 × Int32 × Int32) =>
   post r2 (u1.1, u1.2.1, u1.2.2.1, u1.2.2.2.1, u1.2.2.2.2)) g2_underWay f3 f4 g2_man g2_dog g2_gone g2_greatest g2_remembered
def wpX10_live_11 (post : Int32 → (Int32 × Int32 × Int32 × Int32 × Int32 × Int32 × (Nat → Int32) × (Nat → Int32) × (Nat → Int32)) → Prop) (postX : String → (Int32 × Int32 × Int32 × Int32 × Int32 × Int32 × (Nat → Int32) × (Nat → Int32) × (Nat → Int32)) → Prop) (g2_underWay : Int32) (g2_way : Int32) (g2_other : Int32) (g2_lead : Int32) (g5_ways : Int32) (g5_wallCount : Int32) (f6 : Nat → Int32) (f7 : Nat → Int32) (f8 : Nat → Int32) (f9 : Nat → Int32) (g10_size : Int32) (f12 : Nat → Int32) (g1_drawSeed : Int32) (g2_man : Int32) (g2_dog : Int32) (g2_gone : Int32) (g2_greatest : Int32) (g2_remembered : Int32) (f3 : Nat → Int32) (f4 : Nat → Int32) (f11 : Nat → Int32) : Prop :=
  postX "java/lang/IllegalArgumentException" (g1_drawSeed, g2_man, g2_dog, g2_gone, g2_greatest, g2_remembered, f3, f4, f11)
