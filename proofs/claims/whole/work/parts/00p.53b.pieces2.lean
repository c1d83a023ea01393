theorem sp_fill {n0 : Nat} (h0 : n0 < 100000) {post : (Nat → Int32) → Prop} {f0 : Nat → Int32} {x : Int32} (hp : ∀ f : Nat → Int32, (∀ k : Nat, k < n0 → f k = x) → post f) : wpJ7_fill_53178 n0 post f0 x := by
  have key : ∀ (j k : Nat) (f : Nat → Int32), k + j = n0 → (∀ i : Nat, i < k → f i = x) → wpJ7_fill_53178_5 n0 post (j + 1) f x (zI k) (zI n0) := by
    intro j
    induction j with
    | zero =>
      intro k f h1 h2
      unfold wpJ7_fill_53178_5
      simp (disch := omega) only [zI_lit, zI_add, zI_sub, zI_mul, zI_neg, zI_le, zI_lt, zI_eq, zI_nat, zI_max, zI_min, zI_abs, forall_eq, Int.reduceNeg, Int.reduceAdd, Int.reduceMul, Int.reduceSub, Int.add_zero, Int.zero_add, Int.zero_mul, Int.toNat_zero]
      exact ⟨fun _ => hp f (fun i hi => h2 i (by omega)), fun h => absurd h (by omega)⟩
    | succ j ih =>
      intro k f h1 h2
      unfold wpJ7_fill_53178_5
      simp (disch := omega) only [zI_lit, zI_add, zI_sub, zI_mul, zI_neg, zI_le, zI_lt, zI_eq, zI_nat, zI_max, zI_min, zI_abs, forall_eq, Int.reduceNeg, Int.reduceAdd, Int.reduceMul, Int.reduceSub, Int.add_zero, Int.zero_add, Int.zero_mul, Int.toNat_zero, Int.toNat_natCast]
      refine ⟨fun h => absurd h (by omega), fun _ => ⟨zI_in (by omega), ?_⟩⟩
      refine ih (k + 1) _ (by omega) (fun i hi => ?_)
      rw [upd_eq]
      split
      · rfl
      · exact h2 i (by omega)
  unfold wpJ7_fill_53178
  intro v1 hv
  subst hv
  exact ⟨n0 + 1, key n0 0 f0 (by omega) (fun i hi => by omega)⟩
def RowC (q : Int → Int → Int) (m d D : Int) (f : Nat → Int32) : Prop := f 0 = zI 2147483647 ∧ (∀ d', 0 ≤ d' → d' < d → f (d' + 1).toNat = zI (Fw q 2147483647 m d')) ∧ (∀ d', d ≤ d' → d' < D → f (d' + 1).toNat = zI (Fw q 2147483647 (m - 1) d'))
def RowS (q : Int → Int → Int) (m D : Int) (f : Nat → Int32) : Prop := f 0 = zI (if m = 0 then 0 else 2147483647) ∧ (∀ d', 0 ≤ d' → d' < D → f (d' + 1).toNat = zI (Fw q 2147483647 (m - 1) d'))
section
variable {q : Int → Int → Int} {M D m : Int} {fx fX fy fY : Nat → Int32}
theorem sp_row18 {post : ((Nat → Int32)) → Prop} (hM : M ≤ 233) (hD : 1 ≤ D ∧ D ≤ 233) (hm : 0 ≤ m ∧ m < M)
    (hq : ∀ m d, 0 ≤ m → m < M → 0 ≤ d → d < D → 0 ≤ q m d ∧ q m d ≤ 2147483647)
    (hv : ∀ m d, 0 ≤ m → m < M → 0 ≤ d → d < D → (fx m.toNat - fX d.toNat) * (fx m.toNat - fX d.toNat) + (fy m.toNat - fY d.toNat) * (fy m.toNat - fY d.toNat) = zI (q m d))
    (hp : ∀ f, RowC q m D D f → post f) :
    ∀ (j : Nat) (d dg : Int) (f : Nat → Int32), 0 ≤ d → d + j = D → RowC q m d D f → (dg = if m = 0 ∧ d = 0 then 0 else Fw q 2147483647 (m - 1) (d - 1)) → wpX5_passRow_18 post fx fX fy fY (j + 1) f (zI m) (zI D) (zI dg) (zI d) := by
  intro j
  induction j with
  | zero =>
    intro d dg f h0 h1 hR hg
    rw [show d = D by omega] at hR ⊢
    unfold wpX5_passRow_18
    simp (disch := omega) only [zI_lit, zI_add, zI_sub, zI_mul, zI_neg, zI_le, zI_lt, zI_eq, zI_nat, zI_max, zI_min, zI_abs, forall_eq, Int.reduceNeg, Int.reduceAdd, Int.reduceMul, Int.reduceSub, Int.add_zero, Int.zero_add, Int.zero_mul, Int.toNat_zero]
    exact ⟨fun _ => hp f hR, fun h => absurd (Int.le_refl _) h⟩
  | succ j ih =>
    intro d dg f h0 h1 hR hg
    have b1 := Fw_bd (F := 2147483647) (by omega) hq _ (m - 1) (d - 1) rfl (by omega) (by omega)
    have b2 := Fw_bd (F := 2147483647) (by omega) hq _ (m - 1) d rfl (by omega) (by omega)
    have b3 := Fw_bd (F := 2147483647) (by omega) hq _ m (d - 1) rfl (by omega) (by omega)
    have hq' := hq m d hm.1 hm.2 h0 (by omega)
    have e1 := hR.2.2 d (Int.le_refl _) (by omega)
    have e2 : f d.toNat = zI (Fw q 2147483647 m (d - 1)) := by
      by_cases h : d = 0
      · rw [h, Fw_out (by omega)]; exact hR.1
      · have := hR.2.1 (d - 1) (by omega) (by omega)
        rwa [Int.sub_add_cancel] at this
    have hg' : 0 ≤ dg ∧ dg ≤ 2147483647 := by rw [hg]; split <;> omega
    have ev : max (min dg (min (Fw q 2147483647 (m - 1) d) (Fw q 2147483647 m (d - 1)))) (q m d) = Fw q 2147483647 m d := by
      by_cases h : m = 0 ∧ d = 0
      · rw [if_pos h] at hg
        rw [h.1, h.2] at b2 b3 hq' ⊢
        rw [Fw_zero]; omega
      · rw [if_neg h] at hg
        rw [Fw_in hm.1 h0 h, hg]; omega
    unfold wpX5_passRow_18
    simp (disch := omega) only [zI_lit, zI_add, zI_sub, zI_mul, zI_neg, zI_le, zI_lt, zI_eq, zI_nat, zI_max, zI_min, zI_abs, forall_eq, Int.reduceNeg, Int.reduceAdd, Int.reduceMul, Int.reduceSub, Int.add_zero, Int.zero_add, Int.zero_mul, Int.toNat_zero]
    rw [hv m d hm.1 hm.2 h0 (by omega), e1, e2]
    simp (disch := omega) only [zI_lit, zI_add, zI_sub, zI_mul, zI_neg, zI_le, zI_lt, zI_eq, zI_nat, zI_max, zI_min, zI_abs, forall_eq, Int.reduceNeg, Int.reduceAdd, Int.reduceMul, Int.reduceSub, Int.add_zero, Int.zero_add, Int.zero_mul, Int.toNat_zero]
    refine ⟨fun h => absurd h (by omega), fun _ => ⟨zI_in (by omega), zI_in (by omega), zI_in (by omega), zI_in (by omega), zI_in (by omega), zI_in (by omega), zI_in (by omega), ?_⟩⟩
    rw [ev]
    refine ih (d + 1) _ _ (by omega) (by omega) ⟨?_, fun d' a b => ?_, fun d' a b => ?_⟩ ?_
    · rw [upd_eq, if_neg (by omega)]; exact hR.1
    · rw [upd_eq]
      split
      · rw [show d' = d by omega]
      · exact hR.2.1 d' a (by omega)
    · rw [upd_eq, if_neg (by omega)]; exact hR.2.2 d' (by omega) b
    · rw [if_neg (by omega), Int.add_sub_cancel]
theorem sp_passRow {post : ((Nat → Int32)) → Prop} {f : Nat → Int32} (hM : M ≤ 233) (hD : 1 ≤ D ∧ D ≤ 233) (hm : 0 ≤ m ∧ m < M)
    (hq : ∀ m d, 0 ≤ m → m < M → 0 ≤ d → d < D → 0 ≤ q m d ∧ q m d ≤ 2147483647)
    (hv : ∀ m d, 0 ≤ m → m < M → 0 ≤ d → d < D → (fx m.toNat - fX d.toNat) * (fx m.toNat - fX d.toNat) + (fy m.toNat - fY d.toNat) * (fy m.toNat - fY d.toNat) = zI (q m d))
    (hS : RowS q m D f) (hp : ∀ f, RowS q (m + 1) D f → post f) : wpX5_passRow post fx fX fy fY f (zI m) (zI D) := by
  unfold wpX5_passRow
  simp (disch := omega) only [zI_lit, zI_add, zI_sub, zI_mul, zI_neg, zI_le, zI_lt, zI_eq, zI_nat, zI_max, zI_min, zI_abs, forall_eq, Int.reduceNeg, Int.reduceAdd, Int.reduceMul, Int.reduceSub, Int.add_zero, Int.zero_add, Int.zero_mul, Int.toNat_zero]
  rw [hS.1]
  refine ⟨zI_in (by omega), zI_in (by omega), D.toNat + 1, ?_⟩
  refine sp_row18 hM hD hm hq hv (fun f hR => hp f ⟨?_, fun d' a b => ?_⟩) D.toNat 0 _ _ (by omega) (by omega) ⟨?_, fun d' a b => by omega, fun d' a b => ?_⟩ ?_
  · rw [if_neg (by omega)]; exact hR.1
  · rw [Int.add_sub_cancel]; exact hR.2.1 d' a b
  · rw [upd_eq, if_pos rfl]
  · rw [upd_eq, if_neg (by omega)]; exact hS.2 d' a b
  · by_cases h : m = 0
    · rw [if_pos h, if_pos ⟨h, rfl⟩]
    · rw [if_neg h, if_neg (fun h' => h h'.1), Fw_out (by omega)]
theorem sp_pieces53 {post : Int32 → ((Nat → Int32) × (Nat → Int32) × (Nat → Int32) × (Nat → Int32) × (Nat → Int32)) → Prop} {f7 f8 f9 : Nat → Int32} (hM : 1 ≤ M ∧ M ≤ 233) (hD : 1 ≤ D ∧ D ≤ 233)
    (hq : ∀ m d, 0 ≤ m → m < M → 0 ≤ d → d < D → 0 ≤ q m d ∧ q m d ≤ 2147483647)
    (hv : ∀ m d, 0 ≤ m → m < M → 0 ≤ d → d < D → (fx m.toNat - fX d.toNat) * (fx m.toNat - fX d.toNat) + (fy m.toNat - fY d.toNat) * (fy m.toNat - fY d.toNat) = zI (q m d))
    (hp : ∀ f, post (zI (Fw q 2147483647 (M - 1) (D - 1))) (fx, fy, fX, fY, f)) :
    ∀ (j : Nat) (m : Int) (f : Nat → Int32), 0 ≤ m → m + j = M → RowS q m D f → wpX5_leastLead_53 post f7 f8 f9 (j + 1) fx fy fX fY f (zI M) (zI D) (zI m) := by
  intro j
  induction j with
  | zero =>
    intro m f h0 h1 hS
    obtain rfl : m = M := by omega
    have e := hS.2 (D - 1) (by omega) (by omega)
    rw [Int.sub_add_cancel] at e
    unfold wpX5_leastLead_53
    simp (disch := omega) only [zI_lit, zI_add, zI_sub, zI_mul, zI_neg, zI_le, zI_lt, zI_eq, zI_nat, zI_max, zI_min, zI_abs, forall_eq, Int.reduceNeg, Int.reduceAdd, Int.reduceMul, Int.reduceSub, Int.add_zero, Int.zero_add, Int.zero_mul, Int.toNat_zero]
    rw [e]
    exact ⟨fun _ => ⟨zI_in (by omega), hp f⟩, fun h => absurd (Int.le_refl _) h⟩
  | succ j ih =>
    intro m f h0 h1 hS
    unfold wpX5_leastLead_53
    simp (disch := omega) only [zI_lit, zI_add, zI_sub, zI_mul, zI_neg, zI_le, zI_lt, zI_eq, zI_nat, zI_max, zI_min, zI_abs, forall_eq, Int.reduceNeg, Int.reduceAdd, Int.reduceMul, Int.reduceSub, Int.add_zero, Int.zero_add, Int.zero_mul, Int.toNat_zero]
    refine ⟨fun h => absurd h (by omega), fun _ => ?_⟩
    exact sp_passRow hM.2 hD ⟨h0, by omega⟩ hq hv hS (fun f hS => ih (m + 1) f (by omega) (by omega) hS)
theorem sr_parts109 {k94 : Int32 → (Nat → Int32) → (Nat → Int32) → (Nat → Int32) → (Nat → Int32) → (Nat → Int32) → Int32 → Int32 → Int32 → Prop} {post : Int64 → (Int32 × (Nat → Int32) × (Nat → Int32) × (Nat → Int32) × (Nat → Int32) × (Nat → Int32)) → Prop} {v : Nat → Int32} {th : Int32} (hM : M ≤ 233) (hD : 1 ≤ D ∧ D ≤ 233) (hm : 0 ≤ m ∧ m < M)
    (hq : ∀ m d, 0 ≤ m → m < M → 0 ≤ d → d < D → 0 ≤ q m d ∧ q m d ≤ 2000000000)
    (hv : ∀ m d, 0 ≤ m → m < M → 0 ≤ d → d < D → (fx m.toNat - fX d.toNat) * (fx m.toNat - fX d.toNat) + (fy m.toNat - fY d.toNat) * (fy m.toNat - fY d.toNat) = zI (q m d))
    (hp : ∀ f : Nat → Int32, (∀ d, 0 ≤ d → d < D → f d.toNat = zI (Fw q 2000000000 m d)) → k94 th fx fy fX fY f (zI M) (zI D) (zI (m + 1))) :
    ∀ (j : Nat) (d : Int) (f : Nat → Int32), 0 ≤ d → d + j = D → (∀ d', 0 ≤ d' → d' < d → f d'.toNat = zI (Fw q 2000000000 m d')) → (m ≠ 0 → ∀ d', d ≤ d' → d' < D → f d'.toNat = zI (Fw q 2000000000 (m - 1) d')) → wpX11_parts_109 k94 post v (j + 1) th fx fy fX fY f (zI M) (zI D) (zI m) (zI (Fw q 2000000000 (m - 1) (d - 1))) (zI d) := by
  intro j
  induction j with
  | zero =>
    intro d f h0 h1 a b
    rw [show d = D by omega] at a ⊢
    unfold wpX11_parts_109
    simp (disch := omega) only [zI_lit, zI_add, zI_sub, zI_mul, zI_neg, zI_le, zI_lt, zI_eq, zI_nat, zI_max, zI_min, zI_abs, forall_eq, Int.reduceNeg, Int.reduceAdd, Int.reduceMul, Int.reduceSub, Int.add_zero, Int.zero_add, Int.zero_mul, Int.toNat_zero]
    exact ⟨fun _ => hp f a, fun h => absurd (Int.le_refl _) h⟩
  | succ j ih =>
    intro d f h0 h1 a b
    have b1 := Fw_bd (F := 2000000000) (by omega) hq _ (m - 1) (d - 1) rfl (by omega) (by omega)
    have b2 := Fw_bd (F := 2000000000) (by omega) hq _ (m - 1) d rfl (by omega) (by omega)
    have b3 := Fw_bd (F := 2000000000) (by omega) hq _ m (d - 1) rfl (by omega) (by omega)
    have hq' := hq m d hm.1 hm.2 h0 (by omega)
    have hvd := hv m d hm.1 hm.2 h0 (by omega)
    have go : ∀ s : Int, max (q m d) s = Fw q 2000000000 m d → 0 ≤ s ∧ s ≤ 2000000000 → wpX11_parts_180 (fun y0 y1 y2 y3 y4 y5 y6 y7 y8 y9 y10 => wpX11_parts_109 k94 post v (j + 1) y0 y1 y2 y3 y4 y5 y6 y7 y8 y9 y10) k94 post v th fx fy fX fY f (zI M) (zI D) (zI m) (zI d) (zI (Fw q 2000000000 (m - 1) d)) (zI s) := by
      intro s hs hs'
      unfold wpX11_parts_180 wpX11_farOf
      simp (disch := omega) only [zI_lit, zI_add, zI_sub, zI_mul, zI_neg, zI_le, zI_lt, zI_eq, zI_nat, zI_max, zI_min, zI_abs, forall_eq, Int.reduceNeg, Int.reduceAdd, Int.reduceMul, Int.reduceSub, Int.add_zero, Int.zero_add, Int.zero_mul, Int.toNat_zero]
      rw [hvd]
      simp (disch := omega) only [zI_lit, zI_add, zI_sub, zI_mul, zI_neg, zI_le, zI_lt, zI_eq, zI_nat, zI_max, zI_min, zI_abs, forall_eq, Int.reduceNeg, Int.reduceAdd, Int.reduceMul, Int.reduceSub, Int.add_zero, Int.zero_add, Int.zero_mul, Int.toNat_zero]
      rw [hs]
      refine ⟨zI_in (by omega), zI_in (by omega), zI_in (by omega), zI_in (by omega), zI_in (by omega), ?_⟩
      have := ih (d + 1) (upd f d.toNat (zI (Fw q 2000000000 m d))) (by omega) (by omega) (fun d' c1 c2 => ?_) (fun hm0 d' c1 c2 => ?_)
      · rwa [Int.add_sub_cancel] at this
      · rw [upd_eq]
        split
        · rw [show d' = d by omega]
        · exact a d' c1 (by omega)
      · rw [upd_eq, if_neg (by omega)]; exact b hm0 d' (by omega) c2
    have go150 : ¬ (m = 0 ∧ d = 0) → wpX11_parts_150 (fun y0 y1 y2 y3 y4 y5 y6 y7 y8 y9 y10 => wpX11_parts_109 k94 post v (j + 1) y0 y1 y2 y3 y4 y5 y6 y7 y8 y9 y10) k94 post v th fx fy fX fY f (zI M) (zI D) (zI m) (zI (Fw q 2000000000 (m - 1) (d - 1))) (zI d) (zI (Fw q 2000000000 (m - 1) d)) := by
      intro hn
      have hi := Fw_in (q := q) (F := 2000000000) hm.1 h0 hn
      unfold wpX11_parts_150
      simp (disch := omega) only [zI_lit, zI_add, zI_sub, zI_mul, zI_neg, zI_le, zI_lt, zI_eq, zI_nat, zI_max, zI_min, zI_abs, forall_eq, Int.reduceNeg, Int.reduceAdd, Int.reduceMul, Int.reduceSub, Int.add_zero, Int.zero_add, Int.zero_mul, Int.toNat_zero]
      refine ⟨fun h => ⟨zI_in (by omega), ?_⟩, fun h => ?_⟩
      · rw [a (d - 1) (by omega) (by omega)]
        unfold wpX11_parts_174
        simp (disch := omega) only [zI_lit, zI_add, zI_sub, zI_mul, zI_neg, zI_le, zI_lt, zI_eq, zI_nat, zI_max, zI_min, zI_abs, forall_eq, Int.reduceNeg, Int.reduceAdd, Int.reduceMul, Int.reduceSub, Int.add_zero, Int.zero_add, Int.zero_mul, Int.toNat_zero]
        exact go _ hi.symm (by omega)
      · unfold wpX11_parts_174
        simp (disch := omega) only [zI_lit, zI_add, zI_sub, zI_mul, zI_neg, zI_le, zI_lt, zI_eq, zI_nat, zI_max, zI_min, zI_abs, forall_eq, Int.reduceNeg, Int.reduceAdd, Int.reduceMul, Int.reduceSub, Int.add_zero, Int.zero_add, Int.zero_mul, Int.toNat_zero]
        rw [Fw_out (q := q) (F := 2000000000) (m := m) (d := d - 1) (by omega)] at hi
        exact go _ hi.symm (by omega)
    have go134 : wpX11_parts_134 (fun y0 y1 y2 y3 y4 y5 y6 y7 y8 y9 y10 => wpX11_parts_109 k94 post v (j + 1) y0 y1 y2 y3 y4 y5 y6 y7 y8 y9 y10) k94 post v th fx fy fX fY f (zI M) (zI D) (zI m) (zI (Fw q 2000000000 (m - 1) (d - 1))) (zI d) (zI (Fw q 2000000000 (m - 1) d)) := by
      unfold wpX11_parts_134
      simp (disch := omega) only [zI_lit, zI_add, zI_sub, zI_mul, zI_neg, zI_le, zI_lt, zI_eq, zI_nat, zI_max, zI_min, zI_abs, forall_eq, Int.reduceNeg, Int.reduceAdd, Int.reduceMul, Int.reduceSub, Int.add_zero, Int.zero_add, Int.zero_mul, Int.toNat_zero]
      refine ⟨fun h => go150 (fun h' => h h'.1), fun h => ⟨fun h' => go150 (fun k => h' k.2), fun h' => go 0 ?_ (by omega)⟩⟩
      rw [h, h', Fw_zero]
    unfold wpX11_parts_109
    simp (disch := omega) only [zI_lit, zI_add, zI_sub, zI_mul, zI_neg, zI_le, zI_lt, zI_eq, zI_nat, zI_max, zI_min, zI_abs, forall_eq, Int.reduceNeg, Int.reduceAdd, Int.reduceMul, Int.reduceSub, Int.add_zero, Int.zero_add, Int.zero_mul, Int.toNat_zero]
    refine ⟨fun h => absurd h (by omega), fun _ => ⟨fun h => ⟨zI_in (by omega), ?_⟩, fun h => ?_⟩⟩
    · rw [b h d (Int.le_refl _) (by omega)]
      exact go134
    · rw [Fw_out (q := q) (F := 2000000000) (m := m - 1) (d := d) (by omega)] at go134
      exact go134
theorem sr_parts94 {post : Int64 → (Int32 × (Nat → Int32) × (Nat → Int32) × (Nat → Int32) × (Nat → Int32) × (Nat → Int32)) → Prop} {v : Nat → Int32} {th : Int32} (hM : 1 ≤ M ∧ M ≤ 233) (hD : 1 ≤ D ∧ D ≤ 233)
    (hq : ∀ m d, 0 ≤ m → m < M → 0 ≤ d → d < D → 0 ≤ q m d ∧ q m d ≤ 2000000000)
    (hv : ∀ m d, 0 ≤ m → m < M → 0 ≤ d → d < D → (fx m.toNat - fX d.toNat) * (fx m.toNat - fX d.toNat) + (fy m.toNat - fY d.toNat) * (fy m.toNat - fY d.toNat) = zI (q m d))
    (hp : ∀ f, post (zI (Fw q 2000000000 (M - 1) (D - 1))).toInt64 (th, fx, fy, fX, fY, f)) :
    ∀ (j : Nat) (m : Int) (f : Nat → Int32), 0 ≤ m → m + j = M → (m ≠ 0 → ∀ d, 0 ≤ d → d < D → f d.toNat = zI (Fw q 2000000000 (m - 1) d)) → wpX11_parts_94 post v (j + 1) th fx fy fX fY f (zI M) (zI D) (zI m) := by
  intro j
  induction j with
  | zero =>
    intro m f h0 h1 a
    obtain rfl : m = M := by omega
    unfold wpX11_parts_94
    simp (disch := omega) only [zI_lit, zI_add, zI_sub, zI_mul, zI_neg, zI_le, zI_lt, zI_eq, zI_nat, zI_max, zI_min, zI_abs, forall_eq, Int.reduceNeg, Int.reduceAdd, Int.reduceMul, Int.reduceSub, Int.add_zero, Int.zero_add, Int.zero_mul, Int.toNat_zero]
    rw [a (by omega) (D - 1) (by omega) (by omega)]
    exact ⟨fun _ => ⟨zI_in (by omega), hp f⟩, fun h => absurd (Int.le_refl _) h⟩
  | succ j ih =>
    intro m f h0 h1 a
    unfold wpX11_parts_94
    simp (disch := omega) only [zI_lit, zI_add, zI_sub, zI_mul, zI_neg, zI_le, zI_lt, zI_eq, zI_nat, zI_max, zI_min, zI_abs, forall_eq, Int.reduceNeg, Int.reduceAdd, Int.reduceMul, Int.reduceSub, Int.add_zero, Int.zero_add, Int.zero_mul, Int.toNat_zero]
    refine ⟨fun h => absurd h (by omega), fun _ => ⟨D.toNat + 1, ?_⟩⟩
    have := sr_parts109 (k94 := fun y0 y1 y2 y3 y4 y5 y6 y7 y8 => wpX11_parts_94 post v (j + 1) y0 y1 y2 y3 y4 y5 y6 y7 y8) (post := post) (v := v) (th := th) hM.2 hD ⟨h0, by omega⟩ hq hv (fun f hf => ih (m + 1) f (by omega) (by omega) (fun _ d c1 c2 => by rw [Int.add_sub_cancel]; exact hf d c1 c2)) D.toNat 0 f (by omega) (by omega) (fun d' c1 c2 => by omega) (fun hm0 d' c1 c2 => a hm0 d' c1 c2)
    rwa [Fw_out (q := q) (F := 2000000000) (m := m - 1) (d := 0 - 1) (by omega)] at this
end
section
variable {g : Gd} {xs ys cs ws v : Nat → Int32} {nw nl : Int32} {w o n : Int}
def Gd.pq (g : Gd) (w o n m d : Int) : Int := (g.ptx w n m - g.ptx o n d) * (g.ptx w n m - g.ptx o n d) + (g.pty w n m - g.pty o n d) * (g.pty w n m - g.pty o n d)
noncomputable def Gd.parts (g : Gd) (w o n : Int) : Int := Fw (g.pq w o n) 2147483647 (n * (g.cn w - 1)) (n * (g.cn o - 1))
theorem pq_bd (hg : g.Ok) (hw : g.hw w) (ho : g.hw o) (hn : 1 ≤ n ∧ n ≤ 8) : ∀ m d, 0 ≤ m → m < n * (g.cn w - 1) + 1 → 0 ≤ d → d < n * (g.cn o - 1) + 1 → 0 ≤ g.pq w o n m d ∧ g.pq w o n m d ≤ 127744128 := by
  intro m d a b c e
  have h1 := pt_bd hg hw hn ⟨a, b⟩
  have h2 := pt_bd hg ho hn ⟨c, e⟩
  have f1 := sq_le (x := g.ptx w n m - g.ptx o n d) (n := 7992) (by omega)
  have f2 := sq_le (x := g.pty w n m - g.pty o n d) (n := 7992) (by omega)
  unfold Gd.pq
  omega
theorem pq_v {fx fy fX fY : Nat → Int32} (h1 : Pts g w n (n * (g.cn w - 1) + 1) fx fy) (h2 : Pts g o n (n * (g.cn o - 1) + 1) fX fY) : ∀ m d, 0 ≤ m → m < n * (g.cn w - 1) + 1 → 0 ≤ d → d < n * (g.cn o - 1) + 1 → (fx m.toNat - fX d.toNat) * (fx m.toNat - fX d.toNat) + (fy m.toNat - fY d.toNat) * (fy m.toNat - fY d.toNat) = zI (g.pq w o n m d) := by
  intro m d a b c e
  rw [(h1 m a b).1, (h1 m a b).2, (h2 d c e).1, (h2 d c e).2]
  simp (disch := omega) only [zI_lit, zI_add, zI_sub, zI_mul, zI_neg, zI_le, zI_lt, zI_eq, zI_nat, zI_max, zI_min, zI_abs, forall_eq, Int.reduceNeg, Int.reduceAdd, Int.reduceMul, Int.reduceSub, Int.add_zero, Int.zero_add, Int.zero_mul, Int.toNat_zero, Gd.pq]
theorem np_bd (hg : g.Ok) (hw : g.hw w) (hn : 1 ≤ n ∧ n ≤ 8) : 1 ≤ n * (g.cn w - 1) + 1 ∧ n * (g.cn w - 1) + 1 ≤ 233 := by
  have e1 := hg.cn w hw.1 hw.2
  have e2 : n * (g.cn w - 1) ≤ 8 * 29 := Int.mul_le_mul (by omega) (by omega) (by omega) (by omega)
  have e3 : 0 ≤ n * (g.cn w - 1) := Int.mul_nonneg (by omega) (by omega)
  omega
theorem Gd.parts_eq (hg : g.Ok) (hw : g.hw w) (ho : g.hw o) (hn : 1 ≤ n ∧ n ≤ 8) : g.parts w o n = Fw (g.pq w o n) 2000000000 (n * (g.cn w - 1)) (n * (g.cn o - 1)) := by
  have b1 := np_bd hg hw hn
  have b2 := np_bd hg ho hn
  have hq := pq_bd hg hw ho hn
  have a := Fw_agr (q1 := g.pq w o n) (q2 := g.pq w o n) (M := n * (g.cn w - 1) + 1) (D := n * (g.cn o - 1) + 1) (fun m d a b c e => Agr.of (by have := hq m d a b c e; omega)) _ (n * (g.cn w - 1)) (n * (g.cn o - 1)) rfl (by omega) (by omega)
  have f := Fw_fin (q := g.pq w o n) (F := 2147483647) (B := 127744128) (M := n * (g.cn w - 1) + 1) (D := n * (g.cn o - 1) + 1) (by omega) (fun m d a b c e => (hq m d a b c e).2) _ (n * (g.cn w - 1)) (n * (g.cn o - 1)) rfl (by omega) (by omega) (by omega) (by omega)
  unfold Agr at a
  unfold Gd.parts
  omega
theorem sp_parts {post : Int64 → ((Nat → Int32) × (Nat → Int32) × (Nat → Int32) × (Nat → Int32) × (Nat → Int32)) → Prop} {postX : String → ((Nat → Int32) × (Nat → Int32) × (Nat → Int32) × (Nat → Int32) × (Nat → Int32)) → Prop} {f7 f8 f9 f10 f11 : Nat → Int32} (hg : g.Ok) (hc : CG g xs ys cs ws nw nl) (hw : -2147483648 ≤ w ∧ w < 2147483648) (ho : -2147483648 ≤ o ∧ o < 2147483648) (hn : -2147483648 ≤ n ∧ n < 2147483648)
    (hx : ¬ (g.hw w ∧ g.hw o) → postX "java/lang/IndexOutOfBoundsException" (f7, f8, f9, f10, f11)) (hx2 : g.hw w → g.hw o → ¬ (1 ≤ n ∧ n ≤ 8) → postX "java/lang/IllegalArgumentException" (f7, f8, f9, f10, f11))
    (hp : g.hw w → g.hw o → 1 ≤ n ∧ n ≤ 8 → ∀ z, post (zI (g.parts w o n)).toInt64 z) : wpX10_parts post postX nw cs xs ys f7 f8 f9 f10 f11 (zI w) (zI o) (zI n) := by
  unfold wpX10_parts
  refine sp_needWay hg hc hw (fun h1 => ?_) (fun h => hx (fun h' => h h'.1))
  refine sp_needWay hg hc ho (fun h2 => ?_) (fun h => hx (fun h' => h h'.2))
  unfold wpX10_parts_21
  simp (disch := omega) only [zI_lit, zI_add, zI_sub, zI_mul, zI_neg, zI_le, zI_lt, zI_eq, zI_nat, zI_max, zI_min, zI_abs, forall_eq, Int.reduceNeg, Int.reduceAdd, Int.reduceMul, Int.reduceSub, Int.add_zero, Int.zero_add, Int.zero_mul, Int.toNat_zero]
  refine ⟨fun h => hx2 h1 h2 (by omega), fun h => ⟨fun h' => ?_, fun h' => hx2 h1 h2 (by omega)⟩⟩
  have hn' : 1 ≤ n ∧ n ≤ 8 := by omega
  have b1 := np_bd hg h1 hn'
  have b2 := np_bd hg h2 hn'
  unfold wpX5_leastLead
  refine sp_layPoints hg hc h1 hn' (fun fx fy hP1 => ?_)
  refine sp_layPoints hg hc h2 hn' (fun fX fY hP2 => ?_)
  refine sp_fill (by omega) (fun f hf => ?_)
  refine ⟨by unfold vp_in; decide, (n * (g.cn w - 1) + 1).toNat + 1, ?_⟩
  refine sp_pieces53 (q := g.pq w o n) b1 b2 (fun m d a b c e => by have := pq_bd hg h1 h2 hn' m d a b c e; omega) (pq_v hP1 hP2) (fun f' => ?_) _ 0 _ (by omega) (by omega) ⟨rfl, fun d' a b => ?_⟩
  · rw [Int.add_sub_cancel, Int.add_sub_cancel]; exact hp h1 h2 hn' _
  · rw [Fw_out (by omega), upd_eq, if_neg (by show ¬ (d' + 1).toNat = 0; omega)]
    exact hf _ (by omega)
theorem sr_parts {post : Int64 → (Int32 × (Nat → Int32) × (Nat → Int32) × (Nat → Int32) × (Nat → Int32) × (Nat → Int32)) → Prop} {th : Int32} {f2 f3 f4 f5 f6 : Nat → Int32} (hg : g.Ok) (hv : WG g v) (hw : -2147483648 ≤ w ∧ w < 2147483648) (ho : -2147483648 ≤ o ∧ o < 2147483648) (hn : -2147483648 ≤ n ∧ n < 2147483648)
    (hx : ¬ (g.hw w ∧ g.hw o) → ∀ r z, z.1 = 1 → post r z) (hx2 : g.hw w → g.hw o → ¬ (1 ≤ n ∧ n ≤ 8) → ∀ r z, z.1 = 2 → post r z)
    (hp : g.hw w → g.hw o → 1 ≤ n ∧ n ≤ 8 → ∀ z, z.1 = 0 → post (zI (g.parts w o n)).toInt64 z) : wpX11_parts post v th f2 f3 f4 f5 f6 (zI w) (zI o) (zI n) := by
  have c22 : ¬ (g.hw w ∧ g.hw o) → wpX11_parts_22 post v 0 f2 f3 f4 f5 f6 (zI w) (zI o) (zI n) := by
    intro h
    unfold wpX11_parts_22 wpX11_parts_27
    refine sr_throwsIf (fun h => absurd h (by decide)) (fun _ => ?_) (Or.inr rfl)
    exact ⟨fun _ => hx h _ _ rfl, fun h => absurd h (by decide)⟩
  unfold wpX11_parts
  refine sr_noWay hg hv hw (fun h1 => ⟨fun h => absurd rfl h, fun _ => ?_⟩) (fun h1 => ⟨fun _ => c22 (fun h => h1 h.1), fun h => absurd h (by decide)⟩)
  refine sr_noWay hg hv ho (fun h2 => ⟨fun _ => ?_, fun h => absurd rfl h⟩) (fun h2 => ⟨fun h => absurd h (by decide), fun _ => c22 (fun h => h2 h.2)⟩)
  unfold wpX11_parts_27
  refine sr_throwsIf (fun _ => ⟨fun h => absurd rfl h, fun _ => ?_⟩) (fun h => absurd h (by decide)) (Or.inl rfl)
  rw [show (1 : Int32) = zI 1 from rfl, show (8 : Int32) = zI 8 from rfl]
  refine sr_in hn (by omega) (by omega) (fun hn' => ⟨fun _ => ?_, fun h => absurd h (by decide)⟩) (fun hn' => ⟨fun h => absurd rfl h, fun _ => ?_⟩)
  · unfold wpX11_parts_50
    refine sr_throwsIf (fun _ => ⟨fun _ => ?_, fun h => absurd rfl h⟩) (fun h => absurd h (by decide)) (Or.inl rfl)
    have b1 := np_bd hg h1 hn'
    have b2 := np_bd hg h2 hn'
    refine sr_points hg hv h1 hn' (fun fx fy hP1 => ?_)
    refine sr_points hg hv h2 hn' (fun fX fY hP2 => ?_)
    refine ⟨(n * (g.cn w - 1) + 1).toNat + 1, ?_⟩
    have hp' := hp h1 h2 hn'
    rw [Gd.parts_eq hg h1 h2 hn'] at hp'
    refine sr_parts94 (q := g.pq w o n) b1 b2 (fun m d a b c e => by have := pq_bd hg h1 h2 hn' m d a b c e; omega) (pq_v hP1 hP2) (fun f' => ?_) _ 0 _ (by omega) (by omega) (fun h => absurd rfl h)
    rw [Int.add_sub_cancel, Int.add_sub_cancel]; exact hp' _ rfl
  · unfold wpX11_parts_50
    refine sr_throwsIf (fun h => absurd h (by decide)) (fun _ => ⟨fun h => absurd h (by decide), fun _ => hx2 h1 h2 hn' _ _ rfl⟩) (Or.inr rfl)
end
