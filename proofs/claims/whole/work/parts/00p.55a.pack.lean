noncomputable def F3 (q : Int → Int → Int → Int) (F m a b : Int) : Int :=
  if m < 0 ∨ a < 0 ∨ b < 0 then F else max (q m a b) (min (if m = 0 ∧ a = 0 ∧ b = 0 then 0 else F) (min (F3 q F (m - 1) a b) (min (F3 q F m (a - 1) b) (min (F3 q F (m - 1) (a - 1) b) (min (F3 q F m a (b - 1)) (min (F3 q F (m - 1) a (b - 1)) (min (F3 q F m (a - 1) (b - 1)) (F3 q F (m - 1) (a - 1) (b - 1)))))))))
termination_by (m + 1).toNat + (a + 1).toNat + (b + 1).toNat
decreasing_by all_goals omega
section
variable {q q1 q2 : Int → Int → Int → Int} {F M A B : Int}
theorem F3_out {m a b : Int} (h : m < 0 ∨ a < 0 ∨ b < 0) : F3 q F m a b = F := by rw [F3, if_pos h]
theorem F3_in {m a b : Int} (h : 0 ≤ m ∧ 0 ≤ a ∧ 0 ≤ b) : F3 q F m a b = max (q m a b) (min (if m = 0 ∧ a = 0 ∧ b = 0 then 0 else F) (min (F3 q F (m - 1) a b) (min (F3 q F m (a - 1) b) (min (F3 q F (m - 1) (a - 1) b) (min (F3 q F m a (b - 1)) (min (F3 q F (m - 1) a (b - 1)) (min (F3 q F m (a - 1) (b - 1)) (F3 q F (m - 1) (a - 1) (b - 1))))))))) := by
  rw [F3, if_neg (by omega)]
theorem F3_bd (hF : 0 ≤ F) (hq : ∀ m a b, 0 ≤ m → m < M → 0 ≤ a → a < A → 0 ≤ b → b < B → 0 ≤ q m a b ∧ q m a b ≤ F) : ∀ (n : Nat) (m a b : Int), (m + 1).toNat + (a + 1).toNat + (b + 1).toNat = n → m < M → a < A → b < B → 0 ≤ F3 q F m a b ∧ F3 q F m a b ≤ F := by
  intro n
  induction n using Nat.strongRecOn with
  | _ n ih =>
    intro m a b hn hm ha hb
    by_cases h : m < 0 ∨ a < 0 ∨ b < 0
    · rw [F3_out h]; omega
    · rw [F3_in (by omega)]
      have hq' := hq m a b (by omega) hm (by omega) ha (by omega) hb
      refine ⟨Int.le_trans hq'.1 (Int.le_max_left _ _), Int.max_le.mpr ⟨hq'.2, Int.le_trans (Int.min_le_left _ _) ?_⟩⟩
      split <;> omega
theorem F3_agr (hq : ∀ m a b, 0 ≤ m → m < M → 0 ≤ a → a < A → 0 ≤ b → b < B → Agr (q1 m a b) (q2 m a b)) : ∀ (n : Nat) (m a b : Int), (m + 1).toNat + (a + 1).toNat + (b + 1).toNat = n → m < M → a < A → b < B → Agr (F3 q1 2147483647 m a b) (F3 q2 2000000000 m a b) := by
  intro n
  induction n using Nat.strongRecOn with
  | _ n ih =>
    intro m a b hn hm ha hb
    by_cases h : m < 0 ∨ a < 0 ∨ b < 0
    · rw [F3_out h, F3_out h]; exact Agr.far
    · rw [F3_in (q := q1) (m := m) (a := a) (b := b) (by omega), F3_in (q := q2) (m := m) (a := a) (b := b) (by omega)]
      have z : Agr (if m = 0 ∧ a = 0 ∧ b = 0 then 0 else 2147483647) (if m = 0 ∧ a = 0 ∧ b = 0 then 0 else 2000000000) := by
        split
        · exact Agr.of (by omega)
        · exact Agr.far
      exact (hq m a b (by omega) hm (by omega) ha (by omega) hb).max (z.min ((ih _ (by omega) (m - 1) a b rfl (by omega) (by omega) (by omega)).min ((ih _ (by omega) m (a - 1) b rfl (by omega) (by omega) (by omega)).min ((ih _ (by omega) (m - 1) (a - 1) b rfl (by omega) (by omega) (by omega)).min ((ih _ (by omega) m a (b - 1) rfl (by omega) (by omega) (by omega)).min ((ih _ (by omega) (m - 1) a (b - 1) rfl (by omega) (by omega) (by omega)).min ((ih _ (by omega) m (a - 1) (b - 1) rfl (by omega) (by omega) (by omega)).min (ih _ (by omega) (m - 1) (a - 1) (b - 1) rfl (by omega) (by omega) (by omega)))))))))
theorem F3_fin {T : Int} (hT : 0 ≤ T) (hq : ∀ m a b, 0 ≤ m → m < M → 0 ≤ a → a < A → 0 ≤ b → b < B → q m a b ≤ T) : ∀ (n : Nat) (m a b : Int), (m + 1).toNat + (a + 1).toNat + (b + 1).toNat = n → 0 ≤ m → 0 ≤ a → 0 ≤ b → m < M → a < A → b < B → F3 q F m a b ≤ T := by
  intro n
  induction n using Nat.strongRecOn with
  | _ n ih =>
    intro m a b hn h0 h1 h2 hm ha hb
    have hq' := hq m a b h0 hm h1 ha h2 hb
    rw [F3_in (m := m) (a := a) (b := b) (by omega)]
    refine Int.max_le.mpr ⟨hq', ?_⟩
    by_cases e : m = 0 ∧ a = 0 ∧ b = 0
    · rw [if_pos e]; exact Int.le_trans (Int.min_le_left _ _) hT
    · refine Int.le_trans (Int.min_le_right _ _) ?_
      by_cases e1 : m = 0
      · by_cases e2 : a = 0
        · exact Int.le_trans (Int.min_le_right _ _) (Int.le_trans (Int.min_le_right _ _) (Int.le_trans (Int.min_le_right _ _) (Int.le_trans (Int.min_le_left _ _) (ih _ (by omega) m a (b - 1) rfl (by omega) (by omega) (by omega) (by omega) (by omega) (by omega)))))
        · exact Int.le_trans (Int.min_le_right _ _) (Int.le_trans (Int.min_le_left _ _) (ih _ (by omega) m (a - 1) b rfl (by omega) (by omega) (by omega) (by omega) (by omega) (by omega)))
      · exact Int.le_trans (Int.min_le_left _ _) (ih _ (by omega) (m - 1) a b rfl (by omega) (by omega) (by omega) (by omega) (by omega) (by omega))
theorem min_ext {x y : Int} (h : ∀ t, t ≤ x ↔ t ≤ y) : x = y := Int.le_antisymm ((h _).1 (Int.le_refl _)) ((h _).2 (Int.le_refl _))
theorem min_same {s1 s2 s3 w0 w1 w2 w3 W Z : Int} (h1 : ∀ t, t ≤ W → t ≤ Z ∧ t ≤ w3) (h2 : ∀ t, t ≤ Z → t ≤ w3 → t ≤ W) : min (min s1 (min s2 s3)) (min (min w0 w1) (min w2 W)) = min Z (min w0 (min s2 (min w2 (min s1 (min w1 (min s3 w3)))))) := by
  refine min_ext (fun t => ?_)
  simp only [Int.le_min]
  constructor
  · rintro ⟨⟨a1, a2, a3⟩, ⟨a4, a5⟩, a6, a7⟩
    exact ⟨(h1 t a7).1, a4, a2, a6, a1, a5, a3, (h1 t a7).2⟩
  · rintro ⟨z, b0, b2, b6, b1, b5, b3, b7⟩
    exact ⟨⟨b1, b2, b3⟩, ⟨b0, b5⟩, b6, h2 t z b7⟩
theorem min_row {Z p1 p2 p3 p4 p5 p6 p7 : Int} : min (min (min (min (min (min (min Z p1) p2) p3) p4) p5) p6) p7 = min Z (min p1 (min p2 (min p3 (min p4 (min p5 (min p6 p7)))))) := by
  refine min_ext (fun t => ?_)
  simp only [Int.le_min]
  constructor
  · rintro ⟨⟨⟨⟨⟨⟨⟨z, a1⟩, a2⟩, a3⟩, a4⟩, a5⟩, a6⟩, a7⟩
    exact ⟨z, a1, a2, a3, a4, a5, a6, a7⟩
  · rintro ⟨z, a1, a2, a3, a4, a5, a6, a7⟩
    exact ⟨⟨⟨⟨⟨⟨⟨z, a1⟩, a2⟩, a3⟩, a4⟩, a5⟩, a6⟩, a7⟩
theorem min_at {P : Int → Prop} {a b : Int} (ha : P a) (hb : P b) : P (min a b) := by
  rcases Int.le_total a b with h | h
  · rw [Int.min_eq_left h]; exact ha
  · rw [Int.min_eq_right h]; exact hb
def Bef (q : Int → Int → Int → Int) (A B m : Int) (f : Nat → Int32) : Prop := ∀ i j, -1 ≤ i → i < A → -1 ≤ j → j < B → f ((i + 1) * 31 + j + 1).toNat = zI (if m = 0 ∧ i = -1 ∧ j = -1 then 0 else F3 q 2147483647 (m - 1) i j)
def Now (q : Int → Int → Int → Int) (A B m i j : Int) (f : Nat → Int32) : Prop := ∀ i' j', -1 ≤ i' → i' < A → -1 ≤ j' → j' < B → (i' = -1 ∨ j' = -1 ∨ i' < i ∨ i' = i ∧ j' < j) → f ((i' + 1) * 31 + j' + 1).toNat = zI (F3 q 2147483647 m i' j')
theorem Now.next {m i j : Int} {f : Nat → Int32} (h : Now q A B m i j f) (hi : 0 ≤ i) (hj : 0 ≤ j ∧ j < B) (hB : B ≤ 30) : Now q A B m i (j + 1) (upd f ((i + 1) * 31 + j + 1).toNat (zI (F3 q 2147483647 m i j))) := by
  intro i' j' c1 c2 c3 c4 c5
  rw [upd_eq]
  split
  · rw [show i' = i by omega, show j' = j by omega]
  · exact h i' j' c1 c2 c3 c4 (by by_cases e : i' = i <;> by_cases e' : j' = j <;> first | (subst e; subst e'; exact absurd rfl ‹_›) | omega)
theorem Now.line {m i : Int} {f : Nat → Int32} (h : Now q A B m i B f) : Now q A B m (i + 1) 0 f := fun i' j' c1 c2 c3 c4 c5 => h i' j' c1 c2 c3 c4 (by omega)
theorem sp_layer13 {k2 : (Nat → Int32) → Int32 → Prop} {post : ((Nat → Int32)) → Prop} {m i : Int} {f1 f2 f3 f4 : Nat → Int32} (hA : 1 ≤ A ∧ A ≤ 30) (hB : 1 ≤ B ∧ B ≤ 30) (hm : 0 ≤ m ∧ m < M) (hi : 0 ≤ i ∧ i < A)
    (hq : ∀ m a b, 0 ≤ m → m < M → 0 ≤ a → a < A → 0 ≤ b → b < B → 0 ≤ q m a b ∧ q m a b ≤ 2147483647)
    (hf : ∀ j, 0 ≤ j → j < B → iMax (f1 (i * 30 + j).toNat) (iMax (f2 i.toNat) (f3 j.toNat)) = zI (q m i j))
    (hb : Bef q A B m f4) (hk : ∀ f, Now q A B m (i + 1) 0 f → k2 f (zI (i + 1))) :
    ∀ (n : Nat) (j : Int) (f : Nat → Int32), 0 ≤ j → j + n = B → Now q A B m i j f → wpX4_passLayer_13 961 961 k2 post (zI A) (zI B) f1 f2 f3 f4 (n + 1) f (zI i) (zI j) := by
  intro n
  induction n with
  | zero =>
    intro j f h0 h1 a
    unfold wpX4_passLayer_13
    simp (disch := omega) only [zI_lit, zI_add, zI_sub, zI_mul, zI_neg, zI_le, zI_lt, zI_eq, zI_nat, zI_max, zI_min, zI_abs, forall_eq, Int.reduceNeg, Int.reduceAdd, Int.reduceMul, Int.reduceSub, Int.add_zero, Int.zero_add, Int.zero_mul, Int.toNat_zero]
    refine ⟨fun _ => hk f ?_, fun h => absurd h (by omega)⟩
    rw [show j = B by omega] at a
    exact a.line
  | succ n ih =>
    intro j f h0 h1 a
    have hq' := hq m i j hm.1 hm.2 hi.1 hi.2 h0 (by omega)
    have k1 := F3_bd (F := 2147483647) (by omega) hq _ (m - 1) i j rfl (by omega) (by omega) (by omega)
    have k2 := F3_bd (F := 2147483647) (by omega) hq _ m (i - 1) j rfl (by omega) (by omega) (by omega)
    have k3 := F3_bd (F := 2147483647) (by omega) hq _ (m - 1) (i - 1) j rfl (by omega) (by omega) (by omega)
    have k4 := F3_bd (F := 2147483647) (by omega) hq _ m i (j - 1) rfl (by omega) (by omega) (by omega)
    have k5 := F3_bd (F := 2147483647) (by omega) hq _ (m - 1) i (j - 1) rfl (by omega) (by omega) (by omega)
    have k6 := F3_bd (F := 2147483647) (by omega) hq _ m (i - 1) (j - 1) rfl (by omega) (by omega) (by omega)
    have k7 := F3_bd (F := 2147483647) (by omega) hq _ (m - 1) (i - 1) (j - 1) rfl (by omega) (by omega) (by omega)
    have e1 := a i (j - 1) (by omega) (by omega) (by omega) (by omega) (by omega)
    have e2 := a (i - 1) j (by omega) (by omega) (by omega) (by omega) (by omega)
    have e3 := a (i - 1) (j - 1) (by omega) (by omega) (by omega) (by omega) (by omega)
    have g0 := hb i j (by omega) (by omega) (by omega) (by omega)
    have g1 := hb i (j - 1) (by omega) (by omega) (by omega) (by omega)
    have g2 := hb (i - 1) j (by omega) (by omega) (by omega) (by omega)
    have g3 := hb (i - 1) (j - 1) (by omega) (by omega) (by omega) (by omega)
    rw [if_neg (by omega)] at g0 g1 g2
    rw [show ((i + 1) * 31 + (j - 1) + 1).toNat = ((i + 1) * 31 + j + 1 - 1).toNat by omega] at e1 g1
    rw [show ((i - 1 + 1) * 31 + j + 1).toNat = ((i + 1) * 31 + j + 1 - 31).toNat by omega] at e2 g2
    rw [show ((i - 1 + 1) * 31 + (j - 1) + 1).toNat = ((i + 1) * 31 + j + 1 - 31 - 1).toNat by omega] at e3 g3
    have fin := F3_in (q := q) (F := 2147483647) (m := m) (a := i) (b := j) (by omega)
    have gb : 0 ≤ (if m = 0 ∧ i - 1 = -1 ∧ j - 1 = -1 then 0 else F3 q 2147483647 (m - 1) (i - 1) (j - 1)) ∧ (if m = 0 ∧ i - 1 = -1 ∧ j - 1 = -1 then 0 else F3 q 2147483647 (m - 1) (i - 1) (j - 1)) ≤ 2147483647 := by split <;> omega
    unfold wpX4_passLayer_13
    simp (disch := omega) only [zI_lit, zI_add, zI_sub, zI_mul, zI_neg, zI_le, zI_lt, zI_eq, zI_nat, zI_max, zI_min, zI_abs, forall_eq, Int.reduceNeg, Int.reduceAdd, Int.reduceMul, Int.reduceSub, Int.add_zero, Int.zero_add, Int.zero_mul, Int.toNat_zero]
    rw [hf j h0 (by omega), e1, e2, e3, g0, g1, g2, g3]
    simp (disch := omega) only [zI_lit, zI_add, zI_sub, zI_mul, zI_neg, zI_le, zI_lt, zI_eq, zI_nat, zI_max, zI_min, zI_abs, forall_eq, Int.reduceNeg, Int.reduceAdd, Int.reduceMul, Int.reduceSub, Int.add_zero, Int.zero_add, Int.zero_mul, Int.toNat_zero]
    refine ⟨fun h => absurd h (by omega), fun _ => ⟨zI_in (by omega), zI_in (by omega), zI_in (by omega), zI_in (by omega), zI_in (by omega), zI_in (by omega), zI_in (by omega), zI_in (by omega), zI_in (by omega), zI_in (by omega), zI_in (by omega), ?_⟩⟩
    have i' := ih (j + 1) _ (by omega) (by omega) (a.next hi.1 ⟨h0, by omega⟩ hB.2)
    rw [fin] at i'
    have es : max (q m i j) (min (min (F3 q 2147483647 m i (j - 1)) (min (F3 q 2147483647 m (i - 1) j) (F3 q 2147483647 m (i - 1) (j - 1)))) (min (min (F3 q 2147483647 (m - 1) i j) (F3 q 2147483647 (m - 1) i (j - 1))) (min (F3 q 2147483647 (m - 1) (i - 1) j) (if m = 0 ∧ i - 1 = -1 ∧ j - 1 = -1 then 0 else F3 q 2147483647 (m - 1) (i - 1) (j - 1))))) = max (q m i j) (min (if m = 0 ∧ i = 0 ∧ j = 0 then 0 else 2147483647) (min (F3 q 2147483647 (m - 1) i j) (min (F3 q 2147483647 m (i - 1) j) (min (F3 q 2147483647 (m - 1) (i - 1) j) (min (F3 q 2147483647 m i (j - 1)) (min (F3 q 2147483647 (m - 1) i (j - 1)) (min (F3 q 2147483647 m (i - 1) (j - 1)) (F3 q 2147483647 (m - 1) (i - 1) (j - 1))))))))) := by
      congr 1
      refine min_same (fun t ht => ?_) (fun t h1 h2 => ?_)
      · by_cases e : m = 0 ∧ i = 0 ∧ j = 0
        · rw [if_pos (by omega)] at ht
          rw [if_pos e]; omega
        · rw [if_neg (by omega)] at ht
          rw [if_neg e]; omega
      · by_cases e : m = 0 ∧ i = 0 ∧ j = 0
        · rw [if_pos e] at h1
          rw [if_pos (by omega)]; exact h1
        · rw [if_neg (by omega)]; exact h2
    rw [es]
    exact i'
theorem sp_layer2 {post : ((Nat → Int32)) → Prop} {m : Int} {f1 f2 f3 f4 : Nat → Int32} (hA : 1 ≤ A ∧ A ≤ 30) (hB : 1 ≤ B ∧ B ≤ 30) (hm : 0 ≤ m ∧ m < M)
    (hq : ∀ m a b, 0 ≤ m → m < M → 0 ≤ a → a < A → 0 ≤ b → b < B → 0 ≤ q m a b ∧ q m a b ≤ 2147483647)
    (hf : ∀ i j, 0 ≤ i → i < A → 0 ≤ j → j < B → iMax (f1 (i * 30 + j).toNat) (iMax (f2 i.toNat) (f3 j.toNat)) = zI (q m i j))
    (hb : Bef q A B m f4) (hp : ∀ f, Now q A B m A 0 f → post f) :
    ∀ (n : Nat) (i : Int) (f : Nat → Int32), 0 ≤ i → i + n = A → Now q A B m i 0 f → wpX4_passLayer_2 961 961 post (zI A) (zI B) f1 f2 f3 f4 (n + 1) f (zI i) := by
  intro n
  induction n with
  | zero =>
    intro i f h0 h1 a
    obtain rfl : i = A := by omega
    unfold wpX4_passLayer_2
    simp (disch := omega) only [zI_lit, zI_add, zI_sub, zI_mul, zI_neg, zI_le, zI_lt, zI_eq, zI_nat, zI_max, zI_min, zI_abs, forall_eq, Int.reduceNeg, Int.reduceAdd, Int.reduceMul, Int.reduceSub, Int.add_zero, Int.zero_add, Int.zero_mul, Int.toNat_zero]
    exact ⟨fun _ => hp f a, fun h => absurd (Int.le_refl _) h⟩
  | succ n ih =>
    intro i f h0 h1 a
    unfold wpX4_passLayer_2
    simp (disch := omega) only [zI_lit, zI_add, zI_sub, zI_mul, zI_neg, zI_le, zI_lt, zI_eq, zI_nat, zI_max, zI_min, zI_abs, forall_eq, Int.reduceNeg, Int.reduceAdd, Int.reduceMul, Int.reduceSub, Int.add_zero, Int.zero_add, Int.zero_mul, Int.toNat_zero]
    refine ⟨fun h => absurd h (by omega), fun _ => ⟨B.toNat + 1, ?_⟩⟩
    exact sp_layer13 hA hB hm ⟨h0, by omega⟩ hq (fun j => hf i j h0 (by omega)) hb (fun f' a' => ih (i + 1) f' (by omega) (by omega) a') B.toNat 0 f (by omega) (by omega) a
theorem sp_layer {post : ((Nat → Int32)) → Prop} {m : Int} {f1 f2 f3 f4 f5 : Nat → Int32} (hA : 1 ≤ A ∧ A ≤ 30) (hB : 1 ≤ B ∧ B ≤ 30) (hm : 0 ≤ m ∧ m < M)
    (hq : ∀ m a b, 0 ≤ m → m < M → 0 ≤ a → a < A → 0 ≤ b → b < B → 0 ≤ q m a b ∧ q m a b ≤ 2147483647)
    (hf : ∀ i j, 0 ≤ i → i < A → 0 ≤ j → j < B → iMax (f1 (i * 30 + j).toNat) (iMax (f2 i.toNat) (f3 j.toNat)) = zI (q m i j))
    (hb : Bef q A B m f4) (hn : ∀ i j, -1 ≤ i → i < A → -1 ≤ j → j < B → (i = -1 ∨ j = -1) → f5 ((i + 1) * 31 + j + 1).toNat = zI 2147483647)
    (hp : ∀ f, Bef q A B (m + 1) f → post f) : wpX4_passLayer 961 961 post (zI A) (zI B) f1 f2 f3 f4 f5 := by
  refine ⟨A.toNat + 1, sp_layer2 hA hB hm hq hf hb (fun f a => hp f (fun i j c1 c2 c3 c4 => ?_)) A.toNat 0 f5 (by omega) (by omega) (fun i j c1 c2 c3 c4 c5 => ?_)⟩
  · rw [if_neg (by omega), Int.add_sub_cancel]
    exact a i j c1 c2 c3 c4 (by omega)
  · rw [F3_out (by omega)]
    exact hn i j c1 c2 c3 c4 (by omega)
end
def Gd.dq (g : Gd) (S : Int → Int → Int → Int → Bool) (F : Int) (x : Int32) (w m o d : Int) : Int := if x = 0 ∧ S w m o d = true then F else g.far w m o d
def Gd.q3 (g : Gd) (S : Int → Int → Int → Int → Bool) (F : Int) (x : Int32) (w e o m a b : Int) : Int := max (if x = 0 then 0 else g.far e a o b) (max (g.dq S F x w m e a) (g.dq S F x w m o b))
section
variable {g : Gd} {S : Int → Int → Int → Int → Bool} {xs ys cs ws os v : Nat → Int32} {nw nl sz : Int32} {w e o m : Int} {x : Int32}
theorem dq_agr (hg : g.Ok) {d : Int} (h1 : g.hc w m) (h2 : g.hc o d) : Agr (g.dq S 2147483647 x w m o d) (g.dq S 2000000000 x w m o d) := by
  have := Gd.far_le hg h1 h2
  unfold Gd.dq
  split
  · exact Agr.far
  · exact Agr.of (by omega)
theorem q3_agr (hg : g.Ok) (hw : g.hw w) (he : g.hw e) (ho : g.hw o) : ∀ m a b, 0 ≤ m → m < g.cn w → 0 ≤ a → a < g.cn e → 0 ≤ b → b < g.cn o → Agr (g.q3 S 2147483647 x w e o m a b) (g.q3 S 2000000000 x w e o m a b) := by
  intro m a b c1 c2 c3 c4 c5 c6
  have := Gd.far_le hg (w := e) (m := a) (o := o) (d := b) ⟨he, c3, c4⟩ ⟨ho, c5, c6⟩
  unfold Gd.q3
  refine Agr.max ?_ ((dq_agr hg ⟨hw, c1, c2⟩ ⟨he, c3, c4⟩).max (dq_agr hg ⟨hw, c1, c2⟩ ⟨ho, c5, c6⟩))
  split
  · exact Agr.of (by omega)
  · exact Agr.of (by omega)
theorem sp_measure3 {post : ((Nat → Int32) × (Nat → Int32)) → Prop} (hg : g.Ok) (hc : CG g xs ys cs ws nw nl) (hS : SH1 g S nl xs ys ws sz os) (h1 : g.hc w m) (ho : g.hw o)
    (hp : ∀ sn f, (∀ d, 0 ≤ d → d < g.cn o → f d.toNat = zI (g.dq S 2147483647 x w m o d)) → post (sn, f)) :
    ∀ (n : Nat) (d : Int) (sn f : Nat → Int32), 0 ≤ d → d + n = g.cn o → (∀ d', 0 ≤ d' → d' < d → f d'.toNat = zI (g.dq S 2147483647 x w m o d')) → wpX4_measure_3 30 post nl cs xs ys ws sz os (n + 1) sn f (zI w) (zI m) (zI o) x (zI d) := by
  have e0 := hg.nw
  have e2 := hg.cn o ho.1 ho.2
  have ho' := ho
  unfold Gd.hw at ho'
  intro n
  induction n with
  | zero =>
    intro d sn f h0 h1' a
    unfold wpX4_measure_3
    simp (disch := omega) only [zI_lit, zI_add, zI_sub, zI_mul, zI_neg, zI_le, zI_lt, zI_eq, zI_nat, zI_max, zI_min, zI_abs, forall_eq, Int.reduceNeg, Int.reduceAdd, Int.reduceMul, Int.reduceSub, Int.add_zero, Int.zero_add, Int.zero_mul, Int.toNat_zero]
    rw [hc.cs o ho.1 ho.2]
    simp (disch := omega) only [zI_lit, zI_add, zI_sub, zI_mul, zI_neg, zI_le, zI_lt, zI_eq, zI_nat, zI_max, zI_min, zI_abs, forall_eq, Int.reduceNeg, Int.reduceAdd, Int.reduceMul, Int.reduceSub, Int.add_zero, Int.zero_add, Int.zero_mul, Int.toNat_zero]
    exact ⟨zI_in (by omega), fun _ => hp sn f (fun d' c1 c2 => a d' c1 (by omega)), fun h => absurd h (by omega)⟩
  | succ n ih =>
    intro d sn f h0 h1' a
    have h2 : g.hc o d := ⟨ho, h0, by omega⟩
    have go : ∀ (sn : Nat → Int32) (y : Int), y = g.dq S 2147483647 x w m o d → wpX4_measure_67 30 (fun y0 y1 y2 y3 y4 y5 y6 => wpX4_measure_3 30 post nl cs xs ys ws sz os (n + 1) y0 y1 y2 y3 y4 y5 y6) post nl cs xs ys ws sz os sn f (zI w) (zI m) (zI o) x (zI d) (zI d) (zI y) := by
      intro sn y hy
      unfold wpX4_measure_67
      simp (disch := omega) only [zI_lit, zI_add, zI_sub, zI_mul, zI_neg, zI_le, zI_lt, zI_eq, zI_nat, zI_max, zI_min, zI_abs, forall_eq, Int.reduceNeg, Int.reduceAdd, Int.reduceMul, Int.reduceSub, Int.add_zero, Int.zero_add, Int.zero_mul, Int.toNat_zero]
      refine ⟨zI_in (by omega), ih (d + 1) _ _ (by omega) (by omega) (fun d' c1 c2 => ?_)⟩
      rw [upd_eq]
      split
      · rw [show d' = d by omega, hy]
      · exact a d' c1 (by omega)
    have g38 : ¬ (x = 0 ∧ S w m o d = true) → ∀ sn, wpX4_measure_38 30 (fun y0 y1 y2 y3 y4 y5 y6 => wpX4_measure_3 30 post nl cs xs ys ws sz os (n + 1) y0 y1 y2 y3 y4 y5 y6) post nl cs xs ys ws sz os sn f (zI w) (zI m) (zI o) x (zI d) := by
      intro h sn
      unfold wpX4_measure_38 wpX4_measure_39
      refine ⟨fun _ => sp_distance hg hc h1 h2 (go sn _ ?_), fun h => absurd rfl h⟩
      unfold Gd.dq
      rw [if_neg h]
    unfold wpX4_measure_3
    simp (disch := omega) only [zI_lit, zI_add, zI_sub, zI_mul, zI_neg, zI_le, zI_lt, zI_eq, zI_nat, zI_max, zI_min, zI_abs, forall_eq, Int.reduceNeg, Int.reduceAdd, Int.reduceMul, Int.reduceSub, Int.add_zero, Int.zero_add, Int.zero_mul, Int.toNat_zero]
    rw [hc.cs o ho.1 ho.2]
    simp (disch := omega) only [zI_lit, zI_add, zI_sub, zI_mul, zI_neg, zI_le, zI_lt, zI_eq, zI_nat, zI_max, zI_min, zI_abs, forall_eq, Int.reduceNeg, Int.reduceAdd, Int.reduceMul, Int.reduceSub, Int.add_zero, Int.zero_add, Int.zero_mul, Int.toNat_zero]
    refine ⟨zI_in (by omega), fun h => absurd h (by omega), fun _ => ⟨fun hx => ?_, fun hx => ?_⟩⟩
    · exact g38 (fun h => hx (by rw [h.1]; rfl)) sn
    · have hx' : x = 0 := hx
      refine hS _ _ w m o d h1 h2 (fun hs sn' => ⟨fun h => absurd h (by decide), fun _ => ?_⟩) (fun hs sn' => ⟨fun _ => ?_, fun h => absurd rfl h⟩)
      · unfold wpX4_measure_39
        refine ⟨fun h => absurd h (by decide), fun _ => go sn' 2147483647 ?_⟩
        unfold Gd.dq
        rw [if_pos ⟨hx', hs⟩]
      · exact g38 (fun h => by rw [hs] at h; exact absurd h.2 (by decide)) sn'
theorem sp_measure {post : ((Nat → Int32) × (Nat → Int32)) → Prop} {sn f : Nat → Int32} (hg : g.Ok) (hc : CG g xs ys cs ws nw nl) (hS : SH1 g S nl xs ys ws sz os) (h1 : g.hc w m) (ho : g.hw o)
    (hp : ∀ sn f, (∀ d, 0 ≤ d → d < g.cn o → f d.toNat = zI (g.dq S 2147483647 x w m o d)) → post (sn, f)) : wpX4_measure 30 post nl cs xs ys ws sz os sn f (zI w) (zI m) (zI o) x :=
  ⟨(g.cn o).toNat + 1, sp_measure3 hg hc hS h1 ho hp _ 0 sn f (by omega) (by have := hg.cn o ho.1 ho.2; omega) (fun d' c1 c2 => by omega)⟩
def Btw (g : Gd) (x : Int32) (e o i j : Int) (f : Nat → Int32) : Prop := ∀ i' j', 0 ≤ i' → 0 ≤ j' → j' < g.cn o → (i' < i ∨ i' = i ∧ j' < j) → f (i' * 30 + j').toNat = zI (if x = 0 then 0 else g.far e i' o j')
theorem sp_between15 {k3 : (Nat → Int32) → Int32 → Int32 → Int32 → Int32 → Prop} {post : ((Nat → Int32)) → Prop} {i : Int} (hg : g.Ok) (hc : CG g xs ys cs ws nw nl) (he : g.hw e) (ho : g.hw o) (hi : 0 ≤ i ∧ i < g.cn e)
    (hk : ∀ f, Btw g x e o (i + 1) 0 f → k3 f (zI e) (zI o) x (zI (i + 1))) :
    ∀ (n : Nat) (j : Int) (f : Nat → Int32), 0 ≤ j → j + n = g.cn o → Btw g x e o i j f → wpX4_measureBetween_15 k3 post (zI (g.cn e)) (zI (g.cn o)) xs ys (n + 1) f (zI e) (zI o) x (zI i) (zI j) := by
  have e1 := hg.cn e he.1 he.2
  have e2 := hg.cn o ho.1 ho.2
  intro n
  induction n with
  | zero =>
    intro j f h0 h1 a
    unfold wpX4_measureBetween_15
    simp (disch := omega) only [zI_lit, zI_add, zI_sub, zI_mul, zI_neg, zI_le, zI_lt, zI_eq, zI_nat, zI_max, zI_min, zI_abs, forall_eq, Int.reduceNeg, Int.reduceAdd, Int.reduceMul, Int.reduceSub, Int.add_zero, Int.zero_add, Int.zero_mul, Int.toNat_zero]
    exact ⟨fun _ => hk f (fun i' j' c1 c2 c3 c4 => a i' j' c1 c2 c3 (by omega)), fun h => absurd h (by omega)⟩
  | succ n ih =>
    intro j f h0 h1 a
    have go : ∀ y : Int, y = (if x = 0 then 0 else g.far e i o j) → wpX4_measureBetween_55 (fun y0 y1 y2 y3 y4 y5 => wpX4_measureBetween_15 k3 post (zI (g.cn e)) (zI (g.cn o)) xs ys (n + 1) y0 y1 y2 y3 y4 y5) k3 post (zI (g.cn e)) (zI (g.cn o)) xs ys f (zI e) (zI o) x (zI i) (zI j) (zI (i * 30 + j)) (zI y) := by
      intro y hy
      unfold wpX4_measureBetween_55
      simp (disch := omega) only [zI_lit, zI_add, zI_sub, zI_mul, zI_neg, zI_le, zI_lt, zI_eq, zI_nat, zI_max, zI_min, zI_abs, forall_eq, Int.reduceNeg, Int.reduceAdd, Int.reduceMul, Int.reduceSub, Int.add_zero, Int.zero_add, Int.zero_mul, Int.toNat_zero]
      refine ⟨zI_in (by omega), ih (j + 1) _ (by omega) (by omega) (fun i' j' c1 c2 c3 c4 => ?_)⟩
      rw [upd_eq]
      split
      · rw [show i' = i by omega, show j' = j by omega, hy]
      · exact a i' j' c1 c2 c3 (by by_cases z : i' = i <;> by_cases z' : j' = j <;> first | (subst z; subst z'; exact absurd rfl ‹_›) | omega)
    unfold wpX4_measureBetween_15
    simp (disch := omega) only [zI_lit, zI_add, zI_sub, zI_mul, zI_neg, zI_le, zI_lt, zI_eq, zI_nat, zI_max, zI_min, zI_abs, forall_eq, Int.reduceNeg, Int.reduceAdd, Int.reduceMul, Int.reduceSub, Int.add_zero, Int.zero_add, Int.zero_mul, Int.toNat_zero]
    refine ⟨fun h => absurd h (by omega), fun _ => ⟨fun hx => ?_, fun hx => ?_⟩⟩
    · exact go 0 (by rw [if_pos (show x = 0 from hx)])
    · exact sp_distance hg hc ⟨he, hi⟩ ⟨ho, h0, by omega⟩ (go _ (by rw [if_neg (show ¬ x = 0 from hx)]))
theorem sp_between {post : ((Nat → Int32)) → Prop} {f : Nat → Int32} (hg : g.Ok) (hc : CG g xs ys cs ws nw nl) (he : g.hw e) (ho : g.hw o)
    (hp : ∀ f, Btw g x e o (g.cn e) 0 f → post f) : wpX4_measureBetween post (zI (g.cn e)) (zI (g.cn o)) xs ys f (zI e) (zI o) x := by
  have e1 := hg.cn e he.1 he.2
  have e2 := hg.cn o ho.1 ho.2
  have key : ∀ (n : Nat) (i : Int) (f : Nat → Int32), 0 ≤ i → i + n = g.cn e → Btw g x e o i 0 f → wpX4_measureBetween_3 post (zI (g.cn e)) (zI (g.cn o)) xs ys (n + 1) f (zI e) (zI o) x (zI i) := by
    intro n
    induction n with
    | zero =>
      intro i f h0 h1 a
      obtain rfl : i = g.cn e := by omega
      unfold wpX4_measureBetween_3
      simp (disch := omega) only [zI_lit, zI_add, zI_sub, zI_mul, zI_neg, zI_le, zI_lt, zI_eq, zI_nat, zI_max, zI_min, zI_abs, forall_eq, Int.reduceNeg, Int.reduceAdd, Int.reduceMul, Int.reduceSub, Int.add_zero, Int.zero_add, Int.zero_mul, Int.toNat_zero]
      exact ⟨fun _ => hp f a, fun h => absurd (Int.le_refl _) h⟩
    | succ n ih =>
      intro i f h0 h1 a
      unfold wpX4_measureBetween_3
      simp (disch := omega) only [zI_lit, zI_add, zI_sub, zI_mul, zI_neg, zI_le, zI_lt, zI_eq, zI_nat, zI_max, zI_min, zI_abs, forall_eq, Int.reduceNeg, Int.reduceAdd, Int.reduceMul, Int.reduceSub, Int.add_zero, Int.zero_add, Int.zero_mul, Int.toNat_zero]
      refine ⟨fun h => absurd h (by omega), fun _ => ⟨(g.cn o).toNat + 1, ?_⟩⟩
      exact sp_between15 hg hc he ho ⟨h0, by omega⟩ (fun f' a' => ih (i + 1) f' (by omega) (by omega) a') _ 0 f (by omega) (by omega) a
  exact ⟨(g.cn e).toNat + 1, key _ 0 f (by omega) (by omega) (fun i' j' c1 c2 c3 c4 => by omega)⟩
end
