theorem ge_le {K a x : Int} (ha : 0 ≤ a ∧ a ≤ K) : K * min 0 x ≤ a * x ∧ a * x ≤ K * max 0 x := by
  rcases Int.le_total 0 x with h | h
  · rw [Int.min_eq_left h, Int.max_eq_right h, Int.mul_zero]
    exact ⟨Int.mul_nonneg ha.1 h, Int.mul_le_mul_of_nonneg_right ha.2 h⟩
  · rw [Int.min_eq_right h, Int.max_eq_left h, Int.mul_zero]
    have h1 := Int.mul_nonneg ha.1 (show 0 ≤ -x by omega)
    have h2 := Int.mul_le_mul_of_nonneg_right ha.2 (show 0 ≤ -x by omega)
    rw [Int.mul_neg] at h1 h2
    rw [Int.mul_neg] at h2
    omega
theorem ge_mix {K b x y : Int} (hb : 0 ≤ b ∧ b ≤ K) : K * min x y ≤ (K - b) * x + b * y ∧ (K - b) * x + b * y ≤ K * max x y := by
  have a1 := Int.mul_le_mul_of_nonneg_left (show min x y ≤ x by omega) (show 0 ≤ K - b by omega)
  have a2 := Int.mul_le_mul_of_nonneg_left (show min x y ≤ y by omega) hb.1
  have a3 := Int.mul_le_mul_of_nonneg_left (show x ≤ max x y by omega) (show 0 ≤ K - b by omega)
  have a4 := Int.mul_le_mul_of_nonneg_left (show y ≤ max x y by omega) hb.1
  have e1 : (K - b) * min x y + b * min x y = K * min x y := by rw [← Int.add_mul]; congr 1; omega
  have e2 : (K - b) * max x y + b * max x y = K * max x y := by rw [← Int.add_mul]; congr 1; omega
  omega
theorem ge_cut {K x y : Int} (hK : 0 < K) (h : K * x ≤ K * y) : x ≤ y := Int.le_of_mul_le_mul_left h hK
theorem ge_sgn {c K : Int} : c * (c - K) ≤ 0 ↔ (0 ≤ c ∧ c ≤ K) ∨ (K ≤ c ∧ c ≤ 0) := by
  constructor
  · intro h
    rcases Int.lt_trichotomy c 0 with hc | hc | hc
    · by_cases hk : K ≤ c
      · exact Or.inr ⟨hk, by omega⟩
      · have := Int.mul_pos_of_neg_of_neg hc (show c - K < 0 by omega)
        omega
    · omega
    · by_cases hk : c ≤ K
      · exact Or.inl ⟨by omega, hk⟩
      · have := Int.mul_pos hc (show 0 < c - K by omega)
        omega
  · rintro (h | h)
    · have := Int.mul_nonneg h.1 (show 0 ≤ K - c by omega)
      rw [show c - K = -(K - c) by omega, Int.mul_neg]; omega
    · have := Int.mul_nonneg (show 0 ≤ -c by omega) (show 0 ≤ c - K by omega)
      rw [Int.neg_mul] at this; omega
theorem ge_bt {K x c v : Int} (hK : K ≠ 0) (h : K * x = c * v) (hc : c * (c - K) ≤ 0) : min 0 v ≤ x ∧ x ≤ max 0 v := by
  rcases ge_sgn.1 hc with hc | hc
  · have g := ge_le (x := v) hc
    rw [← h] at g
    exact ⟨ge_cut (by omega) g.1, ge_cut (by omega) g.2⟩
  · have g := ge_le (K := -K) (a := -c) (x := v) (by omega)
    rw [Int.neg_mul, Int.neg_mul, Int.neg_mul, ← h] at g
    exact ⟨ge_cut (K := -K) (by omega) (by rw [Int.neg_mul, Int.neg_mul]; omega), ge_cut (K := -K) (by omega) (by rw [Int.neg_mul, Int.neg_mul]; omega)⟩
theorem ge_inv {K x c v : Int} (hv : v ≠ 0) (h : K * x = c * v) (hx : min 0 v ≤ x ∧ x ≤ max 0 v) : c * (c - K) ≤ 0 := by
  have hx' : x * (x - v) ≤ 0 := ge_sgn.2 (by omega)
  have b := ge_bt (K := v) (x := c) (c := x) (v := K) hv (by rw [Int.mul_comm v c, Int.mul_comm x K]; exact h.symm) hx'
  exact ge_sgn.2 (by omega)
theorem ge_box {K a b u p v : Int} (hK : K ≠ 0) (h : K * p = a * u - b * v) (ha : a * (a - K) ≤ 0) (hb : b * (b - K) ≤ 0) : min p (p + v) ≤ max 0 u ∧ min 0 u ≤ max p (p + v) := by
  have key : ∀ {K a b : Int}, 0 < K → K * p = a * u - b * v → (0 ≤ a ∧ a ≤ K) → (0 ≤ b ∧ b ≤ K) → min p (p + v) ≤ max 0 u ∧ min 0 u ≤ max p (p + v) := by
    intro K a b hK h ha hb
    have g1 := ge_le (x := u) ha
    have g2 := ge_mix (x := p) (y := p + v) hb
    have e : (K - b) * p + b * (p + v) = a * u := by rw [Int.sub_mul, Int.mul_add]; omega
    rw [e] at g2
    exact ⟨ge_cut hK (by omega), ge_cut hK (by omega)⟩
  rcases ge_sgn.1 ha with ha | ha <;> rcases ge_sgn.1 hb with hb | hb
  · exact key (by omega) h ha hb
  · have : b = 0 := by omega
    exact key (K := K) (a := a) (b := b) (by omega) h ha (by omega)
  · have : b = 0 := by omega
    exact key (K := -K) (a := -a) (b := -b) (by omega) (by rw [Int.neg_mul, Int.neg_mul, Int.neg_mul]; omega) (by omega) (by omega)
  · exact key (K := -K) (a := -a) (b := -b) (by omega) (by rw [Int.neg_mul, Int.neg_mul, Int.neg_mul]; omega) (by omega) (by omega)
section
variable {u1 u2 v1 v2 p1 p2 sA sM K : Int}
def onP (s a1 a2 b1 b2 x1 x2 : Int) : Prop := s = 0 ∧ (min a1 b1 ≤ x1 ∧ x1 ≤ max a1 b1) ∧ min a2 b2 ≤ x2 ∧ x2 ≤ max a2 b2
def bxs (u p v : Int) : Prop := min p (p + v) ≤ max 0 u ∧ min 0 u ≤ max p (p + v)
theorem ge_core (eA : sA = u1 * p2 - u2 * p1) (eM : sM = v2 * p1 - v1 * p2) (eK : K = u1 * v2 - u2 * v1) :
    (bxs u1 p1 v1 ∧ bxs u2 p2 v2 ∧ sA * (sA + K) ≤ 0 ∧ sM * (sM - K) ≤ 0) ↔ (onP sA 0 0 u1 u2 p1 p2 ∨ onP (sA + K) 0 0 u1 u2 (p1 + v1) (p2 + v2) ∨ onP sM p1 p2 (p1 + v1) (p2 + v2) 0 0 ∨ onP (sM - K) p1 p2 (p1 + v1) (p2 + v2) u1 u2 ∨ (sA * (sA + K) < 0 ∧ sM * (sM - K) < 0)) := by
  have i1 : K * p1 = sM * u1 + sA * v1 := by rw [eK, eM, eA]; (simp only [Int.mul_add, Int.add_mul, Int.mul_sub, Int.sub_mul, Int.neg_mul, Int.mul_neg, Int.mul_assoc, Int.mul_comm, Int.mul_left_comm]; omega)
  have i2 : K * p2 = sM * u2 + sA * v2 := by rw [eK, eM, eA]; (simp only [Int.mul_add, Int.add_mul, Int.mul_sub, Int.sub_mul, Int.neg_mul, Int.mul_neg, Int.mul_assoc, Int.mul_comm, Int.mul_left_comm]; omega)
  have sq : ∀ x : Int, x * x ≤ 0 → x = 0 := by
    intro x hx
    rcases Int.lt_trichotomy x 0 with h | h | h
    · have := Int.mul_pos_of_neg_of_neg h h; omega
    · exact h
    · have := Int.mul_pos h h; omega
  have rA : sA * (sA + K) = (-sA) * (-sA - K) := by (simp only [Int.mul_add, Int.add_mul, Int.mul_sub, Int.sub_mul, Int.neg_mul, Int.mul_neg, Int.mul_assoc, Int.mul_comm, Int.mul_left_comm]; omega)
  by_cases hK : K = 0
  · subst hK
    have j1 : sM * u1 + sA * v1 = 0 := by rw [← i1, Int.zero_mul]
    have j2 : sM * u2 + sA * v2 = 0 := by rw [← i2, Int.zero_mul]
    rw [Int.add_zero, Int.sub_zero]
    have uv : u1 * v2 = u2 * v1 := by omega
    constructor
    · rintro ⟨hb1, hb2, h1, h2⟩
      have a0 := sq _ h1
      have m0 := sq _ h2
      unfold bxs at hb1 hb2
      rw [a0] at eA
      rw [m0] at eM
      have up : u1 * p2 = u2 * p1 := by omega
      have vp : v1 * p2 = v2 * p1 := by omega
      by_cases hu : u1 = 0 ∧ u2 = 0
      · exact Or.inr (Or.inr (Or.inl ⟨m0, by omega, by omega⟩))
      · -- the points by one coordinate, the other follows
        have by1 : u1 ≠ 0 → ∀ x y, u1 * y = u2 * x → (min 0 u1 ≤ x ∧ x ≤ max 0 u1) → min 0 u2 ≤ y ∧ y ≤ max 0 u2 := by
          intro hn x y e hx
          exact ge_bt (K := u1) (x := y) (c := x) (v := u2) hn (by rw [e, Int.mul_comm]) (ge_sgn.2 (by omega))
        have by2 : u2 ≠ 0 → ∀ x y, u1 * y = u2 * x → (min 0 u2 ≤ y ∧ y ≤ max 0 u2) → min 0 u1 ≤ x ∧ x ≤ max 0 u1 := by
          intro hn x y e hx
          exact ge_bt (K := u2) (x := x) (c := y) (v := u1) hn (by rw [← e, Int.mul_comm]) (ge_sgn.2 (by omega))
        have bx1 : v1 ≠ 0 → ∀ x y, v1 * y = v2 * x → (min 0 v1 ≤ x ∧ x ≤ max 0 v1) → min 0 v2 ≤ y ∧ y ≤ max 0 v2 := by
          intro hn x y e hx
          exact ge_bt (K := v1) (x := y) (c := x) (v := v2) hn (by rw [e, Int.mul_comm]) (ge_sgn.2 (by omega))
        have bx2 : v2 ≠ 0 → ∀ x y, v1 * y = v2 * x → (min 0 v2 ≤ y ∧ y ≤ max 0 v2) → min 0 v1 ≤ x ∧ x ≤ max 0 v1 := by
          intro hn x y e hx
          exact ge_bt (K := v2) (x := x) (c := y) (v := v1) hn (by rw [← e, Int.mul_comm]) (ge_sgn.2 (by omega))
        have eB : u1 * (p2 + v2) = u2 * (p1 + v1) := by rw [Int.mul_add, Int.mul_add]; omega
        have eM' : v1 * (-p2) = v2 * (-p1) := by rw [Int.mul_neg, Int.mul_neg]; omega
        have eD' : v1 * (u2 - p2) = v2 * (u1 - p1) := by rw [Int.mul_sub, Int.mul_sub, Int.mul_comm v1 u2, Int.mul_comm v2 u1]; omega
        by_cases h1 : u1 = 0
        · have h2 : u2 ≠ 0 := fun h => hu ⟨h1, h⟩
          by_cases q1 : min 0 u2 ≤ p2 ∧ p2 ≤ max 0 u2
          · exact Or.inl ⟨a0, by2 h2 p1 p2 up q1, q1⟩
          · by_cases q2 : min 0 u2 ≤ p2 + v2 ∧ p2 + v2 ≤ max 0 u2
            · exact Or.inr (Or.inl ⟨a0, by2 h2 _ _ eB q2, q2⟩)
            · have hv : v2 ≠ 0 := by omega
              have q3 := bx2 hv (-p1) (-p2) eM' (by omega)
              exact Or.inr (Or.inr (Or.inl ⟨m0, by omega, by omega⟩))
        · by_cases q1 : min 0 u1 ≤ p1 ∧ p1 ≤ max 0 u1
          · exact Or.inl ⟨a0, q1, by1 h1 p1 p2 up q1⟩
          · by_cases q2 : min 0 u1 ≤ p1 + v1 ∧ p1 + v1 ≤ max 0 u1
            · exact Or.inr (Or.inl ⟨a0, q2, by1 h1 _ _ eB q2⟩)
            · have hv : v1 ≠ 0 := by omega
              have q3 := bx1 hv (-p1) (-p2) eM' (by omega)
              exact Or.inr (Or.inr (Or.inl ⟨m0, by omega, by omega⟩))
    · have mz : sA = 0 → (u1 ≠ 0 ∨ u2 ≠ 0) → sM = 0 := by
        intro h hu
        rw [h, Int.zero_mul, Int.add_zero] at j1 j2
        rcases hu with hu | hu
        · exact (Int.mul_eq_zero.mp j1).resolve_right hu
        · exact (Int.mul_eq_zero.mp j2).resolve_right hu
      have az : sM = 0 → (v1 ≠ 0 ∨ v2 ≠ 0) → sA = 0 := by
        intro h hu
        rw [h, Int.zero_mul, Int.zero_add] at j1 j2
        rcases hu with hu | hu
        · exact (Int.mul_eq_zero.mp j1).resolve_right hu
        · exact (Int.mul_eq_zero.mp j2).resolve_right hu
      have fin : sA = 0 → sM = 0 → bxs u1 p1 v1 → bxs u2 p2 v2 → bxs u1 p1 v1 ∧ bxs u2 p2 v2 ∧ sA * sA ≤ 0 ∧ sM * sM ≤ 0 := by
        intro h h' b1 b2
        rw [h, h']
        exact ⟨b1, b2, by decide, by decide⟩
      unfold onP
      rintro (⟨s, x, y⟩ | ⟨s, x, y⟩ | ⟨s, x, y⟩ | ⟨s, x, y⟩ | ⟨h, _⟩)
      · refine fin s ?_ (by unfold bxs; omega) (by unfold bxs; omega)
        by_cases hu : u1 ≠ 0 ∨ u2 ≠ 0
        · exact mz s hu
        · have e1 : p1 = 0 := by omega
          have e2 : p2 = 0 := by omega
          rw [eM, e1, e2]; omega
      · refine fin s ?_ (by unfold bxs; omega) (by unfold bxs; omega)
        by_cases hu : u1 ≠ 0 ∨ u2 ≠ 0
        · exact mz s hu
        · have e1 : v1 = -p1 := by omega
          have e2 : v2 = -p2 := by omega
          rw [eM, e1, e2]; (simp only [Int.mul_add, Int.add_mul, Int.mul_sub, Int.sub_mul, Int.neg_mul, Int.mul_neg, Int.mul_assoc, Int.mul_comm, Int.mul_left_comm]; omega)
      · refine fin ?_ s (by unfold bxs; omega) (by unfold bxs; omega)
        by_cases hv : v1 ≠ 0 ∨ v2 ≠ 0
        · exact az s hv
        · have e1 : p1 = 0 := by omega
          have e2 : p2 = 0 := by omega
          rw [eA, e1, e2]; omega
      · refine fin ?_ s (by unfold bxs; omega) (by unfold bxs; omega)
        by_cases hv : v1 ≠ 0 ∨ v2 ≠ 0
        · exact az s hv
        · have e1 : p1 = u1 := by omega
          have e2 : p2 = u2 := by omega
          rw [eA, e1, e2]; (simp only [Int.mul_add, Int.add_mul, Int.mul_sub, Int.sub_mul, Int.neg_mul, Int.mul_neg, Int.mul_assoc, Int.mul_comm, Int.mul_left_comm]; omega)
      · have := (sq_le (x := sA) (n := max sA (-sA)) (by omega)).1
        omega
  · have k1 : K * p1 = sM * u1 - (-sA) * v1 := by rw [Int.neg_mul]; omega
    have k2 : K * p2 = sM * u2 - (-sA) * v2 := by rw [Int.neg_mul]; omega
    have boxes : sA * (sA + K) ≤ 0 → sM * (sM - K) ≤ 0 → bxs u1 p1 v1 ∧ bxs u2 p2 v2 := by
      intro h1 h2
      rw [rA] at h1
      exact ⟨ge_box hK k1 h2 h1, ge_box hK k2 h2 h1⟩
    constructor
    · rintro ⟨hb1, hb2, h1, h2⟩
      by_cases hA : sA = 0
      · rw [hA, Int.zero_mul, Int.add_zero] at i1 i2
        exact Or.inl ⟨hA, ge_bt hK i1 h2, ge_bt hK i2 h2⟩
      by_cases hB : sA + K = 0
      · have e1 : K * (p1 + v1) = sM * u1 := by
          have : sA * v1 + K * v1 = 0 := by rw [← Int.add_mul, hB, Int.zero_mul]
          rw [Int.mul_add]; omega
        have e2 : K * (p2 + v2) = sM * u2 := by
          have : sA * v2 + K * v2 = 0 := by rw [← Int.add_mul, hB, Int.zero_mul]
          rw [Int.mul_add]; omega
        exact Or.inr (Or.inl ⟨hB, ge_bt hK e1 h2, ge_bt hK e2 h2⟩)
      by_cases hM : sM = 0
      · rw [hM, Int.zero_mul, Int.zero_add] at i1 i2
        rw [rA] at h1
        have q1 := ge_bt (x := -p1) (v := v1) hK (by rw [Int.mul_neg, Int.neg_mul]; omega) h1
        have q2 := ge_bt (x := -p2) (v := v2) hK (by rw [Int.mul_neg, Int.neg_mul]; omega) h1
        exact Or.inr (Or.inr (Or.inl ⟨hM, by omega, by omega⟩))
      by_cases hD : sM - K = 0
      · rw [rA] at h1
        have e : sM = K := by omega
        rw [e] at i1 i2
        have q1 := ge_bt (x := u1 - p1) (v := v1) hK (by rw [Int.mul_sub, Int.neg_mul]; omega) h1
        have q2 := ge_bt (x := u2 - p2) (v := v2) hK (by rw [Int.mul_sub, Int.neg_mul]; omega) h1
        exact Or.inr (Or.inr (Or.inr (Or.inl ⟨hD, by omega, by omega⟩)))
      · have n1 : sA * (sA + K) ≠ 0 := fun h => (Int.mul_eq_zero.mp h).elim hA hB
        have n2 : sM * (sM - K) ≠ 0 := fun h => (Int.mul_eq_zero.mp h).elim hM hD
        exact Or.inr (Or.inr (Or.inr (Or.inr ⟨by omega, by omega⟩)))
    · have go : sA * (sA + K) ≤ 0 → sM * (sM - K) ≤ 0 → bxs u1 p1 v1 ∧ bxs u2 p2 v2 ∧ sA * (sA + K) ≤ 0 ∧ sM * (sM - K) ≤ 0 := fun h1 h2 => ⟨(boxes h1 h2).1, (boxes h1 h2).2, h1, h2⟩
      have hu : u1 ≠ 0 ∨ u2 ≠ 0 := by
        by_cases h : u1 = 0
        · right; intro h'; rw [h, h'] at eK; omega
        · exact Or.inl h
      have hv : v1 ≠ 0 ∨ v2 ≠ 0 := by
        by_cases h : v1 = 0
        · right; intro h'; rw [h, h'] at eK; omega
        · exact Or.inl h
      unfold onP
      rintro (⟨s, x, y⟩ | ⟨s, x, y⟩ | ⟨s, x, y⟩ | ⟨s, x, y⟩ | ⟨h1, h2⟩)
      · rw [s, Int.zero_mul, Int.add_zero] at i1 i2
        refine go (by rw [s, Int.zero_mul]; omega) ?_
        rcases hu with h | h
        · exact ge_inv h i1 x
        · exact ge_inv h i2 y
      · have e1 : K * (p1 + v1) = sM * u1 := by
          have : sA * v1 + K * v1 = 0 := by rw [← Int.add_mul, s, Int.zero_mul]
          rw [Int.mul_add]; omega
        have e2 : K * (p2 + v2) = sM * u2 := by
          have : sA * v2 + K * v2 = 0 := by rw [← Int.add_mul, s, Int.zero_mul]
          rw [Int.mul_add]; omega
        refine go (by rw [s, Int.mul_zero]; omega) ?_
        rcases hu with h | h
        · exact ge_inv h e1 x
        · exact ge_inv h e2 y
      · rw [s, Int.zero_mul, Int.zero_add] at i1 i2
        refine go ?_ (by rw [s, Int.zero_mul]; omega)
        rw [rA]
        rcases hv with h | h
        · exact ge_inv (x := -p1) h (by rw [Int.mul_neg, Int.neg_mul]; omega) (by omega)
        · exact ge_inv (x := -p2) h (by rw [Int.mul_neg, Int.neg_mul]; omega) (by omega)
      · have e : sM = K := by omega
        rw [e] at i1 i2
        refine go ?_ (by rw [s, Int.mul_zero]; omega)
        rw [rA]
        rcases hv with h | h
        · exact ge_inv (x := u1 - p1) h (by rw [Int.mul_sub, Int.neg_mul]; omega) (by omega)
        · exact ge_inv (x := u2 - p2) h (by rw [Int.mul_sub, Int.neg_mul]; omega) (by omega)
      · exact go (by omega) (by omega)
end
