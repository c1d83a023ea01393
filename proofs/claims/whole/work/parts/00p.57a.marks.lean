def Mk : Type := Int × (Int → Int) × (Int → Int) × (Int → Int) × (Int → Int)
def Mk.n (k : Mk) : Int := k.1
def Mk.wh (k : Mk) : Int → Int := k.2.1
def Mk.mi (k : Mk) : Int → Int := k.2.2.1
def Mk.x (k : Mk) : Int → Int := k.2.2.2.1
def Mk.y (k : Mk) : Int → Int := k.2.2.2.2
def Mk.Ok (k : Mk) : Prop := (0 ≤ k.n ∧ k.n ≤ 20) ∧ ∀ a, 0 ≤ a → a < k.n → (k.wh a = 0 ∨ k.wh a = 1) ∧ (0 ≤ k.mi a ∧ k.mi a ≤ 999) ∧ (0 ≤ k.x a ∧ k.x a ≤ 999) ∧ 0 ≤ k.y a ∧ k.y a ≤ 999
def CM (k : Mk) (mi xs ys wh : Nat → Int32) (sz : Int32) : Prop := sz = zI k.n ∧ ∀ a, 0 ≤ a → a < k.n → mi a.toNat = zI (k.mi a) ∧ xs a.toNat = zI (k.x a) ∧ ys a.toNat = zI (k.y a) ∧ wh a.toNat = zI (k.wh a)
def WM (k : Mk) (v : Nat → Int32) : Prop := v 4 = zI k.n ∧ ∀ a, 0 ≤ a → a < k.n → v (778 + 4 * a).toNat = zI (k.wh a) ∧ v (778 + 4 * a + 1).toNat = zI (k.mi a) ∧ v (778 + 4 * a + 2).toNat = zI (k.x a) ∧ v (778 + 4 * a + 3).toNat = zI (k.y a)
def Mk.d (k : Mk) (a b : Int) : Int := (k.x a - k.x b) * (k.x a - k.x b) + (k.y a - k.y b) * (k.y a - k.y b)
theorem sq_comm (x y : Int) : (x - y) * (x - y) = (y - x) * (y - x) := by
  rw [show x - y = -(y - x) by omega, Int.neg_mul_neg]
theorem Mk.d_comm (k : Mk) (a b : Int) : k.d a b = k.d b a := by
  unfold Mk.d
  rw [sq_comm (k.x a), sq_comm (k.y a)]
section
variable {k : Mk} {mi xs ys wh v : Nat → Int32} {sz : Int32} {a b : Int}
theorem Mk.d_bd (hk : k.Ok) (ha : 0 ≤ a ∧ a < k.n) (hb : 0 ≤ b ∧ b < k.n) : 0 ≤ k.d a b ∧ k.d a b ≤ 1996002 := by
  have h1 := hk.2 a ha.1 ha.2
  have h2 := hk.2 b hb.1 hb.2
  have f1 := sq_le (x := k.x a - k.x b) (n := 999) (by omega)
  have f2 := sq_le (x := k.y a - k.y b) (n := 999) (by omega)
  unfold Mk.d
  omega
theorem sp_mdist {post : Int32 → Unit → Prop} (hk : k.Ok) (hc : CM k mi xs ys wh sz) (ha : 0 ≤ a ∧ a < k.n) (hb : 0 ≤ b ∧ b < k.n) (hp : post (zI (k.d a b)) ()) : wpX3_distance post xs ys (zI a) (zI b) := by
  have n20 := hk.1
  have c1 := hc.2 a ha.1 ha.2
  have c2 := hc.2 b hb.1 hb.2
  unfold wpX3_distance
  simp (disch := omega) only [zI_lit, zI_add, zI_sub, zI_mul, zI_neg, zI_le, zI_lt, zI_eq, zI_nat, zI_max, zI_min, zI_abs, forall_eq, Int.reduceNeg, Int.reduceAdd, Int.reduceMul, Int.reduceSub, Int.add_zero, Int.zero_add, Int.zero_mul, Int.toNat_zero]
  rw [c1.2.1, c2.2.1, c1.2.2.1, c2.2.2.1]
  simp (disch := omega) only [zI_lit, zI_add, zI_sub, zI_mul, zI_neg, zI_le, zI_lt, zI_eq, zI_nat, zI_max, zI_min, zI_abs, forall_eq, Int.reduceNeg, Int.reduceAdd, Int.reduceMul, Int.reduceSub, Int.add_zero, Int.zero_add, Int.zero_mul, Int.toNat_zero]
  exact ⟨zI_in (by omega), zI_in (by omega), zI_in (by omega), zI_in (by omega), hp⟩
def Mk.q (k : Mk) (a b : Int) : Prop := k.wh a ≠ k.wh b ∧ k.mi a = k.mi b
def Nd (k : Mk) (P : Int → Int → Prop) (G : Int) : Prop := (-1 ≤ G ∧ G ≤ 1996002) ∧ (G = -1 ∨ ∃ a b, P a b ∧ k.q a b ∧ G = k.d a b) ∧ (∀ a b, P a b → k.q a b → k.d a b ≤ G)
theorem Nd.imp {P P' : Int → Int → Prop} {G : Int} (h : Nd k P G) (h1 : ∀ a b, P a b ↔ P' a b) : Nd k P' G := by
  have e : P = P' := by funext a b; exact propext (h1 a b)
  rw [← e]; exact h
theorem Nd.skip {P : Int → Int → Prop} {G : Int} (h : Nd k P G) (hq : ¬ k.q a b) : Nd k (fun x y => P x y ∨ (x = a ∧ y = b)) G := by
  refine ⟨h.1, ?_, fun x y hP hxy => ?_⟩
  · rcases h.2.1 with h' | ⟨x, y, h1, h2⟩
    · exact Or.inl h'
    · exact Or.inr ⟨x, y, Or.inl h1, h2⟩
  · rcases hP with hP | hP
    · exact h.2.2 x y hP hxy
    · rw [hP.1, hP.2] at hxy; exact absurd hxy hq
theorem Nd.take {P : Int → Int → Prop} {G : Int} (h : Nd k P G) (hq : k.q a b) (hd : 0 ≤ k.d a b ∧ k.d a b ≤ 1996002) : Nd k (fun x y => P x y ∨ (x = a ∧ y = b)) (max G (k.d a b)) := by
  refine ⟨by have := h.1; omega, ?_, fun x y hP hxy => ?_⟩
  · by_cases hg : G ≤ k.d a b
    · exact Or.inr ⟨a, b, Or.inr ⟨rfl, rfl⟩, hq, by omega⟩
    · rw [show max G (k.d a b) = G by omega]
      rcases h.2.1 with h' | ⟨x, y, h1, h2⟩
      · exact Or.inl h'
      · exact Or.inr ⟨x, y, Or.inl h1, h2⟩
  · rcases hP with hP | hP
    · have := h.2.2 x y hP hxy; omega
    · rw [hP.1, hP.2]; omega
theorem Nd.same {P : Int → Int → Prop} {G G' : Int} (h : Nd k P G) (h' : Nd k P G') (hk : ∀ a b, P a b → 0 ≤ k.d a b) : G = G' := by
  have key : ∀ {G G' : Int}, Nd k P G → Nd k P G' → G ≤ G' := by
    intro G G' h h'
    rcases h.2.1 with e | ⟨a, b, h1, h2, h3⟩
    · rw [e]; exact h'.1.1
    · rw [h3]; exact h'.2.2 a b h1 h2
  exact Int.le_antisymm (key h h') (key h' h)
def Mk.pairs (k : Mk) (x y : Int) : Prop := 0 ≤ x ∧ x < y ∧ y < k.n
theorem sp_needed16 {k4 : Int32 → Int32 → Prop} {post : Int32 → Unit → Prop} (hk : k.Ok) (hc : CM k mi xs ys wh sz) (ha : 0 ≤ a ∧ a < k.n)
    (hK : ∀ G, Nd k (fun x y => k.pairs x y ∧ x < a + 1) G → k4 (zI G) (zI (a + 1))) :
    ∀ (n : Nat) (b G : Int), a < b → b + n = k.n → Nd k (fun x y => k.pairs x y ∧ (x < a ∨ x = a ∧ y < b)) G → wpX3_greatestOfOneMinute_16 k4 post sz wh mi xs ys (n + 1) (zI G) (zI a) (zI b) := by
  have n20 := hk.1
  rw [hc.1]
  intro n
  induction n with
  | zero =>
    intro b G hab hn hN
    unfold wpX3_greatestOfOneMinute_16
    simp (disch := omega) only [zI_lit, zI_add, zI_sub, zI_mul, zI_neg, zI_le, zI_lt, zI_eq, zI_nat, zI_max, zI_min, zI_abs, forall_eq, Int.reduceNeg, Int.reduceAdd, Int.reduceMul, Int.reduceSub, Int.add_zero, Int.zero_add, Int.zero_mul, Int.toNat_zero]
    refine ⟨fun _ => hK G (hN.imp (fun x y => ?_)), fun h => absurd h (by omega)⟩
    unfold Mk.pairs; omega
  | succ n ih =>
    intro b G hab hn hN
    have c1 := hc.2 a ha.1 ha.2
    have c2 := hc.2 b (by omega) (by omega)
    have r1 := hk.2 a ha.1 ha.2
    have r2 := hk.2 b (by omega) (by omega)
    have db := Mk.d_bd hk ha (b := b) (by omega)
    have nb := hN.1
    have nx : ∀ x y, ((k.pairs x y ∧ (x < a ∨ x = a ∧ y < b)) ∨ (x = a ∧ y = b)) ↔ (k.pairs x y ∧ (x < a ∨ x = a ∧ y < b + 1)) := by
      intro x y; unfold Mk.pairs; omega
    have skip : ¬ k.q a b → wpX3_greatestOfOneMinute_65 (fun y0 y1 y2 => wpX3_greatestOfOneMinute_16 k4 post (zI k.n) wh mi xs ys (n + 1) y0 y1 y2) k4 post (zI k.n) wh mi xs ys (zI G) (zI a) (zI b) := by
      intro hq
      unfold wpX3_greatestOfOneMinute_65
      simp (disch := omega) only [zI_lit, zI_add, zI_sub, zI_mul, zI_neg, zI_le, zI_lt, zI_eq, zI_nat, zI_max, zI_min, zI_abs, forall_eq, Int.reduceNeg, Int.reduceAdd, Int.reduceMul, Int.reduceSub, Int.add_zero, Int.zero_add, Int.zero_mul, Int.toNat_zero]
      exact ih (b + 1) G (by omega) (by omega) ((hN.skip hq).imp nx)
    unfold wpX3_greatestOfOneMinute_16
    simp (disch := omega) only [zI_lit, zI_add, zI_sub, zI_mul, zI_neg, zI_le, zI_lt, zI_eq, zI_nat, zI_max, zI_min, zI_abs, forall_eq, Int.reduceNeg, Int.reduceAdd, Int.reduceMul, Int.reduceSub, Int.add_zero, Int.zero_add, Int.zero_mul, Int.toNat_zero]
    rw [c1.2.2.2, c2.2.2.2, c1.1, c2.1, zI_eq (by omega), zI_eq (by omega)]
    refine ⟨fun h => absurd h (by omega), fun _ => ⟨zI_in (by omega), zI_in (by omega), fun h => skip (fun q => q.1 h), fun h1 => ⟨zI_in (by omega), zI_in (by omega), fun h => skip (fun q => h q.2), fun h2 => ?_⟩⟩⟩
    refine sp_mdist hk hc ha (by omega) ?_
    unfold wpX3_greatestOfOneMinute_65
    simp (disch := omega) only [zI_lit, zI_add, zI_sub, zI_mul, zI_neg, zI_le, zI_lt, zI_eq, zI_nat, zI_max, zI_min, zI_abs, forall_eq, Int.reduceNeg, Int.reduceAdd, Int.reduceMul, Int.reduceSub, Int.add_zero, Int.zero_add, Int.zero_mul, Int.toNat_zero]
    exact ih (b + 1) _ (by omega) (by omega) ((hN.take ⟨h1, h2⟩ db).imp nx)
theorem sp_needed {post : Int32 → Unit → Prop} (hk : k.Ok) (hc : CM k mi xs ys wh sz) (hp : ∀ G, Nd k k.pairs G → post (zI G) ()) : wpX3_greatestOfOneMinute post sz wh mi xs ys := by
  have n20 := hk.1
  have key : ∀ (n : Nat) (a G : Int), 0 ≤ a → a + n = k.n → Nd k (fun x y => k.pairs x y ∧ x < a) G → wpX3_greatestOfOneMinute_4 post sz wh mi xs ys (n + 1) (zI G) (zI a) := by
    intro n
    induction n with
    | zero =>
      intro a G h0 hn hN
      unfold wpX3_greatestOfOneMinute_4
      rw [hc.1]
      simp (disch := omega) only [zI_lit, zI_add, zI_sub, zI_mul, zI_neg, zI_le, zI_lt, zI_eq, zI_nat, zI_max, zI_min, zI_abs, forall_eq, Int.reduceNeg, Int.reduceAdd, Int.reduceMul, Int.reduceSub, Int.add_zero, Int.zero_add, Int.zero_mul, Int.toNat_zero]
      refine ⟨fun _ => hp G (hN.imp (fun x y => ?_)), fun h => absurd h (by omega)⟩
      unfold Mk.pairs; omega
    | succ n ih =>
      intro a G h0 hn hN
      have := sp_needed16 (k4 := fun y0 y1 => wpX3_greatestOfOneMinute_4 post sz wh mi xs ys (n + 1) y0 y1) (post := post) hk hc ⟨h0, by omega⟩ (fun G hN => ih (a + 1) G (by omega) (by omega) hN) n (a + 1) G (by omega) (by omega) (hN.imp (fun x y => by unfold Mk.pairs; omega))
      unfold wpX3_greatestOfOneMinute_4
      refine ⟨fun h => ?_, fun _ => ?_⟩
      · rw [hc.1, zI_le (by omega)] at h; omega
      · simp (disch := omega) only [zI_lit, zI_add, zI_sub, zI_mul, zI_neg, zI_le, zI_lt, zI_eq, zI_nat, zI_max, zI_min, zI_abs, forall_eq, Int.reduceNeg, Int.reduceAdd, Int.reduceMul, Int.reduceSub, Int.add_zero, Int.zero_add, Int.zero_mul, Int.toNat_zero]
        exact ⟨n + 1, this⟩
  refine ⟨k.n.toNat + 1, key k.n.toNat 0 (-1) (by omega) (by omega) ⟨by omega, Or.inl rfl, fun a b h => ?_⟩⟩
  unfold Mk.pairs at h; omega
theorem sr_ofMark {post : Int32 → Unit → Prop} {j : Int} {z : Int} (hk : k.Ok) (ha : 0 ≤ a ∧ a < k.n) (hj : 0 ≤ j ∧ j < 4) (h : v (778 + 4 * a + j).toNat = zI z) (hp : post (zI z) ()) : wpX11_ofMark post v (zI a) (zI j) := by
  have n20 := hk.1
  unfold wpX11_ofMark
  simp (disch := omega) only [zI_lit, zI_add, zI_sub, zI_mul, zI_neg, zI_le, zI_lt, zI_eq, zI_nat, zI_max, zI_min, zI_abs, forall_eq, Int.reduceNeg, Int.reduceAdd, Int.reduceMul, Int.reduceSub, Int.add_zero, Int.zero_add, Int.zero_mul, Int.toNat_zero]
  rw [h]
  exact ⟨zI_in (by omega), hp⟩
theorem WM.at0 (hm : WM k v) (ha : 0 ≤ a ∧ a < k.n) : v (778 + 4 * a + 0).toNat = zI (k.wh a) := by rw [Int.add_zero]; exact (hm.2 a ha.1 ha.2).1
theorem sr_mdist {post : Int32 → Unit → Prop} (hk : k.Ok) (hm : WM k v) (ha : 0 ≤ a ∧ a < k.n) (hb : 0 ≤ b ∧ b < k.n) (hp : post (zI (k.d a b)) ()) : wpX11_farOfMarks post v (zI a) (zI b) := by
  have c1 := hm.2 a ha.1 ha.2
  have c2 := hm.2 b hb.1 hb.2
  unfold wpX11_farOfMarks
  rw [show (2 : Int32) = zI 2 from rfl, show (3 : Int32) = zI 3 from rfl]
  refine sr_ofMark hk ha (by omega) c1.2.2.1 ?_
  refine sr_ofMark hk ha (by omega) c1.2.2.2 ?_
  refine sr_ofMark hk hb (by omega) c2.2.2.1 ?_
  refine sr_ofMark hk hb (by omega) c2.2.2.2 ?_
  unfold wpX11_farOf
  simp (disch := omega) only [zI_lit, zI_add, zI_sub, zI_mul, zI_neg, zI_le, zI_lt, zI_eq, zI_nat, zI_max, zI_min, zI_abs, forall_eq, Int.reduceNeg, Int.reduceAdd, Int.reduceMul, Int.reduceSub, Int.add_zero, Int.zero_add, Int.zero_mul, Int.toNat_zero]
  exact hp
theorem sr_needed21 {k9 : Int32 → Int32 → Int32 → Prop} {post : Int32 → Int32 → Prop} {th : Int32} (hk : k.Ok) (hm : WM k v) (ha : 0 ≤ a ∧ a < k.n)
    (hK : ∀ G, Nd k (fun x y => k.pairs x y ∧ y < a + 1) G → k9 th (zI G) (zI (a + 1))) :
    ∀ (n : Nat) (b G : Int), 0 ≤ b → b + n = a → Nd k (fun x y => k.pairs x y ∧ (y < a ∨ y = a ∧ x < b)) G → wpX11_needed_21 k9 post v (n + 1) th (zI G) (zI a) (zI b) := by
  have n20 := hk.1
  intro n
  induction n with
  | zero =>
    intro b G hab hn hN
    unfold wpX11_needed_21
    simp (disch := omega) only [zI_lit, zI_add, zI_sub, zI_mul, zI_neg, zI_le, zI_lt, zI_eq, zI_nat, zI_max, zI_min, zI_abs, forall_eq, Int.reduceNeg, Int.reduceAdd, Int.reduceMul, Int.reduceSub, Int.add_zero, Int.zero_add, Int.zero_mul, Int.toNat_zero]
    refine ⟨fun _ => hK G (hN.imp (fun x y => ?_)), fun h => absurd h (by omega)⟩
    unfold Mk.pairs; omega
  | succ n ih =>
    intro b G hab hn hN
    have hb : 0 ≤ b ∧ b < k.n := by omega
    have c1 := hm.2 a ha.1 ha.2
    have c2 := hm.2 b hb.1 hb.2
    have r1 := hk.2 a ha.1 ha.2
    have r2 := hk.2 b hb.1 hb.2
    have db := Mk.d_bd hk hb ha
    have nb := hN.1
    have nx : ∀ x y, ((k.pairs x y ∧ (y < a ∨ y = a ∧ x < b)) ∨ (x = b ∧ y = a)) ↔ (k.pairs x y ∧ (y < a ∨ y = a ∧ x < b + 1)) := by
      intro x y; unfold Mk.pairs; omega
    have skip : ¬ k.q b a → wpX11_needed_67 (fun y0 y1 y2 y3 => wpX11_needed_21 k9 post v (n + 1) y0 y1 y2 y3) k9 post v th (zI G) (zI a) (zI b) := by
      intro hq
      unfold wpX11_needed_67
      simp (disch := omega) only [zI_lit, zI_add, zI_sub, zI_mul, zI_neg, zI_le, zI_lt, zI_eq, zI_nat, zI_max, zI_min, zI_abs, forall_eq, Int.reduceNeg, Int.reduceAdd, Int.reduceMul, Int.reduceSub, Int.add_zero, Int.zero_add, Int.zero_mul, Int.toNat_zero]
      exact ih (b + 1) G (by omega) (by omega) ((hN.skip hq).imp nx)
    unfold wpX11_needed_21
    rw [zI_le (by omega), show (0 : Int32) = zI 0 from rfl, show (1 : Int32) = zI 1 from rfl]
    refine ⟨fun h => absurd h (by omega), fun _ => ?_⟩
    refine sr_ofMark (j := 0) hk ha (by omega) (hm.at0 ha) ?_
    refine sr_ofMark (j := 0) hk hb (by omega) (hm.at0 hb) ?_
    rw [zI_eq (by omega)]
    refine ⟨fun h => skip (fun q => q.1 h.symm), fun h1 => ?_⟩
    refine sr_ofMark (j := 1) hk ha (by omega) c1.2.1 ?_
    refine sr_ofMark (j := 1) hk hb (by omega) c2.2.1 ?_
    rw [zI_eq (by omega)]
    refine ⟨fun h => skip (fun q => h q.2.symm), fun h2 => ?_⟩
    refine sr_mdist hk hm ha hb ?_
    unfold wpX11_needed_67
    rw [k.d_comm a b]
    simp (disch := omega) only [zI_lit, zI_add, zI_sub, zI_mul, zI_neg, zI_le, zI_lt, zI_eq, zI_nat, zI_max, zI_min, zI_abs, forall_eq, Int.reduceNeg, Int.reduceAdd, Int.reduceMul, Int.reduceSub, Int.add_zero, Int.zero_add, Int.zero_mul, Int.toNat_zero]
    exact ih (b + 1) _ (by omega) (by omega) ((hN.take ⟨fun h => h1 h.symm, h2.symm⟩ db).imp nx)
theorem sr_needed {post : Int32 → Int32 → Prop} {th : Int32} (hk : k.Ok) (hm : WM k v) (hp : ∀ G, Nd k k.pairs G → post (zI G) 0) : wpX11_needed post v th := by
  have n20 := hk.1
  have key : ∀ (n : Nat) (a G : Int), 0 ≤ a → a + n = k.n → Nd k (fun x y => k.pairs x y ∧ y < a) G → wpX11_needed_9 post v (n + 1) 0 (zI G) (zI a) := by
    intro n
    induction n with
    | zero =>
      intro a G h0 hn hN
      unfold wpX11_needed_9
      rw [show (4 : Int32).toNatClampNeg = 4 from rfl, hm.1, zI_le (by omega)]
      refine ⟨by unfold vp_in; decide, fun _ => hp G (hN.imp (fun x y => ?_)), fun h => absurd h (by omega)⟩
      unfold Mk.pairs; omega
    | succ n ih =>
      intro a G h0 hn hN
      unfold wpX11_needed_9
      rw [show (4 : Int32).toNatClampNeg = 4 from rfl, hm.1, zI_le (by omega)]
      refine ⟨by unfold vp_in; decide, fun h => absurd h (by omega), fun _ => ⟨a.toNat + 1, ?_⟩⟩
      exact sr_needed21 hk hm ⟨h0, by omega⟩ (fun G hN => ih (a + 1) G (by omega) (by omega) hN) a.toNat 0 G (by omega) (by omega) (hN.imp (fun x y => by unfold Mk.pairs; omega))
  refine ⟨k.n.toNat + 1, key k.n.toNat 0 (-1) (by omega) (by omega) ⟨by omega, Or.inl rfl, fun a b h => ?_⟩⟩
  unfold Mk.pairs at h; omega
end
