section
variable {k : Mk} {mi xs ys wh v : Nat → Int32} {sz : Int32} {a b ln pc : Int}
def Mk.reach (k : Mk) (ln pc a b : Int) : Int := pc * ((k.mi a - k.mi b).natAbs : Int) + (if k.wh a = k.wh b then 0 else ln)
def Mk.fit (k : Mk) (ln pc a b : Int) : Prop := k.d a b ≤ k.reach ln pc a b * k.reach ln pc a b
theorem reach_bd (hk : k.Ok) (hl : 0 ≤ ln ∧ ln ≤ 999) (hp : 0 ≤ pc ∧ pc ≤ 99) (ha : 0 ≤ a ∧ a < k.n) (hb : 0 ≤ b ∧ b < k.n) : (0 ≤ pc * ((k.mi a - k.mi b).natAbs : Int) ∧ pc * ((k.mi a - k.mi b).natAbs : Int) ≤ 98901) ∧ (0 ≤ k.reach ln pc a b ∧ k.reach ln pc a b ≤ 99900) ∧ 0 ≤ k.reach ln pc a b * k.reach ln pc a b ∧ k.reach ln pc a b * k.reach ln pc a b ≤ 9980010000 := by
  have r1 := hk.2 a ha.1 ha.2
  have r2 := hk.2 b hb.1 hb.2
  have m1 : 0 ≤ pc * ((k.mi a - k.mi b).natAbs : Int) := Int.mul_nonneg hp.1 (by omega)
  have m2 : pc * ((k.mi a - k.mi b).natAbs : Int) ≤ 99 * 999 := Int.mul_le_mul hp.2 (by omega) (by omega) (by omega)
  have r : 0 ≤ k.reach ln pc a b ∧ k.reach ln pc a b ≤ 99900 := by unfold Mk.reach; split <;> omega
  have s := sq_le (x := k.reach ln pc a b) (n := 99900) (by omega)
  exact ⟨⟨m1, m2⟩, r, s.1, by omega⟩
theorem sp_isFit {post : Int32 → Unit → Prop} (hk : k.Ok) (hc : CM k mi xs ys wh sz) (hl : 0 ≤ ln ∧ ln ≤ 999) (hp : 0 ≤ pc ∧ pc ≤ 99) (ha : 0 ≤ a ∧ a < k.n) (hb : 0 ≤ b ∧ b < k.n) (h1 : k.fit ln pc a b → post 1 ()) (h0 : ¬ k.fit ln pc a b → post 0 ()) : wpX3_isFit post mi wh xs ys (zI a) (zI b) (zI ln) (zI pc) := by
  have n20 := hk.1
  have c1 := hc.2 a ha.1 ha.2
  have c2 := hc.2 b hb.1 hb.2
  have r1 := hk.2 a ha.1 ha.2
  have r2 := hk.2 b hb.1 hb.2
  have rb := reach_bd hk hl hp ha hb
  have db := Mk.d_bd hk ha hb
  unfold Mk.fit at h1 h0
  have g44 : ∀ z : Int, z = k.reach ln pc a b → wpX3_isFit_44 post mi wh xs ys (zI a) (zI b) (zL z) := by
    intro z hz
    subst hz
    unfold wpX3_isFit_44
    refine sp_mdist hk hc ha hb ?_
    rw [zI_long (by omega), zL_mul, show (0 : Int32) = zI 0 from rfl, zL_cmp_gt (by omega)]
    exact ⟨fun h => h0 (by omega), fun h => h1 (by omega)⟩
  unfold wpX3_isFit
  simp (disch := omega) only [zI_lit, zI_add, zI_sub, zI_mul, zI_neg, zI_le, zI_lt, zI_eq, zI_nat, zI_max, zI_min, zI_abs, forall_eq, Int.reduceNeg, Int.reduceAdd, Int.reduceMul, Int.reduceSub, Int.add_zero, Int.zero_add, Int.zero_mul, Int.toNat_zero]
  rw [c1.1, c2.1, c1.2.2.2, c2.2.2.2]
  simp (disch := omega) only [zI_lit, zI_add, zI_sub, zI_mul, zI_neg, zI_le, zI_lt, zI_eq, zI_nat, zI_max, zI_min, zI_abs, forall_eq, Int.reduceNeg, Int.reduceAdd, Int.reduceMul, Int.reduceSub, Int.add_zero, Int.zero_add, Int.zero_mul, Int.toNat_zero]
  rw [zI_long (by omega), zI_long (by omega), zL_add]
  refine ⟨zI_in (by omega), zI_in (by omega), zI_in (by omega), zI_in (by omega), fun h => g44 _ ?_, fun h => g44 _ ?_⟩
  · unfold Mk.reach; rw [if_pos h]; omega
  · unfold Mk.reach; rw [if_neg h]
def Ct (k : Mk) (ln pc : Int) (P : Int → Int → Prop) (c : Int) : Prop := ∃ l : List (Int × Int), l.Nodup ∧ (∀ p, p ∈ l ↔ P p.1 p.2 ∧ ¬ k.fit ln pc p.1 p.2) ∧ c = l.length
theorem Ct.imp {P P' : Int → Int → Prop} {c : Int} (h : Ct k ln pc P c) (h1 : ∀ a b, P a b ↔ P' a b) : Ct k ln pc P' c := by
  have e : P = P' := by funext a b; exact propext (h1 a b)
  rw [← e]; exact h
theorem Ct.skip {P : Int → Int → Prop} {c : Int} (h : Ct k ln pc P c) (hf : k.fit ln pc a b) : Ct k ln pc (fun x y => P x y ∨ (x = a ∧ y = b)) c := by
  obtain ⟨l, h1, h2, h3⟩ := h
  refine ⟨l, h1, fun p => (h2 p).trans ⟨fun h => ⟨Or.inl h.1, h.2⟩, ?_⟩, h3⟩
  rintro ⟨h | h, hn⟩
  · exact ⟨h, hn⟩
  · rw [h.1, h.2] at hn; exact absurd hf hn
theorem Ct.take {P : Int → Int → Prop} {c : Int} (h : Ct k ln pc P c) (hf : ¬ k.fit ln pc a b) (hP : ¬ P a b) : Ct k ln pc (fun x y => P x y ∨ (x = a ∧ y = b)) (c + 1) := by
  obtain ⟨l, h1, h2, h3⟩ := h
  refine ⟨(a, b) :: l, List.nodup_cons.mpr ⟨fun hm => hP ((h2 (a, b)).1 hm).1, h1⟩, fun p => ?_, by rw [List.length_cons]; omega⟩
  rw [List.mem_cons, h2]
  constructor
  · rintro (h | h)
    · rw [h]; exact ⟨Or.inr ⟨rfl, rfl⟩, hf⟩
    · exact ⟨Or.inl h.1, h.2⟩
  · rintro ⟨h | h, hn⟩
    · exact Or.inr ⟨h, hn⟩
    · exact Or.inl (Prod.ext h.1 h.2)
theorem nodup_len {l l' : List (Int × Int)} (h : l.Nodup) (h' : l'.Nodup) (hm : ∀ p, p ∈ l ↔ p ∈ l') : l.length = l'.length := by
  exact ((List.perm_ext_iff_of_nodup h h').2 hm).length_eq
theorem Ct.same {P : Int → Int → Prop} {c c' : Int} (h : Ct k ln pc P c) (h' : Ct k ln pc P c') : c = c' := by
  obtain ⟨l, h1, h2, h3⟩ := h
  obtain ⟨l', h1', h2', h3'⟩ := h'
  have := nodup_len h1 h1' (fun p => (h2 p).trans (h2' p).symm)
  omega
theorem Ct.bd {P : Int → Int → Prop} {c : Int} (h : Ct k ln pc P c) : 0 ≤ c := by
  obtain ⟨l, h1, h2, h3⟩ := h
  omega
def Ft (k : Mk) (ln pc : Int) (P : Int → Int → Prop) (G : Int) : Prop := (G = -1 ∧ ∀ a b, P a b → k.fit ln pc a b) ∨ (∃ a b, P a b ∧ ¬ k.fit ln pc a b ∧ (0 ≤ a ∧ a < b ∧ b < 20) ∧ G = 100 * a + b ∧ ∀ x y, k.pairs x y → (x < a ∨ x = a ∧ y < b) → k.fit ln pc x y)
theorem Ft.imp {P P' : Int → Int → Prop} {c : Int} (h : Ft k ln pc P c) (h1 : ∀ a b, P a b ↔ P' a b) : Ft k ln pc P' c := by
  have e : P = P' := by funext a b; exact propext (h1 a b)
  rw [← e]; exact h
theorem Ft.skip {P : Int → Int → Prop} {G : Int} (h : Ft k ln pc P G) (hf : k.fit ln pc a b ∨ 0 ≤ G) : Ft k ln pc (fun x y => P x y ∨ (x = a ∧ y = b)) G := by
  rcases h with ⟨e, h⟩ | ⟨x, y, h1, h2⟩
  · left
    refine ⟨e, fun x y hP => ?_⟩
    rcases hP with hP | hP
    · exact h x y hP
    · rw [hP.1, hP.2]
      rcases hf with hf | hf
      · exact hf
      · omega
  · exact Or.inr ⟨x, y, Or.inl h1, h2⟩
theorem Ft.take {P : Int → Int → Prop} {G : Int} (h : Ft k ln pc P G) (hG : ¬ 0 ≤ G) (hf : ¬ k.fit ln pc a b) (hab : 0 ≤ a ∧ a < b ∧ b < 20) (hP : ∀ x y, k.pairs x y → (x < a ∨ x = a ∧ y < b) → P x y) : Ft k ln pc (fun x y => P x y ∨ (x = a ∧ y = b)) (100 * a + b) := by
  right
  refine ⟨a, b, Or.inr ⟨rfl, rfl⟩, hf, hab, rfl, fun x y hp hl => ?_⟩
  rcases h with ⟨_, h⟩ | ⟨x', y', _, _, h3, h4, _⟩
  · exact h x y (hP x y hp hl)
  · omega
theorem Ft.same {G G' : Int} (h : Ft k ln pc k.pairs G) (h' : Ft k ln pc k.pairs G') : G = G' := by
  rcases h with ⟨e, h⟩ | ⟨a, b, h1, h2, h3, h4, h5⟩
  · rcases h' with ⟨e', _⟩ | ⟨a', b', h1', h2', _⟩
    · omega
    · exact absurd (h a' b' h1') h2'
  · rcases h' with ⟨e', h'⟩ | ⟨a', b', h1', h2', h3', h4', h5'⟩
    · exact absurd (h' a b h1) h2
    · by_cases l : a < a' ∨ a = a' ∧ b < b'
      · exact absurd (h5' a b h1 l) h2
      · by_cases l' : a' < a ∨ a' = a ∧ b' < b
        · exact absurd (h5 a' b' h1' l') h2'
        · omega
theorem Ft.bd {P : Int → Int → Prop} {G : Int} (h : Ft k ln pc P G) : -1 ≤ G ∧ G ≤ 2000 := by
  rcases h with ⟨e, _⟩ | ⟨a, b, _, _, h3, h4, _⟩
  · omega
  · omega
theorem nx_pairs (hab : 0 ≤ a ∧ a < b ∧ b < k.n) : ∀ x y, ((k.pairs x y ∧ (x < a ∨ x = a ∧ y < b)) ∨ (x = a ∧ y = b)) ↔ (k.pairs x y ∧ (x < a ∨ x = a ∧ y < b + 1)) := by
  intro x y; unfold Mk.pairs; omega
theorem sp_count20 {k5 : Int32 → Int32 → Int32 → Int32 → Prop} {post : Int32 → Unit → Prop} (hk : k.Ok) (hc : CM k mi xs ys wh sz) (hl : 0 ≤ ln ∧ ln ≤ 999) (hp : 0 ≤ pc ∧ pc ≤ 99) (ha : 0 ≤ a ∧ a < k.n)
    (hK : ∀ c, Ct k ln pc (fun x y => k.pairs x y ∧ x < a + 1) c → k5 (zI ln) (zI pc) (zI c) (zI (a + 1))) :
    ∀ (n : Nat) (b c : Int), a < b → b + n = k.n → Ct k ln pc (fun x y => k.pairs x y ∧ (x < a ∨ x = a ∧ y < b)) c → wpX3_countMisfits_20 k5 post sz mi wh xs ys (n + 1) (zI ln) (zI pc) (zI c) (zI a) (zI b) := by
  have n20 := hk.1
  rw [hc.1]
  intro n
  induction n with
  | zero =>
    intro b c hab hn hN
    unfold wpX3_countMisfits_20
    simp (disch := omega) only [zI_lit, zI_add, zI_sub, zI_mul, zI_neg, zI_le, zI_lt, zI_eq, zI_nat, zI_max, zI_min, zI_abs, forall_eq, Int.reduceNeg, Int.reduceAdd, Int.reduceMul, Int.reduceSub, Int.add_zero, Int.zero_add, Int.zero_mul, Int.toNat_zero]
    refine ⟨fun _ => hK c (hN.imp (fun x y => ?_)), fun h => absurd h (by omega)⟩
    unfold Mk.pairs; omega
  | succ n ih =>
    intro b c hab hn hN
    unfold wpX3_countMisfits_20
    rw [zI_le (by omega)]
    refine ⟨fun h => absurd h (by omega), fun _ => ?_⟩
    unfold wpX3_countMisfits_45
    refine sp_isFit hk hc hl hp ha (by omega) (fun hf => ⟨fun _ => ?_, fun h => absurd h (by decide)⟩) (fun hf => ⟨fun h => absurd rfl h, fun _ => ?_⟩)
    · simp (disch := omega) only [zI_lit, zI_add, zI_sub, zI_mul, zI_neg, zI_le, zI_lt, zI_eq, zI_nat, zI_max, zI_min, zI_abs, forall_eq, Int.reduceNeg, Int.reduceAdd, Int.reduceMul, Int.reduceSub, Int.add_zero, Int.zero_add, Int.zero_mul, Int.toNat_zero]
      exact ih (b + 1) c (by omega) (by omega) ((hN.skip hf).imp (nx_pairs (by omega)))
    · simp (disch := omega) only [zI_lit, zI_add, zI_sub, zI_mul, zI_neg, zI_le, zI_lt, zI_eq, zI_nat, zI_max, zI_min, zI_abs, forall_eq, Int.reduceNeg, Int.reduceAdd, Int.reduceMul, Int.reduceSub, Int.add_zero, Int.zero_add, Int.zero_mul, Int.toNat_zero]
      exact ih (b + 1) (c + 1) (by omega) (by omega) ((hN.take hf (fun h => by omega)).imp (nx_pairs (by omega)))
theorem sp_countMisfits {post : Int32 → Unit → Prop} (hk : k.Ok) (hc : CM k mi xs ys wh sz) (hl : 0 ≤ ln ∧ ln ≤ 999) (hp : 0 ≤ pc ∧ pc ≤ 99) (hpost : ∀ c, Ct k ln pc k.pairs c → post (zI c) ()) : wpX3_countMisfits post sz mi wh xs ys (zI ln) (zI pc) := by
  have n20 := hk.1
  have key : ∀ (n : Nat) (a c : Int), 0 ≤ a → a + n = k.n → Ct k ln pc (fun x y => k.pairs x y ∧ x < a) c → wpX3_countMisfits_5 post sz mi wh xs ys (n + 1) (zI ln) (zI pc) (zI c) (zI a) := by
    intro n
    induction n with
    | zero =>
      intro a c h0 hn hN
      unfold wpX3_countMisfits_5
      rw [hc.1]
      simp (disch := omega) only [zI_lit, zI_add, zI_sub, zI_mul, zI_neg, zI_le, zI_lt, zI_eq, zI_nat, zI_max, zI_min, zI_abs, forall_eq, Int.reduceNeg, Int.reduceAdd, Int.reduceMul, Int.reduceSub, Int.add_zero, Int.zero_add, Int.zero_mul, Int.toNat_zero]
      refine ⟨fun _ => hpost c (hN.imp (fun x y => ?_)), fun h => absurd h (by omega)⟩
      unfold Mk.pairs; omega
    | succ n ih =>
      intro a c h0 hn hN
      have := sp_count20 (k5 := fun y0 y1 y2 y3 => wpX3_countMisfits_5 post sz mi wh xs ys (n + 1) y0 y1 y2 y3) (post := post) hk hc hl hp ⟨h0, by omega⟩ (fun c hN => ih (a + 1) c (by omega) (by omega) hN) n (a + 1) c (by omega) (by omega) (hN.imp (fun x y => by unfold Mk.pairs; omega))
      unfold wpX3_countMisfits_5
      refine ⟨fun h => ?_, fun _ => ?_⟩
      · rw [hc.1, zI_le (by omega)] at h; omega
      · simp (disch := omega) only [zI_lit, zI_add, zI_sub, zI_mul, zI_neg, zI_le, zI_lt, zI_eq, zI_nat, zI_max, zI_min, zI_abs, forall_eq, Int.reduceNeg, Int.reduceAdd, Int.reduceMul, Int.reduceSub, Int.add_zero, Int.zero_add, Int.zero_mul, Int.toNat_zero]
        exact ⟨n + 1, this⟩
  refine ⟨k.n.toNat + 1, key k.n.toNat 0 0 (by omega) (by omega) ⟨[], List.nodup_nil, fun p => ⟨fun h => absurd h List.not_mem_nil, fun h => ?_⟩, rfl⟩⟩
  have := h.1; unfold Mk.pairs at this; omega
theorem sp_first15 {k2 : Int32 → Int32 → Int32 → Prop} {post : Int32 → Unit → Prop} (hk : k.Ok) (hc : CM k mi xs ys wh sz) (hl : 0 ≤ ln ∧ ln ≤ 999) (hp : 0 ≤ pc ∧ pc ≤ 99) (ha : 0 ≤ a ∧ a < k.n)
    (hpost : ∀ G, Ft k ln pc k.pairs G → post (zI G) ())
    (hK : (∀ x y, k.pairs x y → x < a + 1 → k.fit ln pc x y) → k2 (zI ln) (zI pc) (zI (a + 1))) :
    ∀ (n : Nat) (b : Int), a < b → b + n = k.n → (∀ x y, k.pairs x y → (x < a ∨ x = a ∧ y < b) → k.fit ln pc x y) → wpX3_firstMisfit_15 k2 post sz mi wh xs ys (n + 1) (zI ln) (zI pc) (zI a) (zI b) := by
  have n20 := hk.1
  rw [hc.1]
  intro n
  induction n with
  | zero =>
    intro b hab hn hN
    unfold wpX3_firstMisfit_15
    simp (disch := omega) only [zI_lit, zI_add, zI_sub, zI_mul, zI_neg, zI_le, zI_lt, zI_eq, zI_nat, zI_max, zI_min, zI_abs, forall_eq, Int.reduceNeg, Int.reduceAdd, Int.reduceMul, Int.reduceSub, Int.add_zero, Int.zero_add, Int.zero_mul, Int.toNat_zero]
    refine ⟨fun _ => hK (fun x y hp hx => hN x y hp ?_), fun h => absurd h (by omega)⟩
    unfold Mk.pairs at hp; omega
  | succ n ih =>
    intro b hab hn hN
    unfold wpX3_firstMisfit_15
    rw [zI_le (by omega)]
    refine ⟨fun h => absurd h (by omega), fun _ => ?_⟩
    refine sp_isFit hk hc hl hp ha (by omega) (fun hf => ⟨fun _ => ?_, fun h => absurd h (by decide)⟩) (fun hf => ⟨fun h => absurd rfl h, fun _ => ?_⟩)
    · simp (disch := omega) only [zI_lit, zI_add, zI_sub, zI_mul, zI_neg, zI_le, zI_lt, zI_eq, zI_nat, zI_max, zI_min, zI_abs, forall_eq, Int.reduceNeg, Int.reduceAdd, Int.reduceMul, Int.reduceSub, Int.add_zero, Int.zero_add, Int.zero_mul, Int.toNat_zero]
      refine ih (b + 1) (by omega) (by omega) (fun x y hp hx => ?_)
      by_cases e : x = a ∧ y = b
      · rw [e.1, e.2]; exact hf
      · exact hN x y hp (by omega)
    · simp (disch := omega) only [zI_lit, zI_add, zI_sub, zI_mul, zI_neg, zI_le, zI_lt, zI_eq, zI_nat, zI_max, zI_min, zI_abs, forall_eq, Int.reduceNeg, Int.reduceAdd, Int.reduceMul, Int.reduceSub, Int.add_zero, Int.zero_add, Int.zero_mul, Int.toNat_zero]
      exact hpost _ (Or.inr ⟨a, b, ⟨by omega, hab, by omega⟩, hf, by omega, rfl, hN⟩)
theorem sp_firstMisfit {post : Int32 → Unit → Prop} (hk : k.Ok) (hc : CM k mi xs ys wh sz) (hl : 0 ≤ ln ∧ ln ≤ 999) (hp : 0 ≤ pc ∧ pc ≤ 99) (hpost : ∀ G, Ft k ln pc k.pairs G → post (zI G) ()) : wpX3_firstMisfit post sz mi wh xs ys (zI ln) (zI pc) := by
  have n20 := hk.1
  have key : ∀ (n : Nat) (a : Int), 0 ≤ a → a + n = k.n → (∀ x y, k.pairs x y → x < a → k.fit ln pc x y) → wpX3_firstMisfit_2 post sz mi wh xs ys (n + 1) (zI ln) (zI pc) (zI a) := by
    intro n
    induction n with
    | zero =>
      intro a h0 hn hN
      unfold wpX3_firstMisfit_2
      rw [hc.1]
      simp (disch := omega) only [zI_lit, zI_add, zI_sub, zI_mul, zI_neg, zI_le, zI_lt, zI_eq, zI_nat, zI_max, zI_min, zI_abs, forall_eq, Int.reduceNeg, Int.reduceAdd, Int.reduceMul, Int.reduceSub, Int.add_zero, Int.zero_add, Int.zero_mul, Int.toNat_zero]
      refine ⟨fun _ => hpost (-1) (Or.inl ⟨rfl, fun x y hp => hN x y hp ?_⟩), fun h => absurd h (by omega)⟩
      unfold Mk.pairs at hp; omega
    | succ n ih =>
      intro a h0 hn hN
      have := sp_first15 (k2 := fun y0 y1 y2 => wpX3_firstMisfit_2 post sz mi wh xs ys (n + 1) y0 y1 y2) (post := post) hk hc hl hp ⟨h0, by omega⟩ hpost (fun hN => ih (a + 1) (by omega) (by omega) hN) n (a + 1) (by omega) (by omega) (fun x y hp hx => hN x y hp (by unfold Mk.pairs at hp; omega))
      unfold wpX3_firstMisfit_2
      refine ⟨fun h => ?_, fun _ => ?_⟩
      · rw [hc.1, zI_le (by omega)] at h; omega
      · simp (disch := omega) only [zI_lit, zI_add, zI_sub, zI_mul, zI_neg, zI_le, zI_lt, zI_eq, zI_nat, zI_max, zI_min, zI_abs, forall_eq, Int.reduceNeg, Int.reduceAdd, Int.reduceMul, Int.reduceSub, Int.add_zero, Int.zero_add, Int.zero_mul, Int.toNat_zero]
        exact ⟨n + 1, this⟩
  refine ⟨k.n.toNat + 1, key k.n.toNat 0 (by omega) (by omega) (fun x y hp hx => ?_)⟩
  unfold Mk.pairs at hp; omega
theorem sr_fits67 {k50 : Int32 → Int32 → Int32 → Int32 → Int32 → Int32 → Int32 → Prop} {post : Int32 → Int32 → Prop} {th x3 : Int32} (hk : k.Ok) (hm : WM k v) (hl : 0 ≤ ln ∧ ln ≤ 999) (hp : 0 ≤ pc ∧ pc ≤ 99) (ha : 0 ≤ a ∧ a < k.n)
    (hK : ∀ c G, Ct k ln pc (fun x y => k.pairs x y ∧ x < a + 1) c → Ft k ln pc (fun x y => k.pairs x y ∧ x < a + 1) G → k50 th (zI ln) (zI pc) x3 (zI c) (zI G) (zI (a + 1))) :
    ∀ (n : Nat) (b c G : Int), a < b → b + n = k.n → Ct k ln pc (fun x y => k.pairs x y ∧ (x < a ∨ x = a ∧ y < b)) c → Ft k ln pc (fun x y => k.pairs x y ∧ (x < a ∨ x = a ∧ y < b)) G → wpX11_fits_67 k50 post v (n + 1) th (zI ln) (zI pc) x3 (zI c) (zI G) (zI a) (zI b) := by
  have n20 := hk.1
  intro n
  induction n with
  | zero =>
    intro b c G hab hn hN hG
    unfold wpX11_fits_67
    rw [show (4 : Int32).toNatClampNeg = 4 from rfl, hm.1]
    simp (disch := omega) only [zI_lit, zI_add, zI_sub, zI_mul, zI_neg, zI_le, zI_lt, zI_eq, zI_nat, zI_max, zI_min, zI_abs, forall_eq, Int.reduceNeg, Int.reduceAdd, Int.reduceMul, Int.reduceSub, Int.add_zero, Int.zero_add, Int.zero_mul, Int.toNat_zero]
    refine ⟨zI_in (by omega), fun _ => hK c G (hN.imp (fun x y => ?_)) (hG.imp (fun x y => ?_)), fun h => absurd h (by omega)⟩
    · unfold Mk.pairs; omega
    · unfold Mk.pairs; omega
  | succ n ih =>
    intro b c G hab hn hN hG
    have hb : 0 ≤ b ∧ b < k.n := by omega
    have c1 := hm.2 a ha.1 ha.2
    have c2 := hm.2 b hb.1 hb.2
    have r1 := hk.2 a ha.1 ha.2
    have r2 := hk.2 b hb.1 hb.2
    have rb := reach_bd hk hl hp ha hb
    have db := Mk.d_bd hk ha hb
    have gb := hG.bd
    have g122 : ∀ (z : Int32) (s : Int), z = zI s → (s = if k.wh a = k.wh b then 0 else ln) → wpX11_fits_122 (fun y0 y1 y2 y3 y4 y5 y6 y7 => wpX11_fits_67 k50 post v (n + 1) y0 y1 y2 y3 y4 y5 y6 y7) k50 post v th (zI ln) (zI pc) x3 (zI c) (zI G) (zI a) (zI b) (zL (pc * ((k.mi a - k.mi b).natAbs : Int))) z := by
      intro z s hz hs
      subst hz
      have hs' : 0 ≤ s ∧ s ≤ 999 := by rw [hs]; split <;> omega
      have er : pc * ((k.mi a - k.mi b).natAbs : Int) + s = k.reach ln pc a b := by unfold Mk.reach; rw [hs]
      unfold wpX11_fits_122
      rw [zI_long (by omega), zL_add, er]
      intro v1 hv1
      subst hv1
      refine sr_mdist hk hm ha hb ?_
      rw [zI_long (by omega), zL_mul, show (0 : Int32) = zI 0 from rfl, zL_cmp_gt (by omega), zI_le (by omega)]
      unfold wpX11_fits_165 wpX11_fits_170
      refine ⟨fun h => ?_, fun h => ?_⟩
      · have hf : ¬ k.fit ln pc a b := by unfold Mk.fit; omega
        have hN' := (hN.take (a := a) (b := b) hf (fun h => by omega)).imp (nx_pairs (by omega))
        refine ⟨fun h' => ?_, fun h' => ?_⟩
        · simp (disch := omega) only [zI_lit, zI_add, zI_sub, zI_mul, zI_neg, zI_le, zI_lt, zI_eq, zI_nat, zI_max, zI_min, zI_abs, forall_eq, Int.reduceNeg, Int.reduceAdd, Int.reduceMul, Int.reduceSub, Int.add_zero, Int.zero_add, Int.zero_mul, Int.toNat_zero]
          exact ih (b + 1) (c + 1) G (by omega) (by omega) hN' ((hG.skip (Or.inr h')).imp (nx_pairs (by omega)))
        · simp (disch := omega) only [zI_lit, zI_add, zI_sub, zI_mul, zI_neg, zI_le, zI_lt, zI_eq, zI_nat, zI_max, zI_min, zI_abs, forall_eq, Int.reduceNeg, Int.reduceAdd, Int.reduceMul, Int.reduceSub, Int.add_zero, Int.zero_add, Int.zero_mul, Int.toNat_zero]
          exact ih (b + 1) (c + 1) (100 * a + b) (by omega) (by omega) hN' ((hG.take h' hf (by omega) (fun x y hp hx => ⟨hp, hx⟩)).imp (nx_pairs (by omega)))
      · have hf : k.fit ln pc a b := by unfold Mk.fit; omega
        simp (disch := omega) only [zI_lit, zI_add, zI_sub, zI_mul, zI_neg, zI_le, zI_lt, zI_eq, zI_nat, zI_max, zI_min, zI_abs, forall_eq, Int.reduceNeg, Int.reduceAdd, Int.reduceMul, Int.reduceSub, Int.add_zero, Int.zero_add, Int.zero_mul, Int.toNat_zero]
        exact ih (b + 1) c G (by omega) (by omega) ((hN.skip hf).imp (nx_pairs (by omega))) ((hG.skip (Or.inl hf)).imp (nx_pairs (by omega)))
    unfold wpX11_fits_67
    rw [show (4 : Int32).toNatClampNeg = 4 from rfl, hm.1, zI_le (by omega), show (1 : Int32) = zI 1 from rfl, show (0 : Int32) = zI 0 from rfl]
    refine ⟨by unfold vp_in; decide, fun h => absurd h (by omega), fun _ => ?_⟩
    refine sr_ofMark (j := 1) hk ha (by omega) c1.2.1 ?_
    refine sr_ofMark (j := 1) hk hb (by omega) c2.2.1 ?_
    refine sr_ofMark (j := 0) hk ha (by omega) (hm.at0 ha) ?_
    refine sr_ofMark (j := 0) hk hb (by omega) (hm.at0 hb) ?_
    rw [zI_eq (by omega), zI_sub, zI_abs (by omega), zI_long (by omega), zI_long (by omega), zL_mul]
    exact ⟨fun h => g122 _ _ rfl (by rw [if_neg h]), fun h => g122 _ 0 rfl (by rw [if_pos h])⟩
theorem sr_fits50 {post : Int32 → Int32 → Prop} {th x3 : Int32} (hk : k.Ok) (hm : WM k v) (hl : 0 ≤ ln ∧ ln ≤ 999) (hp : 0 ≤ pc ∧ pc ≤ 99)
    (hpost : ∀ c G, Ct k ln pc k.pairs c → Ft k ln pc k.pairs G → post (if x3 = 0 then zI c else zI G) th) :
    ∀ (n : Nat) (a c G : Int), 0 ≤ a → a + n = k.n → Ct k ln pc (fun x y => k.pairs x y ∧ x < a) c → Ft k ln pc (fun x y => k.pairs x y ∧ x < a) G → wpX11_fits_50 post v (n + 1) th (zI ln) (zI pc) x3 (zI c) (zI G) (zI a) := by
  have n20 := hk.1
  intro n
  induction n with
  | zero =>
    intro a c G h0 hn hN hG
    unfold wpX11_fits_50
    rw [show (4 : Int32).toNatClampNeg = 4 from rfl, hm.1, zI_le (by omega)]
    have hp' := hpost c G (hN.imp (fun x y => by unfold Mk.pairs; omega)) (hG.imp (fun x y => by unfold Mk.pairs; omega))
    refine ⟨by unfold vp_in; decide, fun _ => ⟨fun h => ?_, fun h => ?_⟩, fun h => absurd h (by omega)⟩
    · rw [if_pos h] at hp'; exact hp'
    · rw [if_neg h] at hp'; exact hp'
  | succ n ih =>
    intro a c G h0 hn hN hG
    have := sr_fits67 (k50 := fun y0 y1 y2 y3 y4 y5 y6 => wpX11_fits_50 post v (n + 1) y0 y1 y2 y3 y4 y5 y6) (post := post) (th := th) (x3 := x3) hk hm hl hp ⟨h0, by omega⟩ (fun c G hN hG => ih (a + 1) c G (by omega) (by omega) hN hG) n (a + 1) c G (by omega) (by omega) (hN.imp (fun x y => by unfold Mk.pairs; omega)) (hG.imp (fun x y => by unfold Mk.pairs; omega))
    unfold wpX11_fits_50
    rw [show (4 : Int32).toNatClampNeg = 4 from rfl, hm.1, zI_le (by omega)]
    refine ⟨by unfold vp_in; decide, fun h => absurd h (by omega), fun _ => ?_⟩
    simp (disch := omega) only [zI_lit, zI_add, zI_sub, zI_mul, zI_neg, zI_le, zI_lt, zI_eq, zI_nat, zI_max, zI_min, zI_abs, forall_eq, Int.reduceNeg, Int.reduceAdd, Int.reduceMul, Int.reduceSub, Int.add_zero, Int.zero_add, Int.zero_mul, Int.toNat_zero]
    exact ⟨n + 1, this⟩
theorem sp_isOutside {post : Int32 → Unit → Prop} {x m : Int} (hx : -2147483648 ≤ x ∧ x < 2147483648) (hm : 0 ≤ m ∧ m < 2147483648) (h1 : ¬ (0 ≤ x ∧ x ≤ m) → post 1 ()) (h0 : 0 ≤ x ∧ x ≤ m → post 0 ()) : wpX10_isOutside post (zI x) (zI m) := by
  unfold wpX10_isOutside
  simp (disch := omega) only [zI_lit, zI_add, zI_sub, zI_mul, zI_neg, zI_le, zI_lt, zI_eq, zI_nat, zI_max, zI_min, zI_abs, forall_eq, Int.reduceNeg, Int.reduceAdd, Int.reduceMul, Int.reduceSub, Int.add_zero, Int.zero_add, Int.zero_mul, Int.toNat_zero]
  exact ⟨fun h => h1 (by omega), fun h => ⟨fun h' => h0 (by omega), fun h' => h1 (by omega)⟩⟩
theorem sp_fits {post : Int32 → Unit → Prop} {postX : String → Unit → Prop} {x3 : Int32} (hk : k.Ok) (hc : CM k mi xs ys wh sz) (hl : -2147483648 ≤ ln ∧ ln < 2147483648) (hp : -2147483648 ≤ pc ∧ pc < 2147483648)
    (hx : ¬ ((0 ≤ ln ∧ ln ≤ 999) ∧ 0 ≤ pc ∧ pc ≤ 99) → postX "java/lang/IllegalArgumentException" ())
    (hpost : 0 ≤ ln ∧ ln ≤ 999 → 0 ≤ pc ∧ pc ≤ 99 → ∀ A, (x3 = 0 → Ct k ln pc k.pairs A) → (x3 ≠ 0 → Ft k ln pc k.pairs A) → post (zI A) ()) : wpX10_fits post postX sz mi wh xs ys (zI ln) (zI pc) x3 := by
  unfold wpX10_fits wpX10_fits_19
  rw [show (999 : Int32) = zI 999 from rfl, show (99 : Int32) = zI 99 from rfl]
  refine sp_isOutside hl (by omega) (fun h => ⟨fun _ => hx (fun h' => h h'.1), fun h => absurd h (by decide)⟩) (fun h1 => ⟨fun h => absurd rfl h, fun _ => ?_⟩)
  refine sp_isOutside hp (by omega) (fun h => ⟨fun h => absurd h (by decide), fun _ => hx (fun h' => h h'.2)⟩) (fun h2 => ⟨fun _ => ⟨fun h => ?_, fun h => ?_⟩, fun h => absurd rfl h⟩)
  · exact sp_countMisfits hk hc h1 h2 (fun c hC => hpost h1 h2 c (fun _ => hC) (fun h' => absurd h h'))
  · exact sp_firstMisfit hk hc h1 h2 (fun G hG => hpost h1 h2 G (fun h' => absurd h' h) (fun _ => hG))
theorem sr_fits {post : Int32 → Int32 → Prop} {th x3 : Int32} (hk : k.Ok) (hm : WM k v) (hl : -2147483648 ≤ ln ∧ ln < 2147483648) (hp : -2147483648 ≤ pc ∧ pc < 2147483648)
    (hx : ¬ ((0 ≤ ln ∧ ln ≤ 999) ∧ 0 ≤ pc ∧ pc ≤ 99) → ∀ r, post r 1)
    (hpost : 0 ≤ ln ∧ ln ≤ 999 → 0 ≤ pc ∧ pc ≤ 99 → ∀ A, (x3 = 0 → Ct k ln pc k.pairs A) → (x3 ≠ 0 → Ft k ln pc k.pairs A) → post (zI A) 0) : wpX11_fits post v th (zI ln) (zI pc) x3 := by
  have n20 := hk.1
  have c27 : ¬ ((0 ≤ ln ∧ ln ≤ 999) ∧ 0 ≤ pc ∧ pc ≤ 99) → wpX11_fits_27 post v 0 (zI ln) (zI pc) x3 := by
    intro h
    unfold wpX11_fits_27 wpX11_fits_32
    exact sr_throwsIf (fun h => absurd h (by decide)) (fun _ => ⟨fun h => absurd h (by decide), fun _ => hx h _⟩) (Or.inr rfl)
  unfold wpX11_fits
  rw [show (999 : Int32) = zI 999 from rfl, show (99 : Int32) = zI 99 from rfl, show (0 : Int32) = zI 0 from rfl]
  refine sr_in hl (by omega) (by omega) (fun h1 => ⟨fun h => absurd h (by decide), fun _ => ?_⟩) (fun h => ⟨fun _ => c27 (fun h' => h h'.1), fun h => absurd rfl h⟩)
  refine sr_in hp (by omega) (by omega) (fun h2 => ⟨fun _ => ?_, fun h => absurd h (by decide)⟩) (fun h => ⟨fun h => absurd rfl h, fun _ => c27 (fun h' => h h'.2)⟩)
  unfold wpX11_fits_32
  refine sr_throwsIf (fun _ => ⟨fun _ => ?_, fun h => absurd rfl h⟩) (fun h => absurd h (by decide)) (Or.inl rfl)
  refine ⟨k.n.toNat + 1, sr_fits50 hk hm h1 h2 (fun c G hC hG => ?_) k.n.toNat 0 0 (-1) (by omega) (by omega) ⟨[], List.nodup_nil, fun p => ⟨fun h => absurd h List.not_mem_nil, fun h => ?_⟩, rfl⟩ (Or.inl ⟨rfl, fun a b h => ?_⟩)⟩
  · by_cases h : x3 = 0
    · rw [if_pos h]; exact hpost h1 h2 c (fun _ => hC) (fun h' => absurd h h')
    · rw [if_neg h]; exact hpost h1 h2 G (fun h' => absurd h' h) (fun _ => hG)
  · have := h.1; unfold Mk.pairs at this; omega
  · unfold Mk.pairs at h; omega
end
