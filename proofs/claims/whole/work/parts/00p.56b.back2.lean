section
variable {q : Int → Int → Int} {M D : Int} {B B0 : Int → Int → Int}
def n8 (B : Int → Int → Int) (m d : Int) : Int := min (min (B m (d - 1)) (B m (d + 1))) (min (min (B (m - 1) d) (min (B (m - 1) (d - 1)) (B (m - 1) (d + 1)))) (min (B (m + 1) d) (min (B (m + 1) (d - 1)) (B (m + 1) (d + 1)))))
theorem n8_at (B : Int → Int → Int) (m d : Int) : (∃ x' y', Kn m d x' y' ∧ n8 B m d = B x' y') ∧ (∀ x' y', Kn m d x' y' → n8 B m d ≤ B x' y' ∨ (x' = m ∧ y' = d)) := by
  constructor
  · have k : ∀ x y : Int, Kn m d x y → (fun N => ∃ x' y', Kn m d x' y' ∧ N = B x' y') (B x y) := fun x y h => ⟨x, y, h, rfl⟩
    exact min_at (P := fun N => ∃ x' y', Kn m d x' y' ∧ N = B x' y') (min_at (P := fun N => ∃ x' y', Kn m d x' y' ∧ N = B x' y') (k _ _ (by unfold Kn; omega)) (k _ _ (by unfold Kn; omega))) (min_at (P := fun N => ∃ x' y', Kn m d x' y' ∧ N = B x' y') (min_at (P := fun N => ∃ x' y', Kn m d x' y' ∧ N = B x' y') (k _ _ (by unfold Kn; omega)) (min_at (P := fun N => ∃ x' y', Kn m d x' y' ∧ N = B x' y') (k _ _ (by unfold Kn; omega)) (k _ _ (by unfold Kn; omega)))) (min_at (P := fun N => ∃ x' y', Kn m d x' y' ∧ N = B x' y') (k _ _ (by unfold Kn; omega)) (min_at (P := fun N => ∃ x' y', Kn m d x' y' ∧ N = B x' y') (k _ _ (by unfold Kn; omega)) (k _ _ (by unfold Kn; omega)))))
  · intro x' y' hk
    unfold Kn at hk
    unfold n8
    rcases (show x' = m - 1 ∨ x' = m ∨ x' = m + 1 by omega) with h | h | h <;> rcases (show y' = d - 1 ∨ y' = d ∨ y' = d + 1 by omega) with h' | h' | h' <;> rw [h, h'] <;> first | (left; omega) | (right; omega)
def TbK (B : Int → Int → Int) (M D : Int) (f : Nat → Int32) : Prop := ∀ x y, -1 ≤ x → x ≤ M → -1 ≤ y → y ≤ D → f ((x + 1) * 33 + y + 1).toNat = zI (B x y)
theorem TbK.upd {f : Nat → Int32} {m d v : Int} (h : TbK B M D f) (hM : M ≤ 30) (hD : D ≤ 30) (hg : inG M D m d) : TbK (updB B m d v) M D (upd f ((m + 1) * 33 + d + 1).toNat (zI v)) := by
  intro x y c1 c2 c3 c4
  unfold inG at hg
  rw [upd_eq]
  unfold updB
  by_cases e : x = m ∧ y = d
  · rw [if_pos e, e.1, e.2, if_pos rfl]
  · rw [if_neg e, if_neg (by omega)]; exact h x y c1 c2 c3 c4
theorem sp_improve {post : Int32 → ((Nat → Int32)) → Prop} {f fp : Nat → Int32} {m d : Int} (hM : M ≤ 30) (hD : D ≤ 30) (hg : inG M D m d) (h : TbK B M D f) (hB : ∀ x y, 0 ≤ B x y ∧ B x y ≤ 2147483647) (hq : 0 ≤ q m d ∧ q m d ≤ 2147483647) (hf : fp ((m + 1) * 33 + d + 1).toNat = zI (q m d))
    (h1 : max (q m d) (n8 B m d) < B m d → post 1 (upd f ((m + 1) * 33 + d + 1).toNat (zI (max (q m d) (n8 B m d))))) (h0 : ¬ max (q m d) (n8 B m d) < B m d → post 0 f) : wpX0_improve post fp f (zI ((m + 1) * 33 + d + 1)) := by
  unfold inG at hg
  have e0 := h m d (by omega) (by omega) (by omega) (by omega)
  have e1 := h m (d - 1) (by omega) (by omega) (by omega) (by omega)
  have e2 := h m (d + 1) (by omega) (by omega) (by omega) (by omega)
  have e3 := h (m - 1) d (by omega) (by omega) (by omega) (by omega)
  have e4 := h (m - 1) (d - 1) (by omega) (by omega) (by omega) (by omega)
  have e5 := h (m - 1) (d + 1) (by omega) (by omega) (by omega) (by omega)
  have e6 := h (m + 1) d (by omega) (by omega) (by omega) (by omega)
  have e7 := h (m + 1) (d - 1) (by omega) (by omega) (by omega) (by omega)
  have e8 := h (m + 1) (d + 1) (by omega) (by omega) (by omega) (by omega)
  rw [show ((m + 1) * 33 + (d - 1) + 1).toNat = ((m + 1) * 33 + d + 1 - 1).toNat by omega] at e1
  rw [show ((m + 1) * 33 + (d + 1) + 1).toNat = ((m + 1) * 33 + d + 1 + 1).toNat by omega] at e2
  rw [show ((m - 1 + 1) * 33 + d + 1).toNat = ((m + 1) * 33 + d + 1 - 33).toNat by omega] at e3
  rw [show ((m - 1 + 1) * 33 + (d - 1) + 1).toNat = ((m + 1) * 33 + d + 1 - 33 - 1).toNat by omega] at e4
  rw [show ((m - 1 + 1) * 33 + (d + 1) + 1).toNat = ((m + 1) * 33 + d + 1 - 33 + 1).toNat by omega] at e5
  rw [show ((m + 1 + 1) * 33 + d + 1).toNat = ((m + 1) * 33 + d + 1 + 33).toNat by omega] at e6
  rw [show ((m + 1 + 1) * 33 + (d - 1) + 1).toNat = ((m + 1) * 33 + d + 1 + 33 - 1).toNat by omega] at e7
  rw [show ((m + 1 + 1) * 33 + (d + 1) + 1).toNat = ((m + 1) * 33 + d + 1 + 33 + 1).toNat by omega] at e8
  have b0 := hB m d
  have b1 := hB m (d - 1)
  have b2 := hB m (d + 1)
  have b3 := hB (m - 1) d
  have b4 := hB (m - 1) (d - 1)
  have b5 := hB (m - 1) (d + 1)
  have b6 := hB (m + 1) d
  have b7 := hB (m + 1) (d - 1)
  have b8 := hB (m + 1) (d + 1)
  unfold n8 at h1 h0
  unfold wpX0_improve
  simp (disch := omega) only [zI_lit, zI_add, zI_sub, zI_mul, zI_neg, zI_le, zI_lt, zI_eq, zI_nat, zI_max, zI_min, zI_abs, forall_eq, Int.reduceNeg, Int.reduceAdd, Int.reduceMul, Int.reduceSub, Int.add_zero, Int.zero_add, Int.zero_mul, Int.toNat_zero]
  rw [e0, e1, e2, e3, e4, e5, e6, e7, e8, hf]
  simp (disch := omega) only [zI_lit, zI_add, zI_sub, zI_mul, zI_neg, zI_le, zI_lt, zI_eq, zI_nat, zI_max, zI_min, zI_abs, forall_eq, Int.reduceNeg, Int.reduceAdd, Int.reduceMul, Int.reduceSub, Int.add_zero, Int.zero_add, Int.zero_mul, Int.toNat_zero]
  exact ⟨zI_in (by omega), zI_in (by omega), zI_in (by omega), zI_in (by omega), zI_in (by omega), zI_in (by omega), zI_in (by omega), zI_in (by omega), zI_in (by omega), zI_in (by omega), fun h => ⟨zI_in (by omega), h1 h⟩, fun h => h0 h⟩
theorem or01 {a b : Int} (ha : a = 0 ∨ a = 1) (hb : b = 0 ∨ b = 1) : zI a ||| zI b = zI (if b = 1 then 1 else a) := by
  rcases ha with rfl | rfl <;> rcases hb with rfl | rfl <;> rfl
def Pr1 (q : Int → Int → Int) (M D : Int) (fp : Nat → Int32) : Prop := ∀ m d, inG M D m d → (0 ≤ q m d ∧ (q m d = 2147483647 ∨ q m d ≤ 1996002)) ∧ fp ((m + 1) * 33 + d + 1).toNat = zI (q m d)
def Js (q : Int → Int → Int) (M D : Int) (B0 : Int → Int → Int) (P : Int → Int → Prop) (fl : Int) (f : Nat → Int32) : Prop := ∃ B, Jr q 2147483647 M D (M - 1) (D - 1) B0 B P fl ∧ TbK B M D f
theorem sp_imp {P : Int → Int → Prop} {post : Int32 → ((Nat → Int32)) → Prop} {f fp : Nat → Int32} {m d fl : Int} (hM : M ≤ 30) (hD : D ≤ 30) (hg : inG M D m d) (hp : Pr1 q M D fp) (h : Js q M D B0 P fl f) (hfl : fl = 0 ∨ fl = 1)
    (hk : ∀ (r : Int) (f' : Nat → Int32), (r = 0 ∨ r = 1) → Js q M D B0 (fun x y => P x y ∨ (x = m ∧ y = d)) (if r = 1 then 1 else fl) f' → post (zI r) f') : wpX0_improve post fp f (zI ((m + 1) * 33 + d + 1)) := by
  obtain ⟨B, hJ, hT⟩ := h
  have hq := hp m d hg
  have st := hJ.step (N := n8 B m d) (by omega) hg hq.1 (n8_at B m d).1 (n8_at B m d).2
  refine sp_improve hM hD hg hT (fun x y => by have := hJ.2.2.1 x y; omega) (by omega) hq.2 (fun h => ?_) (fun h => ?_)
  · exact hk 1 _ (Or.inr rfl) ⟨_, st.1 h, hT.upd hM hD hg⟩
  · exact hk 0 _ (Or.inl rfl) ⟨_, st.2 h, hT⟩
theorem sp_gb85 {k73 : (Nat → Int32) → Int32 → Int32 → Int32 → Prop} {k53 : (Nat → Int32) → Int32 → Int32 → Prop} {post : Int32 → ((Nat → Int32)) → Prop} {fp : Nat → Int32} {m : Int} {x2 : Int32} (hM : 1 ≤ M ∧ M ≤ 30) (hD : 1 ≤ D ∧ D ≤ 30) (hm : 0 ≤ m ∧ m < M) (hp : Pr1 q M D fp)
    (hk : ∀ fl f, (fl = 0 ∨ fl = 1) → Js q M D B0 (fun x _ => m ≤ x) fl f → k73 f (zI fl) x2 (zI (m - 1))) :
    ∀ (n : Nat) (d fl : Int) (f : Nat → Int32), d + 1 = n → d < D → (fl = 0 ∨ fl = 1) → Js q M D B0 (fun x y => m < x ∨ x = m ∧ d < y) fl f → wpX0_leastGoingBack_85 k73 k53 post (zI M) (zI D) fp (n + 1) f (zI fl) x2 (zI m) (zI d) := by
  intro n
  induction n with
  | zero =>
    intro d fl f h0 h1 hfl hJ
    obtain ⟨B, hJ, hT⟩ := hJ
    unfold wpX0_leastGoingBack_85
    simp (disch := omega) only [zI_lit, zI_add, zI_sub, zI_mul, zI_neg, zI_le, zI_lt, zI_eq, zI_nat, zI_max, zI_min, zI_abs, forall_eq, Int.reduceNeg, Int.reduceAdd, Int.reduceMul, Int.reduceSub, Int.add_zero, Int.zero_add, Int.zero_mul, Int.toNat_zero]
    exact ⟨fun _ => hk fl f hfl ⟨B, hJ.weak (fun x y g p => by unfold inG at g; omega), hT⟩, fun h => absurd h (by omega)⟩
  | succ n ih =>
    intro d fl f h0 h1 hfl hJ
    unfold wpX0_leastGoingBack_85
    simp (disch := omega) only [zI_lit, zI_add, zI_sub, zI_mul, zI_neg, zI_le, zI_lt, zI_eq, zI_nat, zI_max, zI_min, zI_abs, forall_eq, Int.reduceNeg, Int.reduceAdd, Int.reduceMul, Int.reduceSub, Int.add_zero, Int.zero_add, Int.zero_mul, Int.toNat_zero, wpX0_cell]
    refine ⟨fun h => absurd h (by omega), fun _ => ?_⟩
    refine sp_imp hM.2 hD.2 ⟨hm, by omega, h1⟩ hp hJ hfl (fun r f' hr hJ' => ?_)
    rw [or01 hfl hr]
    obtain ⟨B, hJ', hT⟩ := hJ'
    exact ih (d - 1) _ f' (by omega) (by omega) (by split <;> omega) ⟨B, hJ'.weak (fun x y _ p => by omega), hT⟩
theorem sp_gb128 {k117 : (Nat → Int32) → Int32 → Int32 → Int32 → Prop} {k53 : (Nat → Int32) → Int32 → Int32 → Prop} {post : Int32 → ((Nat → Int32)) → Prop} {P : Int → Int → Prop} {fp : Nat → Int32} {m : Int} {x2 : Int32} (hM : 1 ≤ M ∧ M ≤ 30) (hD : 1 ≤ D ∧ D ≤ 30) (hm : 0 ≤ m ∧ m < M) (hp : Pr1 q M D fp)
    (hk : ∀ fl f, (fl = 0 ∨ fl = 1) → Js q M D B0 P fl f → k117 f (zI fl) x2 (zI (m + 1))) :
    ∀ (n : Nat) (d fl : Int) (f : Nat → Int32), d + n = D → 0 ≤ d → (fl = 0 ∨ fl = 1) → Js q M D B0 P fl f → wpX0_leastGoingBack_128 k117 k53 post (zI M) (zI D) fp (n + 1) f (zI fl) x2 (zI m) (zI d) := by
  intro n
  induction n with
  | zero =>
    intro d fl f h0 h1 hfl hJ
    unfold wpX0_leastGoingBack_128
    simp (disch := omega) only [zI_lit, zI_add, zI_sub, zI_mul, zI_neg, zI_le, zI_lt, zI_eq, zI_nat, zI_max, zI_min, zI_abs, forall_eq, Int.reduceNeg, Int.reduceAdd, Int.reduceMul, Int.reduceSub, Int.add_zero, Int.zero_add, Int.zero_mul, Int.toNat_zero]
    exact ⟨fun _ => hk fl f hfl hJ, fun h => absurd h (by omega)⟩
  | succ n ih =>
    intro d fl f h0 h1 hfl hJ
    unfold wpX0_leastGoingBack_128
    simp (disch := omega) only [zI_lit, zI_add, zI_sub, zI_mul, zI_neg, zI_le, zI_lt, zI_eq, zI_nat, zI_max, zI_min, zI_abs, forall_eq, Int.reduceNeg, Int.reduceAdd, Int.reduceMul, Int.reduceSub, Int.add_zero, Int.zero_add, Int.zero_mul, Int.toNat_zero, wpX0_cell]
    refine ⟨fun h => absurd h (by omega), fun _ => ?_⟩
    refine sp_imp hM.2 hD.2 ⟨hm, h1, by omega⟩ hp hJ hfl (fun r f' hr hJ' => ?_)
    rw [or01 hfl hr]
    obtain ⟨B, hJ', hT⟩ := hJ'
    exact ih (d + 1) _ f' (by omega) (by omega) (by split <;> omega) ⟨B, hJ'.weak (fun x y _ p => Or.inl p), hT⟩
theorem sp_gb117 {k53 : (Nat → Int32) → Int32 → Int32 → Prop} {post : Int32 → ((Nat → Int32)) → Prop} {P : Int → Int → Prop} {fp : Nat → Int32} {x2 : Int} (hM : 1 ≤ M ∧ M ≤ 30) (hD : 1 ≤ D ∧ D ≤ 30) (hp : Pr1 q M D fp)
    (hk : ∀ fl f, (fl = 0 ∨ fl = 1) → Js q M D B0 P fl f → k53 f (zI fl) (zI (x2 + 1))) :
    ∀ (n : Nat) (m fl : Int) (f : Nat → Int32), m + n = M → 0 ≤ m → (fl = 0 ∨ fl = 1) → Js q M D B0 P fl f → wpX0_leastGoingBack_117 k53 post (zI M) (zI D) fp (n + 1) f (zI fl) (zI x2) (zI m) := by
  intro n
  induction n with
  | zero =>
    intro m fl f h0 h1 hfl hJ
    unfold wpX0_leastGoingBack_117
    simp (disch := omega) only [zI_lit, zI_add, zI_sub, zI_mul, zI_neg, zI_le, zI_lt, zI_eq, zI_nat, zI_max, zI_min, zI_abs, forall_eq, Int.reduceNeg, Int.reduceAdd, Int.reduceMul, Int.reduceSub, Int.add_zero, Int.zero_add, Int.zero_mul, Int.toNat_zero]
    exact ⟨fun _ => hk fl f hfl hJ, fun h => absurd h (by omega)⟩
  | succ n ih =>
    intro m fl f h0 h1 hfl hJ
    unfold wpX0_leastGoingBack_117
    simp (disch := omega) only [zI_lit, zI_add, zI_sub, zI_mul, zI_neg, zI_le, zI_lt, zI_eq, zI_nat, zI_max, zI_min, zI_abs, forall_eq, Int.reduceNeg, Int.reduceAdd, Int.reduceMul, Int.reduceSub, Int.add_zero, Int.zero_add, Int.zero_mul, Int.toNat_zero]
    refine ⟨fun h => absurd h (by omega), fun _ => ⟨D.toNat + 1, ?_⟩⟩
    exact sp_gb128 hM hD ⟨h1, by omega⟩ hp (fun fl f hfl hJ => ih (m + 1) fl f (by omega) (by omega) hfl hJ) _ 0 fl f (by omega) (by omega) hfl hJ
theorem sp_gb73 {k53 : (Nat → Int32) → Int32 → Int32 → Prop} {post : Int32 → ((Nat → Int32)) → Prop} {fp : Nat → Int32} {x2 : Int} (hM : 1 ≤ M ∧ M ≤ 30) (hD : 1 ≤ D ∧ D ≤ 30) (hp : Pr1 q M D fp)
    (hk : ∀ fl f, (fl = 0 ∨ fl = 1) → Js q M D B0 (fun x _ => 0 ≤ x) fl f → k53 f (zI fl) (zI (x2 + 1))) :
    ∀ (n : Nat) (m fl : Int) (f : Nat → Int32), m + 1 = n → m < M → (fl = 0 ∨ fl = 1) → Js q M D B0 (fun x _ => m < x) fl f → wpX0_leastGoingBack_73 k53 post (zI M) (zI D) fp (n + 1) f (zI fl) (zI x2) (zI m) := by
  intro n
  induction n with
  | zero =>
    intro m fl f h0 h1 hfl hJ
    unfold wpX0_leastGoingBack_73
    simp (disch := omega) only [zI_lit, zI_add, zI_sub, zI_mul, zI_neg, zI_le, zI_lt, zI_eq, zI_nat, zI_max, zI_min, zI_abs, forall_eq, Int.reduceNeg, Int.reduceAdd, Int.reduceMul, Int.reduceSub, Int.add_zero, Int.zero_add, Int.zero_mul, Int.toNat_zero]
    refine ⟨fun _ => ⟨M.toNat + 1, ?_⟩, fun h => absurd h (by omega)⟩
    obtain ⟨B, hJ, hT⟩ := hJ
    exact sp_gb117 (P := fun x _ => 0 ≤ x) hM hD hp hk _ 0 fl f (by omega) (by omega) hfl ⟨B, hJ.weak (fun x y _ p => by omega), hT⟩
  | succ n ih =>
    intro m fl f h0 h1 hfl hJ
    unfold wpX0_leastGoingBack_73
    simp (disch := omega) only [zI_lit, zI_add, zI_sub, zI_mul, zI_neg, zI_le, zI_lt, zI_eq, zI_nat, zI_max, zI_min, zI_abs, forall_eq, Int.reduceNeg, Int.reduceAdd, Int.reduceMul, Int.reduceSub, Int.add_zero, Int.zero_add, Int.zero_mul, Int.toNat_zero]
    refine ⟨fun h => absurd h (by omega), fun _ => ⟨D.toNat + 1, ?_⟩⟩
    obtain ⟨B, hJ, hT⟩ := hJ
    refine sp_gb85 (B0 := B0) hM hD ⟨by omega, h1⟩ hp (fun fl f hfl hJ => ?_) _ (D - 1) fl f (by omega) (by omega) hfl ⟨B, hJ.weak (fun x y g p => by unfold inG at g; omega), hT⟩
    obtain ⟨B, hJ, hT⟩ := hJ
    exact ih (m - 1) fl f (by omega) (by omega) hfl ⟨B, hJ.weak (fun x y _ p => by omega), hT⟩
theorem sp_gb53 {post : Int32 → ((Nat → Int32)) → Prop} {fp : Nat → Int32} (hM : 1 ≤ M ∧ M ≤ 30) (hD : 1 ≤ D ∧ D ≤ 30) (hp : Pr1 q M D fp)
    (hpost : ∀ B f, Snd q 2147483647 M D (M - 1) (D - 1) B → (∀ t, t < 2147483647 → Cmp q M D (M - 1) (D - 1) t B) → (∀ x y, 0 ≤ B x y ∧ (B x y = 2147483647 ∨ B x y ≤ 1996002)) → post (zI (B 0 0)) f) :
    ∀ (n k : Nat) (B : Int → Int → Int) (fl : Int) (f : Nat → Int32), k + n = 900 → (fl = 0 ∨ fl = 1) → Kr q 2147483647 M D (M - 1) (D - 1) B k → (fl = 0 → ∀ t, t < 2147483647 → Cmp q M D (M - 1) (D - 1) t B) → TbK B M D f → wpX0_leastGoingBack_53 post (zI M) (zI D) fp (n + 1) f (zI fl) (zI k) := by
  intro n
  induction n with
  | zero =>
    intro k B fl f h0 hfl hK hc hT
    have h168 : wpX0_leastGoingBack_168 post (zI M) (zI D) fp f := by
      unfold wpX0_leastGoingBack_168
      simp (disch := omega) only [zI_lit, zI_add, zI_sub, zI_mul, zI_neg, zI_le, zI_lt, zI_eq, zI_nat, zI_max, zI_min, zI_abs, forall_eq, Int.reduceNeg, Int.reduceAdd, Int.reduceMul, Int.reduceSub, Int.add_zero, Int.zero_add, Int.zero_mul, Int.toNat_zero, wpX0_cell]
      have := hT 0 0 (by omega) (by omega) (by omega) (by omega)
      have e := hpost B f hK.1 (hK.full (by omega)) hK.2.1
      rw [← this] at e
      exact ⟨zI_in (by omega), e⟩
    unfold wpX0_leastGoingBack_53
    simp (disch := omega) only [zI_lit, zI_add, zI_sub, zI_mul, zI_neg, zI_le, zI_lt, zI_eq, zI_nat, zI_max, zI_min, zI_abs, forall_eq, Int.reduceNeg, Int.reduceAdd, Int.reduceMul, Int.reduceSub, Int.add_zero, Int.zero_add, Int.zero_mul, Int.toNat_zero]
    exact ⟨fun _ => h168, fun _ => ⟨fun _ => h168, fun h => absurd h (by omega)⟩⟩
  | succ n ih =>
    intro k B fl f h0 hfl hK hc hT
    unfold wpX0_leastGoingBack_53
    simp (disch := omega) only [zI_lit, zI_add, zI_sub, zI_mul, zI_neg, zI_le, zI_lt, zI_eq, zI_nat, zI_max, zI_min, zI_abs, forall_eq, Int.reduceNeg, Int.reduceAdd, Int.reduceMul, Int.reduceSub, Int.add_zero, Int.zero_add, Int.zero_mul, Int.toNat_zero]
    refine ⟨fun h => ?_, fun _ => ⟨fun h => absurd h (by omega), fun _ => ⟨M.toNat + 1, ?_⟩⟩⟩
    · unfold wpX0_leastGoingBack_168
      simp (disch := omega) only [zI_lit, zI_add, zI_sub, zI_mul, zI_neg, zI_le, zI_lt, zI_eq, zI_nat, zI_max, zI_min, zI_abs, forall_eq, Int.reduceNeg, Int.reduceAdd, Int.reduceMul, Int.reduceSub, Int.add_zero, Int.zero_add, Int.zero_mul, Int.toNat_zero, wpX0_cell]
      have := hT 0 0 (by omega) (by omega) (by omega) (by omega)
      have e := hpost B f hK.1 (hc (by omega)) hK.2.1
      rw [← this] at e
      exact ⟨zI_in (by omega), e⟩
    · refine sp_gb73 (B0 := B) hM hD hp (fun fl f hfl hJ => ?_) _ (M - 1) 0 f (by omega) (by omega) (Or.inl rfl) ⟨B, (hK.start (P := fun _ _ => False) (fun _ _ h => h)).weak (fun x y g p => by unfold inG at g; omega), hT⟩
      obtain ⟨B', hJ, hT'⟩ := hJ
      have := ih (k + 1) B' fl f (by omega) hfl (hK.next hM.2 hD.2 (fun x y g => g.1.1) hJ) (fun h => hK.done (fun x y g => g.1.1) (by rw [h] at hJ; exact hJ)) hT'
      exact this
theorem sp_goingBack {post : Int32 → ((Nat → Int32)) → Prop} {fp f : Nat → Int32} (hM : 1 ≤ M ∧ M ≤ 30) (hD : 1 ≤ D ∧ D ≤ 30) (hp : Pr1 q M D fp)
    (hpost : ∀ B f, Snd q 2147483647 M D (M - 1) (D - 1) B → (∀ t, t < 2147483647 → Cmp q M D (M - 1) (D - 1) t B) → (∀ x y, 0 ≤ B x y ∧ (B x y = 2147483647 ∨ B x y ≤ 1996002)) → post (zI (B 0 0)) f) : wpX0_leastGoingBack post (zI M) (zI D) fp f := by
  have hg : inG M D (M - 1) (D - 1) := by unfold inG; omega
  have hq := hp _ _ hg
  unfold wpX0_leastGoingBack
  refine sp_fill (by omega) (fun u hu => ?_)
  simp (disch := omega) only [zI_lit, zI_add, zI_sub, zI_mul, zI_neg, zI_le, zI_lt, zI_eq, zI_nat, zI_max, zI_min, zI_abs, forall_eq, Int.reduceNeg, Int.reduceAdd, Int.reduceMul, Int.reduceSub, Int.add_zero, Int.zero_add, Int.zero_mul, Int.toNat_zero, wpX0_cell]
  rw [hq.2]
  refine ⟨zI_in (by omega), zI_in (by omega), 901, ?_⟩
  refine sp_gb53 hM hD hp hpost 900 0 _ 1 _ (by omega) (Or.inr rfl) (Kr.first hM hD (by omega) hg hq.1) (fun h => absurd h (by decide)) ?_
  exact TbK.upd (B := fun _ _ => 2147483647) (fun x y c1 c2 c3 c4 => hu _ (by omega)) hM.2 hD.2 hg
end
