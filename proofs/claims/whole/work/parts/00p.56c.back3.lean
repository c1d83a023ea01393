section
variable {q : Int → Int → Int} {M D : Int} {B B0 : Int → Int → Int} {v f2 : Nat → Int32} {th : Int32}
def TbR (B : Int → Int → Int) (M D : Int) (f : Nat → Int32) : Prop := ∀ x y, inG M D x y → f (30 * x + y).toNat = zI (B x y)
theorem TbR.upd {f : Nat → Int32} {m d w : Int} (h : TbR B M D f) (hD : D ≤ 30) (hg : inG M D m d) : TbR (updB B m d w) M D (upd f (30 * m + d).toNat (zI w)) := by
  intro x y g
  have g' := g
  have hg' := hg
  unfold inG at g' hg'
  rw [upd_eq]
  unfold updB
  by_cases e : x = m ∧ y = d
  · rw [if_pos e, e.1, e.2, if_pos rfl]
  · rw [if_neg e, if_neg (by omega)]; exact h x y g
def Pr2 (q : Int → Int → Int) (M D : Int) (fp : Nat → Int32) : Prop := ∀ m d, inG M D m d → (0 ≤ q m d ∧ (q m d = 2000000000 ∨ q m d ≤ 1996002)) ∧ fp (30 * m + d).toNat = zI (q m d)
def Jt (q : Int → Int → Int) (M D : Int) (B0 : Int → Int → Int) (P : Int → Int → Prop) (fl : Int) (f : Nat → Int32) : Prop := ∃ B, Jr q 2000000000 M D 0 0 B0 B P fl ∧ TbR B M D f
theorem sr_backLead {post : Int32 → Unit → Prop} {f : Nat → Int32} {x y : Int} (hM : 1 ≤ M ∧ M ≤ 30) (hD : 1 ≤ D ∧ D ≤ 30) (hx : -1 ≤ x ∧ x ≤ 30) (hy : -1 ≤ y ∧ y ≤ 30) (h : TbR B M D f) (ho : ∀ x y, ¬ inG M D x y → B x y = 2000000000) (hp : post (zI (B x y)) ()) : wpX11_backLead post (zI M) (zI D) f (zI x) (zI y) := by
  have no : ¬ inG M D x y → post 2000000000 () := by
    intro hn
    rw [ho x y hn] at hp
    exact hp
  unfold inG at no
  unfold wpX11_backLead
  simp (disch := omega) only [zI_lit, zI_add, zI_sub, zI_mul, zI_neg, zI_le, zI_lt, zI_eq, zI_nat, zI_max, zI_min, zI_abs, forall_eq, Int.reduceNeg, Int.reduceAdd, Int.reduceMul, Int.reduceSub, Int.add_zero, Int.zero_add, Int.zero_mul, Int.toNat_zero]
  refine ⟨fun h1 => no (by omega), fun h1 => ⟨fun h2 => no (by omega), fun h2 => ⟨fun h3 => no (by omega), fun h3 => ⟨fun h4 => ⟨zI_in (by omega), ?_⟩, fun h4 => no (by omega)⟩⟩⟩⟩
  rw [h x y (by unfold inG; omega)]
  exact hp
def n9 (B : Int → Int → Int) (m d : Int) : Nat → Int
  | 0 => 2000000000
  | k + 1 => min (n9 B m d k) (B (m + ((k / 3 : Nat) : Int) - 1) (d + ((k % 3 : Nat) : Int) - 1))
theorem n9_bd {m d : Int} (hB : ∀ x y, 0 ≤ B x y ∧ B x y ≤ 2000000000) : ∀ k : Nat, 0 ≤ n9 B m d k ∧ n9 B m d k ≤ 2000000000 := by
  intro k
  induction k with
  | zero => show (0 : Int) ≤ 2000000000 ∧ (2000000000 : Int) ≤ 2000000000; omega
  | succ k ih =>
    have := hB (m + ((k / 3 : Nat) : Int) - 1) (d + ((k % 3 : Nat) : Int) - 1)
    show 0 ≤ min _ _ ∧ min _ _ ≤ _
    omega
theorem n9_nine (B : Int → Int → Int) (m d : Int) : n9 B m d 9 = min (min (min (min (min (min (min (min (min 2000000000 (B (m - 1) (d - 1))) (B (m - 1) d)) (B (m - 1) (d + 1))) (B m (d - 1))) (B m d)) (B m (d + 1))) (B (m + 1) (d - 1))) (B (m + 1) d)) (B (m + 1) (d + 1)) := by
  have e : ∀ a b : Int, B (m + a - 1) (d + b - 1) = B (m + (a - 1)) (d + (b - 1)) := fun a b => by rw [Int.add_sub_assoc, Int.add_sub_assoc]
  simp only [n9, e]
  simp only [Nat.reduceDiv, Nat.reduceMod, Int.ofNat_zero, Int.cast_ofNat_Int, Int.ofNat_one, Int.natCast_zero, Int.natCast_one, Int.reduceSub, Int.reduceNeg, Int.add_zero]
  rfl
theorem n9_at {m d : Int} (hB : ∀ x y, 0 ≤ B x y ∧ B x y ≤ 2000000000) : (∃ x' y', Kn m d x' y' ∧ n9 B m d 9 = B x' y') ∧ (∀ x' y', Kn m d x' y' → n9 B m d 9 ≤ B x' y' ∨ (x' = m ∧ y' = d)) := by
  have b1 := hB (m - 1) (d - 1)
  rw [n9_nine]
  constructor
  · rw [Int.min_eq_right b1.2]
    have k : ∀ x y : Int, Kn m d x y → (fun N => ∃ x' y', Kn m d x' y' ∧ N = B x' y') (B x y) := fun x y h => ⟨x, y, h, rfl⟩
    exact min_at (P := fun N => ∃ x' y', Kn m d x' y' ∧ N = B x' y') (min_at (P := fun N => ∃ x' y', Kn m d x' y' ∧ N = B x' y') (min_at (P := fun N => ∃ x' y', Kn m d x' y' ∧ N = B x' y') (min_at (P := fun N => ∃ x' y', Kn m d x' y' ∧ N = B x' y') (min_at (P := fun N => ∃ x' y', Kn m d x' y' ∧ N = B x' y') (min_at (P := fun N => ∃ x' y', Kn m d x' y' ∧ N = B x' y') (min_at (P := fun N => ∃ x' y', Kn m d x' y' ∧ N = B x' y') (min_at (P := fun N => ∃ x' y', Kn m d x' y' ∧ N = B x' y') (k _ _ (by unfold Kn; omega)) (k _ _ (by unfold Kn; omega))) (k _ _ (by unfold Kn; omega))) (k _ _ (by unfold Kn; omega))) (k _ _ (by unfold Kn; omega))) (k _ _ (by unfold Kn; omega))) (k _ _ (by unfold Kn; omega))) (k _ _ (by unfold Kn; omega))) (k _ _ (by unfold Kn; omega))
  · intro x' y' hk
    unfold Kn at hk
    rcases (show x' = m - 1 ∨ x' = m ∨ x' = m + 1 by omega) with h | h | h <;> rcases (show y' = d - 1 ∨ y' = d ∨ y' = d + 1 by omega) with h' | h' | h' <;> rw [h, h'] <;> first | (left; omega) | (right; omega)
theorem sr_back118 {P : Int → Int → Prop} {k101 : Int32 → Int32 → Int32 → (Nat → Int32) → (Nat → Int32) → (Nat → Int32) → Int32 → Int32 → Int32 → Prop} {k89 : Int32 → Int32 → Int32 → (Nat → Int32) → (Nat → Int32) → (Nat → Int32) → Int32 → Int32 → Prop} {k80 : Int32 → Int32 → Int32 → (Nat → Int32) → (Nat → Int32) → (Nat → Int32) → Int32 → Prop} {post : Int32 → (Int32 × Int32 × Int32 × (Nat → Int32) × (Nat → Int32) × (Nat → Int32)) → Prop} {f fp : Nat → Int32} {m d fl : Int} (hM : 1 ≤ M ∧ M ≤ 30) (hD : 1 ≤ D ∧ D ≤ 30) (hg : inG M D m d) (hp : Pr2 q M D fp) (h : Jt q M D B0 P fl f)
    (hk : ∀ (fl' : Int) (f' : Nat → Int32), (fl' = fl ∨ fl' = 1) → Jt q M D B0 (fun x y => P x y ∨ (x = m ∧ y = d)) fl' f' → k101 th (zI M) (zI D) f2 fp f' (zI fl') (zI m) (zI (d + 1))) :
    wpX11_back_118 k101 k89 k80 post v 10 th (zI M) (zI D) f2 fp f (zI fl) (zI m) (zI d) 2000000000 0 := by
  obtain ⟨B, hJ, hT⟩ := h
  have hB : ∀ x y, 0 ≤ B x y ∧ B x y ≤ 2000000000 := fun x y => by have := hJ.2.2.1 x y; omega
  have hq := hp m d hg
  have hg' := hg
  unfold inG at hg'
  have na := n9_at (m := m) (d := d) hB
  have st := hJ.step (N := n9 B m d 9) (by omega) hg hq.1 na.1 na.2
  have key : ∀ (n k : Nat), n + k = 9 → wpX11_back_118 k101 k89 k80 post v (n + 1) th (zI M) (zI D) f2 fp f (zI fl) (zI m) (zI d) (zI (n9 B m d k)) (zI k) := by
    intro n
    induction n with
    | zero =>
      intro k hk9
      obtain rfl : k = 9 := by omega
      have nb := n9_bd (m := m) (d := d) hB 9
      have bm := hB m d
      unfold wpX11_back_118
      simp (disch := omega) only [zI_lit, zI_add, zI_sub, zI_mul, zI_neg, zI_le, zI_lt, zI_eq, zI_nat, zI_max, zI_min, zI_abs, forall_eq, Int.reduceNeg, Int.reduceAdd, Int.reduceMul, Int.reduceSub, Int.add_zero, Int.zero_add, Int.zero_mul, Int.toNat_zero]
      rw [hq.2, hT m d hg]
      simp (disch := omega) only [zI_lit, zI_add, zI_sub, zI_mul, zI_neg, zI_le, zI_lt, zI_eq, zI_nat, zI_max, zI_min, zI_abs, forall_eq, Int.reduceNeg, Int.reduceAdd, Int.reduceMul, Int.reduceSub, Int.add_zero, Int.zero_add, Int.zero_mul, Int.toNat_zero]
      unfold wpX11_back_218
      simp (disch := omega) only [zI_lit, zI_add, zI_sub, zI_mul, zI_neg, zI_le, zI_lt, zI_eq, zI_nat, zI_max, zI_min, zI_abs, forall_eq, Int.reduceNeg, Int.reduceAdd, Int.reduceMul, Int.reduceSub, Int.add_zero, Int.zero_add, Int.zero_mul, Int.toNat_zero]
      refine ⟨fun _ => ⟨zI_in (by omega), zI_in (by omega), fun hlt => ⟨zI_in (by omega), ?_⟩, fun hlt => ?_⟩, fun h => absurd h (by omega)⟩
      · exact hk 1 _ (Or.inr rfl) ⟨_, st.1 hlt, hT.upd hD.2 hg⟩
      · exact hk fl _ (Or.inl rfl) ⟨_, st.2 hlt, hT⟩
    | succ n ih =>
      intro k hk9
      have nb := n9_bd (m := m) (d := d) hB k
      have bn := hB (m + ((k / 3 : Nat) : Int) - 1) (d + ((k % 3 : Nat) : Int) - 1)
      unfold wpX11_back_118
      simp (disch := omega) only [zI_lit, zI_add, zI_sub, zI_mul, zI_neg, zI_le, zI_lt, zI_eq, zI_nat, zI_max, zI_min, zI_abs, forall_eq, Int.reduceNeg, Int.reduceAdd, Int.reduceMul, Int.reduceSub, Int.add_zero, Int.zero_add, Int.zero_mul, Int.toNat_zero, zI_div]
      rw [show (k : Int) - (k : Int) / 3 * 3 = ((k % 3 : Nat) : Int) by omega, show (k : Int) / 3 = ((k / 3 : Nat) : Int) by omega]
      refine ⟨fun h => absurd h (by omega), fun _ => ?_⟩
      refine sr_backLead hM hD (by omega) (by omega) hT hJ.2.2.2.1 ?_
      simp (disch := omega) only [zI_lit, zI_add, zI_sub, zI_mul, zI_neg, zI_le, zI_lt, zI_eq, zI_nat, zI_max, zI_min, zI_abs, forall_eq, Int.reduceNeg, Int.reduceAdd, Int.reduceMul, Int.reduceSub, Int.add_zero, Int.zero_add, Int.zero_mul, Int.toNat_zero]
      exact ih (k + 1) (by omega)
  exact key 9 0 (by omega)
theorem sr_back101 {k89 : Int32 → Int32 → Int32 → (Nat → Int32) → (Nat → Int32) → (Nat → Int32) → Int32 → Int32 → Prop} {k80 : Int32 → Int32 → Int32 → (Nat → Int32) → (Nat → Int32) → (Nat → Int32) → Int32 → Prop} {post : Int32 → (Int32 × Int32 × Int32 × (Nat → Int32) × (Nat → Int32) × (Nat → Int32)) → Prop} {fp : Nat → Int32} {m : Int} (hM : 1 ≤ M ∧ M ≤ 30) (hD : 1 ≤ D ∧ D ≤ 30) (hm : 0 ≤ m ∧ m < M) (hp : Pr2 q M D fp)
    (hk : ∀ fl f, (fl = 0 ∨ fl = 1) → Jt q M D B0 (fun x _ => x ≤ m) fl f → k89 th (zI M) (zI D) f2 fp f (zI fl) (zI (m + 1))) :
    ∀ (n : Nat) (d fl : Int) (f : Nat → Int32), d + n = D → 0 ≤ d → (fl = 0 ∨ fl = 1) → Jt q M D B0 (fun x y => x < m ∨ x = m ∧ y < d) fl f → wpX11_back_101 k89 k80 post v (n + 1) th (zI M) (zI D) f2 fp f (zI fl) (zI m) (zI d) := by
  intro n
  induction n with
  | zero =>
    intro d fl f h0 h1 hfl hJ
    obtain ⟨B, hJ, hT⟩ := hJ
    unfold wpX11_back_101
    simp (disch := omega) only [zI_lit, zI_add, zI_sub, zI_mul, zI_neg, zI_le, zI_lt, zI_eq, zI_nat, zI_max, zI_min, zI_abs, forall_eq, Int.reduceNeg, Int.reduceAdd, Int.reduceMul, Int.reduceSub, Int.add_zero, Int.zero_add, Int.zero_mul, Int.toNat_zero]
    exact ⟨fun _ => hk fl f hfl ⟨B, hJ.weak (fun x y g p => by unfold inG at g; omega), hT⟩, fun h => absurd h (by omega)⟩
  | succ n ih =>
    intro d fl f h0 h1 hfl hJ
    unfold wpX11_back_101
    rw [zI_le (by omega)]
    refine ⟨fun h => absurd h (by omega), fun _ => ⟨10, ?_⟩⟩
    refine sr_back118 hM hD ⟨hm, h1, by omega⟩ hp hJ (fun fl' f' hfl' hJ' => ?_)
    obtain ⟨B, hJ', hT⟩ := hJ'
    exact ih (d + 1) fl' f' (by omega) (by omega) (by omega) ⟨B, hJ'.weak (fun x y _ p => by omega), hT⟩
theorem sr_back89 {k80 : Int32 → Int32 → Int32 → (Nat → Int32) → (Nat → Int32) → (Nat → Int32) → Int32 → Prop} {post : Int32 → (Int32 × Int32 × Int32 × (Nat → Int32) × (Nat → Int32) × (Nat → Int32)) → Prop} {fp : Nat → Int32} (hM : 1 ≤ M ∧ M ≤ 30) (hD : 1 ≤ D ∧ D ≤ 30) (hp : Pr2 q M D fp)
    (hk : ∀ fl f, (fl = 0 ∨ fl = 1) → Jt q M D B0 (fun x _ => x < M) fl f → k80 th (zI M) (zI D) f2 fp f (zI fl)) :
    ∀ (n : Nat) (m fl : Int) (f : Nat → Int32), m + n = M → 0 ≤ m → (fl = 0 ∨ fl = 1) → Jt q M D B0 (fun x _ => x < m) fl f → wpX11_back_89 k80 post v (n + 1) th (zI M) (zI D) f2 fp f (zI fl) (zI m) := by
  intro n
  induction n with
  | zero =>
    intro m fl f h0 h1 hfl hJ
    obtain rfl : m = M := by omega
    unfold wpX11_back_89
    simp (disch := omega) only [zI_lit, zI_add, zI_sub, zI_mul, zI_neg, zI_le, zI_lt, zI_eq, zI_nat, zI_max, zI_min, zI_abs, forall_eq, Int.reduceNeg, Int.reduceAdd, Int.reduceMul, Int.reduceSub, Int.add_zero, Int.zero_add, Int.zero_mul, Int.toNat_zero]
    exact ⟨fun _ => hk fl f hfl hJ, fun h => absurd (Int.le_refl _) h⟩
  | succ n ih =>
    intro m fl f h0 h1 hfl hJ
    unfold wpX11_back_89
    simp (disch := omega) only [zI_lit, zI_add, zI_sub, zI_mul, zI_neg, zI_le, zI_lt, zI_eq, zI_nat, zI_max, zI_min, zI_abs, forall_eq, Int.reduceNeg, Int.reduceAdd, Int.reduceMul, Int.reduceSub, Int.add_zero, Int.zero_add, Int.zero_mul, Int.toNat_zero]
    refine ⟨fun h => absurd h (by omega), fun _ => ⟨D.toNat + 1, ?_⟩⟩
    obtain ⟨B, hJ, hT⟩ := hJ
    refine sr_back101 (B0 := B0) hM hD ⟨h1, by omega⟩ hp (fun fl f hfl hJ => ?_) _ 0 fl f (by omega) (by omega) hfl ⟨B, hJ.weak (fun x y g p => by unfold inG at g; omega), hT⟩
    obtain ⟨B, hJ, hT⟩ := hJ
    exact ih (m + 1) fl f (by omega) (by omega) hfl ⟨B, hJ.weak (fun x y _ p => by omega), hT⟩
theorem sr_back80 {post : Int32 → (Int32 × Int32 × Int32 × (Nat → Int32) × (Nat → Int32) × (Nat → Int32)) → Prop} {fp : Nat → Int32} {A : Int} (hM : 1 ≤ M ∧ M ≤ 30) (hD : 1 ≤ D ∧ D ≤ 30) (hp : Pr2 q M D fp)
    (hA : ∀ B, Snd q 2000000000 M D 0 0 B → (∀ t, t < 2000000000 → Cmp q M D 0 0 t B) → (∀ x y, 0 ≤ B x y ∧ (B x y = 2000000000 ∨ B x y ≤ 1996002)) → (if B (M - 1) (D - 1) = 2000000000 then -1 else B (M - 1) (D - 1)) = A)
    (hpost : ∀ z, z.1 = th → post (zI A) z) :
    ∀ (n k : Nat) (B : Int → Int → Int) (fl : Int) (f : Nat → Int32), k + n = 901 → (fl = 0 ∨ fl = 1) → Kr q 2000000000 M D 0 0 B k → (k = 901 → fl = 0) → (fl = 0 → ∀ t, t < 2000000000 → Cmp q M D 0 0 t B) → TbR B M D f → wpX11_back_80 post v (n + 1) th (zI M) (zI D) f2 fp f (zI fl) := by
  have fin : ∀ (B : Int → Int → Int) (f : Nat → Int32), (∃ k, Kr q 2000000000 M D 0 0 B k) → (∀ t, t < 2000000000 → Cmp q M D 0 0 t B) → TbR B M D f → wpX11_orNone (fun (r2 : Int32) (_ : Unit) => post r2 (th, zI M, zI D, f2, fp, f)) (f (30 * (M - 1) + D - 1).toNat) := by
    intro B f hK hc hT
    obtain ⟨k, hK⟩ := hK
    have e := hT (M - 1) (D - 1) (by unfold inG; omega)
    rw [show (30 * (M - 1) + (D - 1)).toNat = (30 * (M - 1) + D - 1).toNat by omega] at e
    have bd := hK.2.1 (M - 1) (D - 1)
    rw [e]
    refine sr_orNone (by omega) ?_
    rw [hA B hK.1 hc hK.2.1]
    exact hpost _ rfl
  intro n
  induction n with
  | zero =>
    intro k B fl f h0 hfl hK h901 hc hT
    have e0 := h901 (by omega)
    unfold wpX11_back_80
    simp (disch := omega) only [zI_lit, zI_add, zI_sub, zI_mul, zI_neg, zI_le, zI_lt, zI_eq, zI_nat, zI_max, zI_min, zI_abs, forall_eq, Int.reduceNeg, Int.reduceAdd, Int.reduceMul, Int.reduceSub, Int.add_zero, Int.zero_add, Int.zero_mul, Int.toNat_zero]
    exact ⟨fun _ => ⟨zI_in (by omega), fin B f ⟨k, hK⟩ (hc e0) hT⟩, fun h => absurd e0 h⟩
  | succ n ih =>
    intro k B fl f h0 hfl hK h901 hc hT
    unfold wpX11_back_80
    simp (disch := omega) only [zI_lit, zI_add, zI_sub, zI_mul, zI_neg, zI_le, zI_lt, zI_eq, zI_nat, zI_max, zI_min, zI_abs, forall_eq, Int.reduceNeg, Int.reduceAdd, Int.reduceMul, Int.reduceSub, Int.add_zero, Int.zero_add, Int.zero_mul, Int.toNat_zero]
    refine ⟨fun e0 => ⟨zI_in (by omega), fin B f ⟨k, hK⟩ (hc e0) hT⟩, fun h => ⟨M.toNat + 1, ?_⟩⟩
    refine sr_back89 (B0 := B) hM hD hp (fun fl f hfl hJ => ?_) _ 0 0 f (by omega) (by omega) (Or.inl rfl) ⟨B, (hK.start (P := fun _ _ => False) (fun _ _ h => h)).weak (fun x y g p => by unfold inG at g; omega), hT⟩
    obtain ⟨B', hJ, hT'⟩ := hJ
    exact ih (k + 1) B' fl f (by omega) hfl (hK.next hM.2 hD.2 (fun x y g => g.1.2) hJ) (fun h => hK.stops (by omega) (by omega) hJ) (fun h => hK.done (fun x y g => g.1.2) (by rw [h] at hJ; exact hJ)) hT'
theorem sr_back44 {post : Int32 → (Int32 × Int32 × Int32 × (Nat → Int32) × (Nat → Int32) × (Nat → Int32)) → Prop} {fp : Nat → Int32} {A : Int} (hM : 1 ≤ M ∧ M ≤ 30) (hD : 1 ≤ D ∧ D ≤ 30) (hp : Pr2 q M D fp)
    (hA : ∀ B, Snd q 2000000000 M D 0 0 B → (∀ t, t < 2000000000 → Cmp q M D 0 0 t B) → (∀ x y, 0 ≤ B x y ∧ (B x y = 2000000000 ∨ B x y ≤ 1996002)) → (if B (M - 1) (D - 1) = 2000000000 then -1 else B (M - 1) (D - 1)) = A)
    (hpost : ∀ z, z.1 = th → post (zI A) z) :
    ∀ (n k : Nat) (f : Nat → Int32), k + n = 900 → (∀ i : Nat, i < k → f i = zI 2000000000) → wpX11_back_44 post v (n + 1) th (zI M) (zI D) f2 fp f (zI k) := by
  have hg : inG M D 0 0 := by unfold inG; omega
  have hq := hp _ _ hg
  intro n
  induction n with
  | zero =>
    intro k f h0 a
    unfold wpX11_back_44
    simp (disch := omega) only [zI_lit, zI_add, zI_sub, zI_mul, zI_neg, zI_le, zI_lt, zI_eq, zI_nat, zI_max, zI_min, zI_abs, forall_eq, Int.reduceNeg, Int.reduceAdd, Int.reduceMul, Int.reduceSub, Int.add_zero, Int.zero_add, Int.zero_mul, Int.toNat_zero]
    have e : fp 0 = zI (q 0 0) := hq.2
    rw [e]
    refine ⟨fun _ => ⟨zI_in (by omega), zI_in (by omega), 902, ?_⟩, fun h => absurd h (by omega)⟩
    refine sr_back80 hM hD hp hA hpost 901 0 _ 1 _ (by omega) (Or.inr rfl) (Kr.first hM hD (by omega) hg hq.1) (fun h => absurd h (by decide)) (fun h => absurd h (by decide)) ?_
    exact TbR.upd (B := fun _ _ => 2000000000) (fun x y g => a _ (by unfold inG at g; omega)) hD.2 hg
  | succ n ih =>
    intro k f h0 a
    unfold wpX11_back_44
    simp (disch := omega) only [zI_lit, zI_add, zI_sub, zI_mul, zI_neg, zI_le, zI_lt, zI_eq, zI_nat, zI_max, zI_min, zI_abs, forall_eq, Int.reduceNeg, Int.reduceAdd, Int.reduceMul, Int.reduceSub, Int.add_zero, Int.zero_add, Int.zero_mul, Int.toNat_zero]
    refine ⟨fun h => absurd h (by omega), fun _ => ⟨zI_in (by omega), ih (k + 1) _ (by omega) (fun i hi => ?_)⟩⟩
    rw [upd_eq]
    split
    · rfl
    · exact a i (by omega)
end
section
variable {g : Gd} {S : Int → Int → Int → Int → Bool} {xs ys cs ws os v : Nat → Int32} {nw nl sz : Int32} {w o : Int}
def BkTab (g : Gd) (S : Int → Int → Int → Int → Bool) (w o : Int) (B : Int → Int → Int) : Prop := Snd (g.pr S 2147483647 w o) 2147483647 (g.cn w) (g.cn o) (g.cn w - 1) (g.cn o - 1) B ∧ (∀ t, t < 2147483647 → Cmp (g.pr S 2147483647 w o) (g.cn w) (g.cn o) (g.cn w - 1) (g.cn o - 1) t B) ∧ (∀ x y, 0 ≤ B x y ∧ (B x y = 2147483647 ∨ B x y ≤ 1996002))
noncomputable def Gd.back (g : Gd) (S : Int → Int → Int → Int → Bool) (w o : Int) : Int := if Classical.epsilon (BkTab g S w o) 0 0 = 2147483647 then -1 else Classical.epsilon (BkTab g S w o) 0 0
theorem bk_same {B B' : Int → Int → Int} (h : BkTab g S w o B) (h' : BkTab g S w o B') : B 0 0 = B' 0 0 := by
  have a := h.2.2 0 0
  have b := h'.2.2 0 0
  have key : ∀ t, t < 2147483647 → (B 0 0 ≤ t ↔ B' 0 0 ≤ t) := fun t ht => ⟨fun k => h'.2.1 t ht 0 0 (h.1 0 0 t ht k), fun k => h.2.1 t ht 0 0 (h'.1 0 0 t ht k)⟩
  by_cases e : B 0 0 < 2147483647
  · have k1 := key (B 0 0) e
    by_cases e' : B' 0 0 < 2147483647
    · have k2 := key (B' 0 0) e'; omega
    · omega
  · by_cases e' : B' 0 0 < 2147483647
    · have k2 := key (B' 0 0) e'; omega
    · omega
theorem back_is {B : Int → Int → Int} (h : BkTab g S w o B) : g.back S w o = if B 0 0 = 2147483647 then -1 else B 0 0 := by
  unfold Gd.back
  rw [bk_same (Classical.epsilon_spec ⟨B, h⟩) h]
theorem prc_bd (hg : g.Ok) {F m d : Int} (h1 : g.hc w m) (h2 : g.hc o d) : (0 ≤ g.pr S F w o m d ∨ g.pr S F w o m d = F) ∧ (g.pr S F w o m d = F ∨ g.pr S F w o m d ≤ 1996002) := by
  have := Gd.far_le hg h1 h2
  unfold Gd.pr
  split <;> omega
theorem sp_back {post : Int32 → ((Nat → Int32) × Int32 × Int32 × (Nat → Int32) × (Nat → Int32)) → Prop} {postX : String → ((Nat → Int32) × Int32 × Int32 × (Nat → Int32) × (Nat → Int32)) → Prop} {f8 f11 f12 : Nat → Int32} {r0 c0 : Int32}
    (hg : g.Ok) (hc : CG g xs ys cs ws nw nl) (hS : SH1 g S nl xs ys ws sz os) (hw : -2147483648 ≤ w ∧ w < 2147483648) (ho : -2147483648 ≤ o ∧ o < 2147483648)
    (hx : ¬ (g.hw w ∧ g.hw o) → postX "java/lang/IndexOutOfBoundsException" (f8, r0, c0, f11, f12))
    (hp : g.hw w → g.hw o → (∃ B, BkTab g S w o B) → ∀ z, post (zI (g.back S w o)) z) : wpX10_back post postX nw nl cs xs ys ws sz os f8 r0 c0 f11 f12 (zI w) (zI o) := by
  unfold wpX10_back
  refine sp_needWay hg hc hw (fun h1 => ?_) (fun h => hx (fun h' => h h'.1))
  refine sp_needWay hg hc ho (fun h2 => ?_) (fun h => hx (fun h' => h h'.2))
  have e1 := hg.cn w h1.1 h1.2
  have e2 := hg.cn o h2.1 h2.2
  refine sp_lay hg hc hS h1 h2 (fun fp sn hL => ?_)
  refine sp_goingBack (q := g.pr S 2147483647 w o) e1 e2 (fun m d hi => ⟨?_, ?_⟩) (fun B f k1 k2 k3 => ?_)
  · have := prc_bd (S := S) (F := 2147483647) hg ⟨h1, hi.1⟩ ⟨h2, hi.2⟩
    omega
  · exact hL m d hi.1.1 hi.2.1 hi.2.2 (Or.inl hi.1.2)
  · have bd := k3 0 0
    refine sp_orNone (by omega) ?_
    rw [← back_is (B := B) ⟨k1, k2, k3⟩]
    exact hp h1 h2 ⟨B, k1, k2, k3⟩ _
theorem sr_back {post : Int32 → (Int32 × Int32 × Int32 × (Nat → Int32) × (Nat → Int32) × (Nat → Int32)) → Prop} {th m0 d0 : Int32} {f2 f3 f4 : Nat → Int32}
    (hg : g.Ok) (hv : WG g v) (hS : SH2 g S v) (hw : -2147483648 ≤ w ∧ w < 2147483648) (ho : -2147483648 ≤ o ∧ o < 2147483648)
    (hx : ¬ (g.hw w ∧ g.hw o) → ∀ r z, z.1 = 1 → post r z) (hB : g.hw w → g.hw o → ∃ B, BkTab g S w o B)
    (hp : g.hw w → g.hw o → ∀ z, z.1 = 0 → post (zI (g.back S w o)) z) : wpX11_back post v th m0 d0 f2 f3 f4 (zI w) (zI o) := by
  have c22 : ¬ (g.hw w ∧ g.hw o) → wpX11_back_22 post v 0 m0 d0 f2 f3 f4 (zI w) (zI o) := by
    intro h
    unfold wpX11_back_22 wpX11_back_27
    refine sr_throwsIf (fun h => absurd h (by decide)) (fun _ => ?_) (Or.inr rfl)
    exact ⟨fun h => absurd h (by decide), fun _ => hx h _ _ rfl⟩
  unfold wpX11_back
  refine sr_noWay hg hv hw (fun h1 => ⟨fun h => absurd rfl h, fun _ => ?_⟩) (fun h1 => ⟨fun _ => c22 (fun h => h1 h.1), fun h => absurd h (by decide)⟩)
  refine sr_noWay hg hv ho (fun h2 => ⟨fun _ => ?_, fun h => absurd rfl h⟩) (fun h2 => ⟨fun h => absurd h (by decide), fun _ => c22 (fun h => h2 h.2)⟩)
  have e1 := hg.cn w h1.1 h1.2
  have e2 := hg.cn o h2.1 h2.2
  obtain ⟨B1, hB1⟩ := hB h1 h2
  unfold wpX11_back_27
  refine sr_throwsIf (fun _ => ⟨fun _ => ?_, fun h => absurd rfl h⟩) (fun h => absurd h (by decide)) (Or.inl rfl)
  refine sr_lays hg hv hS h1 h2 (fun ff sn hL => ?_)
  refine ⟨901, sr_back44 (q := g.pr S 2000000000 w o) e1 e2 (fun m d hi => ⟨?_, ?_⟩) (fun B k1 k2 k3 => ?_) (fun z hz => hp h1 h2 z hz) 900 0 f4 (by omega) (fun i hi => by omega)⟩
  · have := prc_bd (S := S) (F := 2000000000) hg ⟨h1, hi.1⟩ ⟨h2, hi.2⟩
    omega
  · exact hL m d hi.1.1 hi.2.1 hi.2.2 (Or.inl hi.1.2)
  · rw [back_is hB1]
    exact (back_agr (fun x y hi => pr_agr hg ⟨h1, hi.1⟩ ⟨h2, hi.2⟩) hB1.1 hB1.2.1 hB1.2.2 k1 k2 k3).none.symm
end
