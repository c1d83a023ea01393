def TbB (B : Int → Int → Int) (M D m d : Int) (f : Nat → Int32) : Prop := ∀ m' d', 0 ≤ m' → m' ≤ M → 0 ≤ d' → d' ≤ D → (m' = M ∨ d' = D ∨ m < m' ∨ m' = m ∧ d < d') → f ((m' + 1) * 33 + d' + 1).toNat = zI (B m' d')
theorem TbB.next {B : Int → Int → Int} {M D m d : Int} {f : Nat → Int32} (h : TbB B M D m d f) (hm : 0 ≤ m) (hd : 0 ≤ d ∧ d < D) (hD : D ≤ 31) : TbB B M D m (d - 1) (upd f ((m + 1) * 33 + d + 1).toNat (zI (B m d))) := by
  intro m' d' c1 c2 c3 c4 c5
  rw [upd_eq]
  split
  · rw [show m' = m by omega, show d' = d by omega]
  · exact h m' d' c1 c2 c3 c4 (by by_cases e : m' = m <;> by_cases e' : d' = d <;> first | (subst e; subst e'; exact absurd rfl ‹_›) | omega)
theorem TbB.line {B : Int → Int → Int} {M D m : Int} {f : Nat → Int32} (h : TbB B M D m (-1) f) : TbB B M D (m - 1) (D - 1) f := fun m' d' c1 c2 c3 c4 c5 => h m' d' c1 c2 c3 c4 (by omega)
theorem sp_aheadB {B : Int → Int → Int} {M D m d : Int} {post : Int32 → Unit → Prop} {f : Nat → Int32} (hM : M ≤ 31) (hD : D ≤ 31) (hB : ∀ m d, 0 ≤ m → m ≤ M → 0 ≤ d → d ≤ D → 0 ≤ B m d ∧ B m d ≤ 2147483647) (hm : 0 ≤ m ∧ m < M) (hd : 0 ≤ d ∧ d < D) (h : TbB B M D m d f)
    (hp : post (zI (min (B (m + 1) (d + 1)) (min (B (m + 1) d) (B m (d + 1))))) ()) : wpX0_bestAhead post f (zI m) (zI d) := by
  have b1 := hB (m + 1) (d + 1) (by omega) (by omega) (by omega) (by omega)
  have b2 := hB (m + 1) d (by omega) (by omega) (by omega) (by omega)
  have b3 := hB m (d + 1) (by omega) (by omega) (by omega) (by omega)
  unfold wpX0_bestAhead
  simp (disch := omega) only [zI_lit, zI_add, zI_sub, zI_mul, zI_neg, zI_le, zI_lt, zI_eq, zI_nat, zI_max, zI_min, zI_abs, forall_eq, Int.reduceNeg, Int.reduceAdd, Int.reduceMul, Int.reduceSub, Int.add_zero, Int.zero_add, Int.zero_mul, Int.toNat_zero, wpX0_cell]
  rw [h (m + 1) (d + 1) (by omega) (by omega) (by omega) (by omega) (by omega), h (m + 1) d (by omega) (by omega) (by omega) (by omega) (by omega), h m (d + 1) (by omega) (by omega) (by omega) (by omega) (by omega)]
  simp (disch := omega) only [zI_lit, zI_add, zI_sub, zI_mul, zI_neg, zI_le, zI_lt, zI_eq, zI_nat, zI_max, zI_min, zI_abs, forall_eq, Int.reduceNeg, Int.reduceAdd, Int.reduceMul, Int.reduceSub, Int.add_zero, Int.zero_add, Int.zero_mul, Int.toNat_zero]
  exact ⟨zI_in (by omega), zI_in (by omega), zI_in (by omega), hp⟩
section
variable {ok : Int → Int → Bool} {q : Int → Int → Int} {M D : Int}
theorem Bs_bd (hM : M ≤ 30) (hD : D ≤ 30) (hq : ∀ m d, 0 ≤ m → m < M → 0 ≤ d → d < D → 0 ≤ q m d ∧ q m d ≤ 1996002) : ∀ m d, 0 ≤ m → m ≤ M → 0 ≤ d → d ≤ D → 0 ≤ Bs ok q 2147483647 M D m d ∧ Bs ok q 2147483647 M D m d ≤ 2147483647 := by
  intro m d a b c e
  by_cases h : m < M ∧ d < D
  · rcases Bs_is (ok := ok) hM hD hq _ m d rfl a h.1 c h.2 with h1 | h1
    · omega
    · have := h1.1; omega
  · rw [Bs]
    split
    · omega
    · rw [if_pos (by omega)]; omega
theorem Bs_edge (m d : Int) (h : M ≤ m ∨ D ≤ d) : Bk (fun _ _ => 0) 2147483647 M D m d = Bs ok q 2147483647 M D m d := by
  rw [Bs, Bk]
  by_cases e : m = M ∧ d = D
  · rw [if_pos e, if_pos e]
  · rw [if_neg e, if_neg e, if_pos h, if_pos h]
theorem sp_sum30 {k19 : (Nat → Int32) → Int32 → Prop} {post : Int32 → ((Nat → Int32)) → Prop} {m : Int} {fp : Nat → Int32} (hM : 1 ≤ M ∧ M ≤ 30) (hD : 1 ≤ D ∧ D ≤ 30) (hm : 0 ≤ m ∧ m < M)
    (hq : ∀ m d, 0 ≤ m → m < M → 0 ≤ d → d < D → 0 ≤ q m d ∧ q m d ≤ 1996002)
    (hf : ∀ m d, 0 ≤ m → m < M → 0 ≤ d → d < D → fp ((m + 1) * 33 + d + 1).toNat = zI (if ok m d = false then 2147483647 else q m d))
    (hk : ∀ f, TbB (Bs ok q 2147483647 M D) M D (m - 1) (D - 1) f → k19 f (zI (m - 1))) :
    ∀ (j : Nat) (d : Int) (f : Nat → Int32), d + 1 = j → d < D → TbB (Bs ok q 2147483647 M D) M D m d f → wpX0_leastSum_30 k19 post (zI M) (zI D) fp (j + 1) f (zI m) (zI d) := by
  intro j
  induction j with
  | zero =>
    intro d f h0 h1 a
    unfold wpX0_leastSum_30
    simp (disch := omega) only [zI_lit, zI_add, zI_sub, zI_mul, zI_neg, zI_le, zI_lt, zI_eq, zI_nat, zI_max, zI_min, zI_abs, forall_eq, Int.reduceNeg, Int.reduceAdd, Int.reduceMul, Int.reduceSub, Int.add_zero, Int.zero_add, Int.zero_mul, Int.toNat_zero]
    refine ⟨fun _ => ?_, fun h => absurd h (by omega)⟩
    rw [show d = -1 by omega] at a
    exact hk f a.line
  | succ j ih =>
    intro d f h0 h1 a
    have hB := Bs_bd (ok := ok) hM.2 hD.2 hq
    have b0 := hB m d (by omega) (by omega) (by omega) (by omega)
    have b1 := hB (m + 1) (d + 1) (by omega) (by omega) (by omega) (by omega)
    have b2 := hB (m + 1) d (by omega) (by omega) (by omega) (by omega)
    have b3 := hB m (d + 1) (by omega) (by omega) (by omega) (by omega)
    have hqd := hq m d hm.1 hm.2 (by omega) h1
    have hfd := hf m d hm.1 hm.2 (by omega) h1
    have eb : Bs ok q 2147483647 M D m d = if min (Bs ok q 2147483647 M D (m + 1) (d + 1)) (min (Bs ok q 2147483647 M D (m + 1) d) (Bs ok q 2147483647 M D m (d + 1))) = 2147483647 ∨ ok m d = false then 2147483647 else min (Bs ok q 2147483647 M D (m + 1) (d + 1)) (min (Bs ok q 2147483647 M D (m + 1) d) (Bs ok q 2147483647 M D m (d + 1))) + q m d := by
      rw [Bs, if_neg (by omega), if_neg (by omega)]
    have go : ∀ s : Int, s = Bs ok q 2147483647 M D m d → wpX0_leastSum_84 (fun y0 y1 y2 => wpX0_leastSum_30 k19 post (zI M) (zI D) fp (j + 1) y0 y1 y2) k19 post (zI M) (zI D) fp f (zI m) (zI d) (zI ((m + 1) * 33 + d + 1)) (zI s) := by
      intro s hs
      subst hs
      unfold wpX0_leastSum_84
      simp (disch := omega) only [zI_lit, zI_add, zI_sub, zI_mul, zI_neg, zI_le, zI_lt, zI_eq, zI_nat, zI_max, zI_min, zI_abs, forall_eq, Int.reduceNeg, Int.reduceAdd, Int.reduceMul, Int.reduceSub, Int.add_zero, Int.zero_add, Int.zero_mul, Int.toNat_zero]
      exact ⟨zI_in (by omega), ih (d - 1) _ (by omega) (by omega) (a.next hm.1 ⟨by omega, h1⟩ (by omega))⟩
    unfold wpX0_leastSum_30
    simp (disch := omega) only [zI_lit, zI_add, zI_sub, zI_mul, zI_neg, zI_le, zI_lt, zI_eq, zI_nat, zI_max, zI_min, zI_abs, forall_eq, Int.reduceNeg, Int.reduceAdd, Int.reduceMul, Int.reduceSub, Int.add_zero, Int.zero_add, Int.zero_mul, Int.toNat_zero]
    refine ⟨fun h => absurd h (by omega), fun _ => ?_⟩
    refine sp_aheadB (by omega) (by omega) hB hm ⟨by omega, h1⟩ a ?_
    simp (disch := omega) only [zI_lit, zI_add, zI_sub, zI_mul, zI_neg, zI_le, zI_lt, zI_eq, zI_nat, zI_max, zI_min, zI_abs, forall_eq, Int.reduceNeg, Int.reduceAdd, Int.reduceMul, Int.reduceSub, Int.add_zero, Int.zero_add, Int.zero_mul, Int.toNat_zero, wpX0_cell]
    rw [hfd]
    refine ⟨zI_in (by omega), fun h => ?_, fun h => ?_⟩
    · unfold wpX0_leastSum_75
      rw [show (2147483647 : Int32) = zI 2147483647 from rfl]
      exact go _ (by rw [eb, if_pos (Or.inl h)])
    · by_cases hk : ok m d = false
      · rw [if_pos hk]
        refine ⟨fun h => absurd rfl h, fun _ => ?_⟩
        unfold wpX0_leastSum_75
        rw [show (2147483647 : Int32) = zI 2147483647 from rfl]
        exact go _ (by rw [eb, if_pos (Or.inr hk)])
      · rw [if_neg hk]
        simp (disch := omega) only [zI_lit, zI_add, zI_sub, zI_mul, zI_neg, zI_le, zI_lt, zI_eq, zI_nat, zI_max, zI_min, zI_abs, forall_eq, Int.reduceNeg, Int.reduceAdd, Int.reduceMul, Int.reduceSub, Int.add_zero, Int.zero_add, Int.zero_mul, Int.toNat_zero]
        refine ⟨fun _ => go _ (by rw [eb, if_neg (by rintro (h' | h') <;> first | exact h h' | exact hk h')]), fun h => by omega⟩
theorem sp_sum19 {post : Int32 → ((Nat → Int32)) → Prop} {fp : Nat → Int32} (hM : 1 ≤ M ∧ M ≤ 30) (hD : 1 ≤ D ∧ D ≤ 30)
    (hq : ∀ m d, 0 ≤ m → m < M → 0 ≤ d → d < D → 0 ≤ q m d ∧ q m d ≤ 1996002)
    (hf : ∀ m d, 0 ≤ m → m < M → 0 ≤ d → d < D → fp ((m + 1) * 33 + d + 1).toNat = zI (if ok m d = false then 2147483647 else q m d))
    (hp : ∀ f, post (zI (Bs ok q 2147483647 M D 0 0)) f) :
    ∀ (j : Nat) (m : Int) (f : Nat → Int32), m + 1 = j → m < M → TbB (Bs ok q 2147483647 M D) M D m (D - 1) f → wpX0_leastSum_19 post (zI M) (zI D) fp (j + 1) f (zI m) := by
  intro j
  induction j with
  | zero =>
    intro m f h0 h1 a
    rw [show m = -1 by omega] at a ⊢
    unfold wpX0_leastSum_19
    simp (disch := omega) only [zI_lit, zI_add, zI_sub, zI_mul, zI_neg, zI_le, zI_lt, zI_eq, zI_nat, zI_max, zI_min, zI_abs, forall_eq, Int.reduceNeg, Int.reduceAdd, Int.reduceMul, Int.reduceSub, Int.add_zero, Int.zero_add, Int.zero_mul, Int.toNat_zero, wpX0_cell]
    have := a 0 0 (by omega) (by omega) (by omega) (by omega) (by omega)
    refine ⟨fun _ => ⟨zI_in (by omega), ?_⟩, fun h => absurd h (by omega)⟩
    have e := hp f
    rw [← this] at e
    exact e
  | succ j ih =>
    intro m f h0 h1 a
    unfold wpX0_leastSum_19
    simp (disch := omega) only [zI_lit, zI_add, zI_sub, zI_mul, zI_neg, zI_le, zI_lt, zI_eq, zI_nat, zI_max, zI_min, zI_abs, forall_eq, Int.reduceNeg, Int.reduceAdd, Int.reduceMul, Int.reduceSub, Int.add_zero, Int.zero_add, Int.zero_mul, Int.toNat_zero]
    refine ⟨fun h => absurd h (by omega), fun _ => ⟨D.toNat + 1, ?_⟩⟩
    exact sp_sum30 hM hD ⟨by omega, h1⟩ hq hf (fun f' a' => ih (m - 1) f' (by omega) (by omega) a') D.toNat (D - 1) f (by omega) (by omega) a
theorem sp_leastSum {post : Int32 → ((Nat → Int32)) → Prop} {fp : Nat → Int32} (f : Nat → Int32) (hM : 1 ≤ M ∧ M ≤ 30) (hD : 1 ≤ D ∧ D ≤ 30)
    (hq : ∀ m d, 0 ≤ m → m < M → 0 ≤ d → d < D → 0 ≤ q m d ∧ q m d ≤ 1996002)
    (hf : ∀ m d, 0 ≤ m → m < M → 0 ≤ d → d < D → fp ((m + 1) * 33 + d + 1).toNat = zI (if ok m d = false then 2147483647 else q m d))
    (hp : ∀ f, post (zI (Bs ok q 2147483647 M D 0 0)) f) : wpX0_leastSum post (zI M) (zI D) fp f := by
  unfold wpX0_leastSum
  refine sp_fence (q := fun _ _ => 0) f (by omega) (by omega) (fun f' a => ?_)
  simp (disch := omega) only [zI_lit, zI_add, zI_sub, zI_mul, zI_neg, zI_le, zI_lt, zI_eq, zI_nat, zI_max, zI_min, zI_abs, forall_eq, Int.reduceNeg, Int.reduceAdd, Int.reduceMul, Int.reduceSub, Int.add_zero, Int.zero_add, Int.zero_mul, Int.toNat_zero]
  refine ⟨M.toNat + 1, sp_sum19 hM hD hq hf hp M.toNat (M - 1) f' (by omega) (by omega) (fun m' d' c1 c2 c3 c4 c5 => ?_)⟩
  rw [a m' d' c1 c2 c3 c4 (by omega), Bs_edge m' d' (by omega)]
def LaidL (p : Int → Int → Int) (C m d : Int) (f : Nat → Int64) : Prop := ∀ m' d', 0 ≤ m' → 0 ≤ d' → d' < C → (m' < m ∨ m' = m ∧ d' < d) → f (30 * m' + d').toNat = zL (p m' d')
theorem LaidL.next {p : Int → Int → Int} {C m d : Int} {f : Nat → Int64} (h : LaidL p C m d f) (h0 : 0 ≤ m) (h1 : 0 ≤ d) (hd : d < C) (hC : C ≤ 30) : LaidL p C m (d + 1) (vp_updL f (30 * m + d).toNat (zL (p m d))) := by
  intro m' d' a b c e
  rw [updL_eq]
  split
  · have : m' = m ∧ d' = d := by omega
    rw [this.1, this.2]
  · exact h m' d' a b c (by by_cases m' = m <;> by_cases d' = d <;> first | (subst_vars; exact absurd rfl ‹_›) | omega)
theorem LaidL.line {p : Int → Int → Int} {C m : Int} {f : Nat → Int64} (h : LaidL p C m C f) : LaidL p C (m + 1) 0 f := fun m' d' a b c e => h m' d' a b c (by omega)
theorem sr_dragAt {post : Int64 → Unit → Prop} {m d a b : Int} {f : Nat → Int64} (hM : M ≤ 30) (hD : D ≤ 30) (h : LaidL (Fs ok q 1000000000000000) D m d f) (ha : -1 ≤ a ∧ a < M) (hb : -1 ≤ b ∧ b < D) (hl : 0 ≤ a → 0 ≤ b → a < m ∨ a = m ∧ b < d) (hp : post (zL (Fs ok q 1000000000000000 a b)) ()) : wpX11_dragAt post f (zI a) (zI b) := by
  have e : a < 0 ∨ b < 0 → Fs ok q 1000000000000000 a b = 1000000000000000 := fun h => by rw [Fs, if_pos h]
  unfold wpX11_dragAt
  simp (disch := omega) only [zI_lit, zI_add, zI_sub, zI_mul, zI_neg, zI_le, zI_lt, zI_eq, zI_nat, zI_max, zI_min, zI_abs, forall_eq, Int.reduceNeg, Int.reduceAdd, Int.reduceMul, Int.reduceSub, Int.add_zero, Int.zero_add, Int.zero_mul, Int.toNat_zero]
  refine ⟨fun h1 => ?_, fun h1 => ⟨fun h2 => ⟨zI_in (by omega), ?_⟩, fun h2 => ?_⟩⟩
  · rwa [e (by omega)] at hp
  · rwa [h a b (by omega) h2 (by omega) (hl (by omega) h2)]
  · rwa [e (by omega)] at hp
theorem sr_drag55 {k44 : Int32 → Int32 → Int32 → (Nat → Int32) → (Nat → Int32) → (Nat → Int64) → Int32 → Prop} {post : Int64 → (Int32 × Int32 × Int32 × (Nat → Int32) × (Nat → Int32) × (Nat → Int64)) → Prop} {th : Int32} {m : Int} {v f2 f3 : Nat → Int32} (hM : 1 ≤ M ∧ M ≤ 30) (hD : 1 ≤ D ∧ D ≤ 30) (hm : 0 ≤ m ∧ m < M)
    (hq : ∀ m d, 0 ≤ m → m < M → 0 ≤ d → d < D → 0 ≤ q m d ∧ q m d ≤ 1996002)
    (hf : ∀ m d, 0 ≤ m → m < M → 0 ≤ d → d < D → f3 (30 * m + d).toNat = zI (if ok m d = false then 2000000000 else q m d))
    (hk : ∀ f, LaidL (Fs ok q 1000000000000000) D (m + 1) 0 f → k44 th (zI M) (zI D) f2 f3 f (zI (m + 1))) :
    ∀ (j : Nat) (d : Int) (f : Nat → Int64), d + j = D → 0 ≤ d → LaidL (Fs ok q 1000000000000000) D m d f → wpX11_drag_55 k44 post v (j + 1) th (zI M) (zI D) f2 f3 f (zI m) (zI d) := by
  have bd : ∀ a b, a < M → b < D → -1 ≤ a → -1 ≤ b → 0 ≤ Fs ok q 1000000000000000 a b ∧ Fs ok q 1000000000000000 a b ≤ 1000000000000000 := by
    intro a b h1 h2 h3 h4
    rcases Fs_is (ok := ok) hM.2 hD.2 hq _ a b rfl h1 h2 h3 h4 with h | h
    · omega
    · have := h.1; omega
  intro j
  induction j with
  | zero =>
    intro d f h0 h1 a
    unfold wpX11_drag_55
    simp (disch := omega) only [zI_lit, zI_add, zI_sub, zI_mul, zI_neg, zI_le, zI_lt, zI_eq, zI_nat, zI_max, zI_min, zI_abs, forall_eq, Int.reduceNeg, Int.reduceAdd, Int.reduceMul, Int.reduceSub, Int.add_zero, Int.zero_add, Int.zero_mul, Int.toNat_zero]
    refine ⟨fun _ => hk f ?_, fun h => absurd h (by omega)⟩
    rw [show d = D by omega] at a
    exact a.line
  | succ j ih =>
    intro d f h0 h1 a
    have hqd := hq m d hm.1 hm.2 h1 (by omega)
    have hfd := hf m d hm.1 hm.2 h1 (by omega)
    have b1 := bd (m - 1) (d - 1) (by omega) (by omega) (by omega) (by omega)
    have b2 := bd (m - 1) d (by omega) (by omega) (by omega) (by omega)
    have b3 := bd m (d - 1) (by omega) (by omega) (by omega) (by omega)
    have go : ∀ s : Int, s = Fs ok q 1000000000000000 m d → wpX11_drag_168 (fun y0 y1 y2 y3 y4 y5 y6 y7 => wpX11_drag_55 k44 post v (j + 1) y0 y1 y2 y3 y4 y5 y6 y7) k44 post v th (zI M) (zI D) f2 f3 f (zI m) (zI d) (zI (30 * m + d)) (zL s) := by
      intro s hs
      subst hs
      unfold wpX11_drag_168
      simp (disch := omega) only [zI_lit, zI_add, zI_sub, zI_mul, zI_neg, zI_le, zI_lt, zI_eq, zI_nat, zI_max, zI_min, zI_abs, forall_eq, Int.reduceNeg, Int.reduceAdd, Int.reduceMul, Int.reduceSub, Int.add_zero, Int.zero_add, Int.zero_mul, Int.toNat_zero]
      exact ⟨zI_in (by omega), ih (d + 1) _ (by omega) (by omega) (a.next hm.1 h1 (by omega) hD.2)⟩
    have l112 : ∀ s : Int, 0 ≤ s ∧ s ≤ 1000000000000000 → (Fs ok q 1000000000000000 m d = if ok m d = false then 1000000000000000 else if 1000000000000000 ≤ s then 1000000000000000 else s + q m d) → wpX11_drag_112 (fun y0 y1 y2 y3 y4 y5 y6 y7 => wpX11_drag_55 k44 post v (j + 1) y0 y1 y2 y3 y4 y5 y6 y7) k44 post v th (zI M) (zI D) f2 f3 f (zI m) (zI d) (zL s) := by
      intro s hs he
      have g0 : (ok m d = false ∨ 1000000000000000 ≤ s) → wpX11_drag_156 (fun y0 y1 y2 y3 y4 y5 y6 y7 => wpX11_drag_55 k44 post v (j + 1) y0 y1 y2 y3 y4 y5 y6 y7) k44 post v th (zI M) (zI D) f2 f3 f (zI m) (zI d) (zI (30 * m + d)) := by
        intro h
        unfold wpX11_drag_156
        refine go 1000000000000000 ?_
        rw [he]
        by_cases h1 : ok m d = false
        · rw [if_pos h1]
        · rw [if_neg h1]
          rcases h with h | h
          · exact absurd h h1
          · rw [if_pos h]
      unfold wpX11_drag_112
      simp (disch := omega) only [zI_lit, zI_add, zI_sub, zI_mul, zI_neg, zI_le, zI_lt, zI_eq, zI_nat, zI_max, zI_min, zI_abs, forall_eq, Int.reduceNeg, Int.reduceAdd, Int.reduceMul, Int.reduceSub, Int.add_zero, Int.zero_add, Int.zero_mul, Int.toNat_zero]
      rw [hfd]
      by_cases hk : ok m d = false
      · rw [if_pos hk]
        exact ⟨zI_in (by omega), fun _ => g0 (Or.inl hk), fun h => absurd rfl h⟩
      · rw [if_neg hk]
        simp (disch := omega) only [zI_lit, zI_add, zI_sub, zI_mul, zI_neg, zI_le, zI_lt, zI_eq, zI_nat, zI_max, zI_min, zI_abs, forall_eq, Int.reduceNeg, Int.reduceAdd, Int.reduceMul, Int.reduceSub, Int.add_zero, Int.zero_add, Int.zero_mul, Int.toNat_zero, zL_lit, zL_cmp_lt, zI_long, zL_add]
        refine ⟨zI_in (by omega), fun h => by omega, fun _ => ⟨fun h => go _ ?_, fun h => g0 (Or.inr (by omega))⟩⟩
        rw [he, if_neg hk, if_neg (by omega)]
    have l77 : ¬ (m = 0 ∧ d = 0) → wpX11_drag_77 (fun y0 y1 y2 y3 y4 y5 y6 y7 => wpX11_drag_55 k44 post v (j + 1) y0 y1 y2 y3 y4 y5 y6 y7) k44 post v th (zI M) (zI D) f2 f3 f (zI m) (zI d) := by
      intro hn
      unfold wpX11_drag_77
      simp (disch := omega) only [zI_lit, zI_add, zI_sub, zI_mul, zI_neg, zI_le, zI_lt, zI_eq, zI_nat, zI_max, zI_min, zI_abs, forall_eq, Int.reduceNeg, Int.reduceAdd, Int.reduceMul, Int.reduceSub, Int.add_zero, Int.zero_add, Int.zero_mul, Int.toNat_zero]
      refine sr_dragAt hM.2 hD.2 a (by omega) (by omega) (by omega) ?_
      refine sr_dragAt hM.2 hD.2 a (by omega) (by omega) (by omega) ?_
      refine sr_dragAt hM.2 hD.2 a (by omega) (by omega) (by omega) ?_
      simp (disch := omega) only [zI_lit, zI_add, zI_sub, zI_mul, zI_neg, zI_le, zI_lt, zI_eq, zI_nat, zI_max, zI_min, zI_abs, forall_eq, Int.reduceNeg, Int.reduceAdd, Int.reduceMul, Int.reduceSub, Int.add_zero, Int.zero_add, Int.zero_mul, Int.toNat_zero, zL_min]
      refine l112 _ (by omega) ?_
      rw [Fs, if_neg (by omega), if_neg hn]
    unfold wpX11_drag_55
    simp (disch := omega) only [zI_lit, zI_add, zI_sub, zI_mul, zI_neg, zI_le, zI_lt, zI_eq, zI_nat, zI_max, zI_min, zI_abs, forall_eq, Int.reduceNeg, Int.reduceAdd, Int.reduceMul, Int.reduceSub, Int.add_zero, Int.zero_add, Int.zero_mul, Int.toNat_zero]
    refine ⟨fun h => absurd h (by omega), fun _ => ⟨fun h => l77 (fun h' => h h'.1), fun h => ⟨fun h' => l77 (fun k => h' k.2), fun h' => ?_⟩⟩⟩
    refine l112 0 (by omega) ?_
    rw [Fs, if_neg (by omega), if_pos (⟨h, h'⟩ : m = 0 ∧ d = 0)]
    split
    · rfl
    · rw [if_neg (by omega)]; omega
theorem sr_drag44 {post : Int64 → (Int32 × Int32 × Int32 × (Nat → Int32) × (Nat → Int32) × (Nat → Int64)) → Prop} {th : Int32} {v f2 f3 : Nat → Int32} (hM : 1 ≤ M ∧ M ≤ 30) (hD : 1 ≤ D ∧ D ≤ 30)
    (hq : ∀ m d, 0 ≤ m → m < M → 0 ≤ d → d < D → 0 ≤ q m d ∧ q m d ≤ 1996002)
    (hf : ∀ m d, 0 ≤ m → m < M → 0 ≤ d → d < D → f3 (30 * m + d).toNat = zI (if ok m d = false then 2000000000 else q m d))
    (hp : ∀ z, z.1 = th → post (zL (if Fs ok q 1000000000000000 (M - 1) (D - 1) < 1000000000000000 then Fs ok q 1000000000000000 (M - 1) (D - 1) else -1)) z) :
    ∀ (j : Nat) (m : Int) (f : Nat → Int64), m + j = M → 0 ≤ m → LaidL (Fs ok q 1000000000000000) D m 0 f → wpX11_drag_44 post v (j + 1) th (zI M) (zI D) f2 f3 f (zI m) := by
  intro j
  induction j with
  | zero =>
    intro m f h0 h1 a
    obtain rfl : m = M := by omega
    have bd : 0 ≤ Fs ok q 1000000000000000 (m - 1) (D - 1) ∧ Fs ok q 1000000000000000 (m - 1) (D - 1) ≤ 1000000000000000 := by
      rcases Fs_is (ok := ok) hM.2 hD.2 hq _ (m - 1) (D - 1) rfl (by omega) (by omega) (by omega) (by omega) with h | h
      · omega
      · have := h.1; omega
    unfold wpX11_drag_44
    simp (disch := omega) only [zI_lit, zI_add, zI_sub, zI_mul, zI_neg, zI_le, zI_lt, zI_eq, zI_nat, zI_max, zI_min, zI_abs, forall_eq, Int.reduceNeg, Int.reduceAdd, Int.reduceMul, Int.reduceSub, Int.add_zero, Int.zero_add, Int.zero_mul, Int.toNat_zero]
    refine ⟨fun _ => ?_, fun h => absurd (Int.le_refl _) h⟩
    refine sr_dragAt hM.2 hD.2 a (by omega) (by omega) (by omega) ?_
    simp (disch := omega) only [zI_lit, zI_add, zI_sub, zI_mul, zI_neg, zI_le, zI_lt, zI_eq, zI_nat, zI_max, zI_min, zI_abs, forall_eq, Int.reduceNeg, Int.reduceAdd, Int.reduceMul, Int.reduceSub, Int.add_zero, Int.zero_add, Int.zero_mul, Int.toNat_zero, zL_lit, zL_cmp_lt]
    refine ⟨fun h => ?_, fun h => ?_⟩
    · refine sr_dragAt hM.2 hD.2 a (by omega) (by omega) (by omega) ?_
      have := hp (th, zI m, zI D, f2, f3, f) rfl
      rwa [if_pos h] at this
    · have := hp (th, zI m, zI D, f2, f3, f) rfl
      rw [if_neg h] at this
      exact this
  | succ j ih =>
    intro m f h0 h1 a
    unfold wpX11_drag_44
    simp (disch := omega) only [zI_lit, zI_add, zI_sub, zI_mul, zI_neg, zI_le, zI_lt, zI_eq, zI_nat, zI_max, zI_min, zI_abs, forall_eq, Int.reduceNeg, Int.reduceAdd, Int.reduceMul, Int.reduceSub, Int.add_zero, Int.zero_add, Int.zero_mul, Int.toNat_zero]
    refine ⟨fun h => absurd h (by omega), fun _ => ⟨D.toNat + 1, ?_⟩⟩
    exact sr_drag55 hM hD ⟨h1, by omega⟩ hq hf (fun f' a' => ih (m + 1) f' (by omega) (by omega) a') D.toNat 0 f (by omega) (by omega) a
end
section
variable {g : Gd} {S : Int → Int → Int → Int → Bool} {xs ys cs ws os v : Nat → Int32} {nw nl sz : Int32} {w o : Int}
noncomputable def Gd.drag (g : Gd) (S : Int → Int → Int → Int → Bool) (w o : Int) : Int := if Bs (fun m d => !S w m o d) (g.far w · o ·) 2147483647 (g.cn w) (g.cn o) 0 0 = 2147483647 then -1 else Bs (fun m d => !S w m o d) (g.far w · o ·) 2147483647 (g.cn w) (g.cn o) 0 0
theorem far_bd (hg : g.Ok) (hw : g.hw w) (ho : g.hw o) : ∀ m d, 0 ≤ m → m < g.cn w → 0 ≤ d → d < g.cn o → 0 ≤ g.far w m o d ∧ g.far w m o d ≤ 1996002 := fun m d a b c e => Gd.far_le hg ⟨hw, a, b⟩ ⟨ho, c, e⟩
theorem pr_not {F m d : Int} : g.pr S F w o m d = if (!S w m o d) = false then F else g.far w m o d := by
  unfold Gd.pr
  cases S w m o d <;> rfl
theorem sp_drag {post : Int64 → ((Nat → Int32) × Int32 × Int32 × (Nat → Int32) × (Nat → Int32)) → Prop} {postX : String → ((Nat → Int32) × Int32 × Int32 × (Nat → Int32) × (Nat → Int32)) → Prop} {f8 f11 f12 : Nat → Int32} {r0 c0 : Int32}
    (hg : g.Ok) (hc : CG g xs ys cs ws nw nl) (hS : SH1 g S nl xs ys ws sz os) (hw : -2147483648 ≤ w ∧ w < 2147483648) (ho : -2147483648 ≤ o ∧ o < 2147483648)
    (hx : ¬ (g.hw w ∧ g.hw o) → postX "java/lang/IndexOutOfBoundsException" (f8, r0, c0, f11, f12))
    (hp : g.hw w → g.hw o → ∀ z, post (zL (g.drag S w o)) z) : wpX10_drag post postX nw nl cs xs ys ws sz os f8 r0 c0 f11 f12 (zI w) (zI o) := by
  unfold wpX10_drag
  refine sp_needWay hg hc hw (fun h1 => ?_) (fun h => hx (fun h' => h h'.1))
  refine sp_needWay hg hc ho (fun h2 => ?_) (fun h => hx (fun h' => h h'.2))
  have e1 := hg.cn w h1.1 h1.2
  have e2 := hg.cn o h2.1 h2.2
  have hp' := hp h1 h2
  unfold Gd.drag at hp'
  refine sp_lay hg hc hS h1 h2 (fun fp sn hL => ?_)
  refine sp_leastSum (ok := fun m d => !S w m o d) (q := fun m d => g.far w m o d) _ (by omega) (by omega) (far_bd hg h1 h2) (fun m d a b c e => ?_) (fun f => ?_)
  · show fp ((m + 1) * 33 + d + 1).toNat = _
    rw [hL m d a c e (by omega), pr_not]
  · have bb := Bs_Fs (ok := fun m d => !S w m o d) (q := fun m d => g.far w m o d) (M := g.cn w) (D := g.cn o) (by omega) (by omega) (far_bd hg h1 h2)
    refine sp_orNone (by omega) ?_
    have hp'' := hp' (sn, zI (g.cn w), zI (g.cn o), fp, f)
    rw [zI_long (by split <;> omega)]
    exact hp''
theorem sr_drag {post : Int64 → (Int32 × Int32 × Int32 × (Nat → Int32) × (Nat → Int32) × (Nat → Int64)) → Prop} {th m0 d0 : Int32} {f2 f3 : Nat → Int32} {f4 : Nat → Int64}
    (hg : g.Ok) (hv : WG g v) (hS : SH2 g S v) (hw : -2147483648 ≤ w ∧ w < 2147483648) (ho : -2147483648 ≤ o ∧ o < 2147483648)
    (hx : ¬ (g.hw w ∧ g.hw o) → ∀ r z, z.1 = 1 → post r z)
    (hp : g.hw w → g.hw o → ∀ z, z.1 = 0 → post (zL (g.drag S w o)) z) : wpX11_drag post v th m0 d0 f2 f3 f4 (zI w) (zI o) := by
  have c22 : ¬ (g.hw w ∧ g.hw o) → wpX11_drag_22 post v 0 m0 d0 f2 f3 f4 (zI w) (zI o) := by
    intro h
    unfold wpX11_drag_22 wpX11_drag_27
    refine sr_throwsIf (fun h => absurd h (by decide)) (fun _ => ?_) (Or.inr rfl)
    exact ⟨fun h => absurd h (by decide), fun _ => hx h _ _ rfl⟩
  unfold wpX11_drag
  refine sr_noWay hg hv hw (fun h1 => ⟨fun h => absurd rfl h, fun _ => ?_⟩) (fun h1 => ⟨fun _ => c22 (fun h => h1 h.1), fun h => absurd h (by decide)⟩)
  refine sr_noWay hg hv ho (fun h2 => ⟨fun _ => ?_, fun h => absurd rfl h⟩) (fun h2 => ⟨fun h => absurd h (by decide), fun _ => c22 (fun h => h2 h.2)⟩)
  have e1 := hg.cn w h1.1 h1.2
  have e2 := hg.cn o h2.1 h2.2
  unfold wpX11_drag_27
  refine sr_throwsIf (fun _ => ⟨fun _ => ?_, fun h => absurd rfl h⟩) (fun h => absurd h (by decide)) (Or.inl rfl)
  refine sr_lays hg hv hS h1 h2 (fun ff sn hL => ?_)
  have bb := Bs_Fs (ok := fun m d => !S w m o d) (q := fun m d => g.far w m o d) (M := g.cn w) (D := g.cn o) (by omega) (by omega) (far_bd hg h1 h2)
  refine ⟨(g.cn w).toNat + 1, sr_drag44 (ok := fun m d => !S w m o d) (q := fun m d => g.far w m o d) (by omega) (by omega) (far_bd hg h1 h2) (fun m d a b c e => ?_) (fun z hz => ?_) (g.cn w).toNat 0 f4 (by omega) (by omega) (fun m' d' a b c e => by omega)⟩
  · show ff (30 * m + d).toNat = _
    rw [hL m d a c e (by omega), pr_not]
  · have hp' := hp h1 h2 z hz
    unfold Gd.drag at hp'
    rcases bb with b | b
    · rw [if_pos b.1] at hp'
      rw [if_neg (by omega)]; exact hp'
    · rw [if_neg (by omega)] at hp'
      rw [if_pos (by omega), ← b.1]; exact hp'
end
