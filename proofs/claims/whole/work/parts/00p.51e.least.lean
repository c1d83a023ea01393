section
variable {q : Int → Int → Int} {F M D : Int}
theorem sp_fence27 {post : (Nat → Int32) → Prop} (hM : 1 ≤ M ∧ M ≤ 31) (hD : 1 ≤ D ∧ D ≤ 31)
    (hp : ∀ f : Nat → Int32, (∀ m d, 0 ≤ m → m ≤ M → 0 ≤ d → d ≤ D → (m = M ∨ d = D) → f ((m + 1) * 33 + d + 1).toNat = zI (Bk q 2147483647 M D m d)) → post f) :
    ∀ (k : Nat) (d : Int) (f : Nat → Int32), 0 ≤ d → d + k = D → (∀ m, 0 ≤ m → m < M → f ((m + 1) * 33 + D + 1).toNat = zI 2147483647) → (∀ e, 0 ≤ e → e < d → f ((M + 1) * 33 + e + 1).toNat = zI 2147483647) → wpX0_fence_27 post (k + 1) f (zI M) (zI D) (zI d) := by
  intro k
  induction k with
  | zero =>
    intro d f h0 h1 a b
    unfold wpX0_fence_27
    simp (disch := omega) only [zI_lit, zI_add, zI_sub, zI_mul, zI_neg, zI_le, zI_lt, zI_eq, zI_nat, zI_max, zI_min, zI_abs, forall_eq, Int.reduceNeg, Int.reduceAdd, Int.reduceMul, Int.reduceSub, Int.add_zero, Int.zero_add, Int.zero_mul, Int.toNat_zero, wpX0_cell]
    refine ⟨fun _ => ⟨zI_in (by omega), hp _ ?_⟩, fun h => absurd h (by omega)⟩
    intro m' d' c1 c2 c3 c4 c5
    rw [upd_eq]
    split
    · rw [show m' = M by omega, show d' = D by omega, Bk_end]
    · rw [Bk_out (by omega) (by omega)]
      by_cases e : m' = M
      · rw [e]; exact b d' c3 (by omega)
      · rw [show d' = D by omega]; exact a m' c1 (by omega)
  | succ k ih =>
    intro d f h0 h1 a b
    unfold wpX0_fence_27
    simp (disch := omega) only [zI_lit, zI_add, zI_sub, zI_mul, zI_neg, zI_le, zI_lt, zI_eq, zI_nat, zI_max, zI_min, zI_abs, forall_eq, Int.reduceNeg, Int.reduceAdd, Int.reduceMul, Int.reduceSub, Int.add_zero, Int.zero_add, Int.zero_mul, Int.toNat_zero, wpX0_cell]
    refine ⟨fun h => absurd h (by omega), fun _ => ⟨zI_in (by omega), ih (d + 1) _ (by omega) (by omega) ?_ ?_⟩⟩
    · intro m' c1 c2
      rw [upd_eq, if_neg (by omega)]; exact a m' c1 c2
    · intro e c1 c2
      rw [upd_eq]
      split
      · rfl
      · exact b e c1 (by omega)
theorem sp_fence2 {post : (Nat → Int32) → Prop} (hM : 1 ≤ M ∧ M ≤ 31) (hD : 1 ≤ D ∧ D ≤ 31)
    (hp : ∀ f : Nat → Int32, (∀ m d, 0 ≤ m → m ≤ M → 0 ≤ d → d ≤ D → (m = M ∨ d = D) → f ((m + 1) * 33 + d + 1).toNat = zI (Bk q 2147483647 M D m d)) → post f) :
    ∀ (k : Nat) (m : Int) (f : Nat → Int32), 0 ≤ m → m + k = M → (∀ e, 0 ≤ e → e < m → f ((e + 1) * 33 + D + 1).toNat = zI 2147483647) → wpX0_fence_2 post (k + 1) f (zI M) (zI D) (zI m) := by
  intro k
  induction k with
  | zero =>
    intro m f h0 h1 a
    unfold wpX0_fence_2
    simp (disch := omega) only [zI_lit, zI_add, zI_sub, zI_mul, zI_neg, zI_le, zI_lt, zI_eq, zI_nat, zI_max, zI_min, zI_abs, forall_eq, Int.reduceNeg, Int.reduceAdd, Int.reduceMul, Int.reduceSub, Int.add_zero, Int.zero_add, Int.zero_mul, Int.toNat_zero]
    refine ⟨fun _ => ⟨D.toNat + 1, ?_⟩, fun h => absurd h (by omega)⟩
    exact sp_fence27 hM hD hp D.toNat 0 f (by omega) (by omega) (fun m' c1 c2 => a m' c1 (by omega)) (fun e c1 c2 => by omega)
  | succ k ih =>
    intro m f h0 h1 a
    unfold wpX0_fence_2
    simp (disch := omega) only [zI_lit, zI_add, zI_sub, zI_mul, zI_neg, zI_le, zI_lt, zI_eq, zI_nat, zI_max, zI_min, zI_abs, forall_eq, Int.reduceNeg, Int.reduceAdd, Int.reduceMul, Int.reduceSub, Int.add_zero, Int.zero_add, Int.zero_mul, Int.toNat_zero, wpX0_cell]
    refine ⟨fun h => absurd h (by omega), fun _ => ⟨zI_in (by omega), ih (m + 1) _ (by omega) (by omega) ?_⟩⟩
    intro e c1 c2
    rw [upd_eq]
    split
    · rfl
    · exact a e c1 (by omega)
theorem sp_fence {post : (Nat → Int32) → Prop} (f : Nat → Int32) (hM : 1 ≤ M ∧ M ≤ 31) (hD : 1 ≤ D ∧ D ≤ 31)
    (hp : ∀ f : Nat → Int32, (∀ m d, 0 ≤ m → m ≤ M → 0 ≤ d → d ≤ D → (m = M ∨ d = D) → f ((m + 1) * 33 + d + 1).toNat = zI (Bk q 2147483647 M D m d)) → post f) : wpX0_fence post f (zI M) (zI D) :=
  ⟨M.toNat + 1, by
    have := sp_fence2 hM hD hp M.toNat 0 f (by omega) (by omega) (fun e c1 c2 => by omega)
    simpa only [zI_lit] using this⟩
def Bst (q : Int → Int → Int) (M D m d : Int) (f : Nat → Int32) : Prop := ∀ m' d', 0 ≤ m' → m' ≤ M → 0 ≤ d' → d' ≤ D → (m' = M ∨ d' = D ∨ m < m' ∨ m' = m ∧ d < d') → f ((m' + 1) * 33 + d' + 1).toNat = zI (Bk q 2147483647 M D m' d')
theorem Bst.next {m d : Int} {f : Nat → Int32} (h : Bst q M D m d f) (hm : 0 ≤ m) (hd : 0 ≤ d ∧ d < D) (hD : D ≤ 31) : Bst q M D m (d - 1) (upd f ((m + 1) * 33 + d + 1).toNat (zI (Bk q 2147483647 M D m d))) := by
  intro m' d' c1 c2 c3 c4 c5
  rw [upd_eq]
  split
  · rw [show m' = m by omega, show d' = d by omega]
  · exact h m' d' c1 c2 c3 c4 (by by_cases e : m' = m <;> by_cases e' : d' = d <;> first | (subst e; subst e'; exact absurd rfl ‹_›) | omega)
theorem Bst.line {m : Int} {f : Nat → Int32} (h : Bst q M D m (-1) f) : Bst q M D (m - 1) (D - 1) f := fun m' d' c1 c2 c3 c4 c5 => h m' d' c1 c2 c3 c4 (by omega)
theorem sp_bestAhead {post : Int32 → Unit → Prop} {m d : Int} {f : Nat → Int32} (hM : 1 ≤ M ∧ M ≤ 31) (hD : 1 ≤ D ∧ D ≤ 31) (hq : ∀ m d, 0 ≤ m → m < M → 0 ≤ d → d < D → 0 ≤ q m d ∧ q m d ≤ 2147483647) (hm : 0 ≤ m ∧ m < M) (hd : 0 ≤ d ∧ d < D) (h : Bst q M D m d f)
    (hp : post (zI (min (Bk q 2147483647 M D (m + 1) (d + 1)) (min (Bk q 2147483647 M D (m + 1) d) (Bk q 2147483647 M D m (d + 1))))) ()) : wpX0_bestAhead post f (zI m) (zI d) := by
  have b1 := Bk_bd (F := 2147483647) (by omega) hq _ (m + 1) (d + 1) rfl (by omega) (by omega)
  have b2 := Bk_bd (F := 2147483647) (by omega) hq _ (m + 1) d rfl (by omega) (by omega)
  have b3 := Bk_bd (F := 2147483647) (by omega) hq _ m (d + 1) rfl (by omega) (by omega)
  unfold wpX0_bestAhead
  simp (disch := omega) only [zI_lit, zI_add, zI_sub, zI_mul, zI_neg, zI_le, zI_lt, zI_eq, zI_nat, zI_max, zI_min, zI_abs, forall_eq, Int.reduceNeg, Int.reduceAdd, Int.reduceMul, Int.reduceSub, Int.add_zero, Int.zero_add, Int.zero_mul, Int.toNat_zero, wpX0_cell]
  rw [h (m + 1) (d + 1) (by omega) (by omega) (by omega) (by omega) (by omega), h (m + 1) d (by omega) (by omega) (by omega) (by omega) (by omega), h m (d + 1) (by omega) (by omega) (by omega) (by omega) (by omega)]
  simp (disch := omega) only [zI_lit, zI_add, zI_sub, zI_mul, zI_neg, zI_le, zI_lt, zI_eq, zI_nat, zI_max, zI_min, zI_abs, forall_eq, Int.reduceNeg, Int.reduceAdd, Int.reduceMul, Int.reduceSub, Int.add_zero, Int.zero_add, Int.zero_mul, Int.toNat_zero]
  exact ⟨zI_in (by omega), zI_in (by omega), zI_in (by omega), hp⟩
theorem sp_settle44 {k11 : (Nat → Int32) → Int32 → Int32 → Int32 → Prop} {post : Int32 → (Nat → Int32) → Prop} {R C fr m r : Int} {f2 : Nat → Int32} (hM : 1 ≤ M ∧ M ≤ 31) (hD : 1 ≤ D ∧ D ≤ 31) (hC : 1 ≤ C ∧ C ≤ 30) (hDC : D ≤ C + 1) (hfr : 0 ≤ fr ∧ fr < C) (hr : 0 ≤ r ∧ r ≤ 30)
    (hq : ∀ m d, 0 ≤ m → m < M → 0 ≤ d → d < D → 0 ≤ q m d ∧ q m d ≤ 2147483647) (hm : 0 ≤ m ∧ m < M)
    (hf : ∀ d, 0 ≤ d → d < D → f2 ((r + 1) * 33 + (if d + fr < C then d + fr else d + fr - C) + 1).toNat = zI (q m d))
    (hk : ∀ f, Bst q M D (m - 1) (D - 1) f → k11 f (zI D) (zI fr) (zI (m - 1))) :
    ∀ (k : Nat) (d : Int) (f : Nat → Int32), d + 1 = k → d < D → Bst q M D m d f → wpX0_settle_44 k11 post (zI R) (zI C) f2 (k + 1) f (zI D) (zI fr) (zI m) (zI r) (zI d) := by
  intro k
  induction k with
  | zero =>
    intro d f h0 h1 a
    unfold wpX0_settle_44
    simp (disch := omega) only [zI_lit, zI_add, zI_sub, zI_mul, zI_neg, zI_le, zI_lt, zI_eq, zI_nat, zI_max, zI_min, zI_abs, forall_eq, Int.reduceNeg, Int.reduceAdd, Int.reduceMul, Int.reduceSub, Int.add_zero, Int.zero_add, Int.zero_mul, Int.toNat_zero]
    refine ⟨fun _ => ?_, fun h => absurd h (by omega)⟩
    rw [show d = -1 by omega] at a
    exact hk f a.line
  | succ k ih =>
    intro d f h0 h1 a
    have bb := Bk_in (q := q) (F := 2147483647) (m := m) (d := d) hm.2 h1
    have b0 := Bk_bd (F := 2147483647) (by omega) hq _ m d rfl (by omega) (by omega)
    have b1 := Bk_bd (F := 2147483647) (by omega) hq _ (m + 1) (d + 1) rfl (by omega) (by omega)
    have b2 := Bk_bd (F := 2147483647) (by omega) hq _ (m + 1) d rfl (by omega) (by omega)
    have b3 := Bk_bd (F := 2147483647) (by omega) hq _ m (d + 1) rfl (by omega) (by omega)
    have hqd := hq m d hm.1 hm.2 (by omega) h1
    have hfd := hf d (by omega) h1
    unfold wpX0_settle_44
    simp (disch := omega) only [zI_lit, zI_add, zI_sub, zI_mul, zI_neg, zI_le, zI_lt, zI_eq, zI_nat, zI_max, zI_min, zI_abs, forall_eq, Int.reduceNeg, Int.reduceAdd, Int.reduceMul, Int.reduceSub, Int.add_zero, Int.zero_add, Int.zero_mul, Int.toNat_zero]
    refine ⟨fun h => absurd h (by omega), fun _ => ⟨fun hc => ?_, fun hc => ?_⟩⟩
    · rw [if_pos hc] at hfd
      unfold wpX0_settle_76
      simp (disch := omega) only [zI_lit, zI_add, zI_sub, zI_mul, zI_neg, zI_le, zI_lt, zI_eq, zI_nat, zI_max, zI_min, zI_abs, forall_eq, Int.reduceNeg, Int.reduceAdd, Int.reduceMul, Int.reduceSub, Int.add_zero, Int.zero_add, Int.zero_mul, Int.toNat_zero, wpX0_cell]
      refine ⟨zI_in (by omega), sp_bestAhead hM hD hq hm ⟨by omega, h1⟩ a ?_⟩
      refine ⟨zI_in (by omega), ?_⟩
      rw [hfd]
      simp (disch := omega) only [zI_lit, zI_add, zI_sub, zI_mul, zI_neg, zI_le, zI_lt, zI_eq, zI_nat, zI_max, zI_min, zI_abs, forall_eq, Int.reduceNeg, Int.reduceAdd, Int.reduceMul, Int.reduceSub, Int.add_zero, Int.zero_add, Int.zero_mul, Int.toNat_zero]
      rw [← bb]
      exact ih (d - 1) _ (by omega) (by omega) (a.next hm.1 ⟨by omega, h1⟩ hD.2)
    · rw [if_neg hc] at hfd
      unfold wpX0_settle_76
      simp (disch := omega) only [zI_lit, zI_add, zI_sub, zI_mul, zI_neg, zI_le, zI_lt, zI_eq, zI_nat, zI_max, zI_min, zI_abs, forall_eq, Int.reduceNeg, Int.reduceAdd, Int.reduceMul, Int.reduceSub, Int.add_zero, Int.zero_add, Int.zero_mul, Int.toNat_zero, wpX0_cell]
      refine ⟨zI_in (by omega), sp_bestAhead hM hD hq hm ⟨by omega, h1⟩ a ?_⟩
      refine ⟨zI_in (by omega), ?_⟩
      rw [hfd]
      simp (disch := omega) only [zI_lit, zI_add, zI_sub, zI_mul, zI_neg, zI_le, zI_lt, zI_eq, zI_nat, zI_max, zI_min, zI_abs, forall_eq, Int.reduceNeg, Int.reduceAdd, Int.reduceMul, Int.reduceSub, Int.add_zero, Int.zero_add, Int.zero_mul, Int.toNat_zero]
      rw [← bb]
      exact ih (d - 1) _ (by omega) (by omega) (a.next hm.1 ⟨by omega, h1⟩ hD.2)
theorem sp_settle11 {post : Int32 → (Nat → Int32) → Prop} {R C fr : Int} {f2 : Nat → Int32} (hM : 1 ≤ M ∧ M ≤ 31) (hD : 1 ≤ D ∧ D ≤ 31) (hR : 1 ≤ R ∧ R ≤ 30) (hC : 1 ≤ C ∧ C ≤ 30) (hMR : M ≤ R + 1) (hDC : D ≤ C + 1) (hfr : 0 ≤ fr ∧ fr < C)
    (hq : ∀ m d, 0 ≤ m → m < M → 0 ≤ d → d < D → 0 ≤ q m d ∧ q m d ≤ 2147483647)
    (hf : ∀ m d, 0 ≤ m → m < M → 0 ≤ d → d < D → f2 (((if m < R then m else m - R) + 1) * 33 + (if d + fr < C then d + fr else d + fr - C) + 1).toNat = zI (q m d))
    (hp : ∀ f, Bst q M D (-1) (D - 1) f → post (zI (Bk q 2147483647 M D 0 0)) f) :
    ∀ (k : Nat) (m : Int) (f : Nat → Int32), m + 1 = k → m < M → Bst q M D m (D - 1) f → wpX0_settle_11 post (zI R) (zI C) f2 (k + 1) f (zI D) (zI fr) (zI m) := by
  intro k
  induction k with
  | zero =>
    intro m f h0 h1 a
    rw [show m = -1 by omega] at a ⊢
    unfold wpX0_settle_11
    simp (disch := omega) only [zI_lit, zI_add, zI_sub, zI_mul, zI_neg, zI_le, zI_lt, zI_eq, zI_nat, zI_max, zI_min, zI_abs, forall_eq, Int.reduceNeg, Int.reduceAdd, Int.reduceMul, Int.reduceSub, Int.add_zero, Int.zero_add, Int.zero_mul, Int.toNat_zero, wpX0_cell]
    have := a 0 0 (by omega) (by omega) (by omega) (by omega) (by omega)
    refine ⟨fun _ => ⟨zI_in (by omega), ?_⟩, fun h => absurd h (by omega)⟩
    have e := hp f a
    rw [← this] at e
    exact e
  | succ k ih =>
    intro m f h0 h1 a
    have hfm := hf m
    unfold wpX0_settle_11
    simp (disch := omega) only [zI_lit, zI_add, zI_sub, zI_mul, zI_neg, zI_le, zI_lt, zI_eq, zI_nat, zI_max, zI_min, zI_abs, forall_eq, Int.reduceNeg, Int.reduceAdd, Int.reduceMul, Int.reduceSub, Int.add_zero, Int.zero_add, Int.zero_mul, Int.toNat_zero]
    refine ⟨fun h => absurd h (by omega), fun _ => ⟨fun hc => ?_, fun hc => ?_⟩⟩
    · unfold wpX0_settle_37
      simp (disch := omega) only [zI_lit, zI_add, zI_sub, zI_mul, zI_neg, zI_le, zI_lt, zI_eq, zI_nat, zI_max, zI_min, zI_abs, forall_eq, Int.reduceNeg, Int.reduceAdd, Int.reduceMul, Int.reduceSub, Int.add_zero, Int.zero_add, Int.zero_mul, Int.toNat_zero]
      refine ⟨D.toNat + 1, ?_⟩
      rw [if_pos hc] at hfm
      exact sp_settle44 hM hD hC hDC hfr (by omega) hq ⟨by omega, h1⟩ (fun d => hfm d (by omega) h1) (fun f' a' => ih (m - 1) f' (by omega) (by omega) a') D.toNat (D - 1) f (by omega) (by omega) a
    · unfold wpX0_settle_37
      simp (disch := omega) only [zI_lit, zI_add, zI_sub, zI_mul, zI_neg, zI_le, zI_lt, zI_eq, zI_nat, zI_max, zI_min, zI_abs, forall_eq, Int.reduceNeg, Int.reduceAdd, Int.reduceMul, Int.reduceSub, Int.add_zero, Int.zero_add, Int.zero_mul, Int.toNat_zero]
      refine ⟨D.toNat + 1, ?_⟩
      rw [if_neg hc] at hfm
      exact sp_settle44 hM hD hC hDC hfr (by omega) hq ⟨by omega, h1⟩ (fun d => hfm d (by omega) h1) (fun f' a' => ih (m - 1) f' (by omega) (by omega) a') D.toNat (D - 1) f (by omega) (by omega) a
theorem sp_settle {post : Int32 → (Nat → Int32) → Prop} {R C fr : Int} {f2 : Nat → Int32} (f : Nat → Int32) (hM : 1 ≤ M ∧ M ≤ 31) (hD : 1 ≤ D ∧ D ≤ 31) (hR : 1 ≤ R ∧ R ≤ 30) (hC : 1 ≤ C ∧ C ≤ 30) (hMR : M ≤ R + 1) (hDC : D ≤ C + 1) (hfr : 0 ≤ fr ∧ fr < C)
    (hq : ∀ m d, 0 ≤ m → m < M → 0 ≤ d → d < D → 0 ≤ q m d ∧ q m d ≤ 2147483647)
    (hf : ∀ m d, 0 ≤ m → m < M → 0 ≤ d → d < D → f2 (((if m < R then m else m - R) + 1) * 33 + (if d + fr < C then d + fr else d + fr - C) + 1).toNat = zI (q m d))
    (hp : ∀ f, Bst q M D (-1) (D - 1) f → post (zI (Bk q 2147483647 M D 0 0)) f) : wpX0_settle post (zI R) (zI C) f2 f (zI M) (zI D) (zI fr) := by
  unfold wpX0_settle
  refine sp_fence (q := q) f hM hD (fun f' a => ?_)
  simp (disch := omega) only [zI_lit, zI_add, zI_sub, zI_mul, zI_neg, zI_le, zI_lt, zI_eq, zI_nat, zI_max, zI_min, zI_abs, forall_eq, Int.reduceNeg, Int.reduceAdd, Int.reduceMul, Int.reduceSub, Int.add_zero, Int.zero_add, Int.zero_mul, Int.toNat_zero]
  exact ⟨M.toNat + 1, sp_settle11 hM hD hR hC hMR hDC hfr hq hf hp M.toNat (M - 1) f' (by omega) (by omega) (fun m' d' c1 c2 c3 c4 c5 => a m' d' c1 c2 c3 c4 (by omega))⟩
end
