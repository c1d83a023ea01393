def mv (s : Int) : Int := if s = 2 then 0 else 1
def dv (s : Int) : Int := if s = 1 then 0 else 1
theorem sp_manMoves {post : Int32 → Unit → Prop} {s : Int} (h : s = 1 ∨ s = 2 ∨ s = 3) (hp : post (zI (mv s)) ()) : wpX10_manMoves post (zI s) := by
  unfold wpX10_manMoves
  rcases h with rfl | rfl | rfl
  · exact hp
  · exact hp
  · exact hp
theorem sp_dogMoves {post : Int32 → Unit → Prop} {s : Int} (h : s = 1 ∨ s = 2 ∨ s = 3) (hp : post (zI (dv s)) ()) : wpX10_dogMoves post (zI s) := by
  unfold wpX10_dogMoves
  rcases h with rfl | rfl | rfl
  · exact hp
  · exact hp
  · exact hp
theorem sr_manBy {post : Int32 → Unit → Prop} {s : Int} (h : s = 1 ∨ s = 2 ∨ s = 3) (hp : post (zI (mv s)) ()) : wpX11_manBy post (zI s) := by
  unfold wpX11_manBy
  unfold mv at hp
  simp (disch := omega) only [zI_lit, zI_add, zI_sub, zI_mul, zI_neg, zI_le, zI_lt, zI_eq, zI_nat, zI_max, zI_min, zI_abs, forall_eq, Int.reduceNeg, Int.reduceAdd, Int.reduceMul, Int.reduceSub, Int.add_zero, Int.zero_add, Int.zero_mul, Int.toNat_zero]
  refine ⟨fun h => ?_, fun h => ?_⟩
  · rwa [if_neg h] at hp
  · rwa [if_pos h] at hp
theorem sr_dogBy {post : Int32 → Unit → Prop} {s : Int} (h : s = 1 ∨ s = 2 ∨ s = 3) (hp : post (zI (dv s)) ()) : wpX11_dogBy post (zI s) := by
  unfold wpX11_dogBy
  unfold dv at hp
  simp (disch := omega) only [zI_lit, zI_add, zI_sub, zI_mul, zI_neg, zI_le, zI_lt, zI_eq, zI_nat, zI_max, zI_min, zI_abs, forall_eq, Int.reduceNeg, Int.reduceAdd, Int.reduceMul, Int.reduceSub, Int.add_zero, Int.zero_add, Int.zero_mul, Int.toNat_zero]
  refine ⟨fun h => ?_, fun h => ?_⟩
  · rwa [if_neg h] at hp
  · rwa [if_pos h] at hp
noncomputable def stp (q : Int → Int → Int) (M D t m d : Int) : Int := if Bk q 2147483647 M D (m + 1) d ≤ t then 1 else if Bk q 2147483647 M D m (d + 1) ≤ t then 2 else 3
theorem stp_is (q : Int → Int → Int) (M D t m d : Int) : stp q M D t m d = 1 ∨ stp q M D t m d = 2 ∨ stp q M D t m d = 3 := by
  unfold stp
  split
  · exact Or.inl rfl
  · split
    · exact Or.inr (Or.inl rfl)
    · exact Or.inr (Or.inr rfl)
noncomputable def wk (q : Int → Int → Int) (M D t : Int) : Nat → Int × Int
  | 0 => (0, 0)
  | n + 1 => ((wk q M D t n).1 + mv (stp q M D t (wk q M D t n).1 (wk q M D t n).2), (wk q M D t n).2 + dv (stp q M D t (wk q M D t n).1 (wk q M D t n).2))
section
variable {q : Int → Int → Int} {M D t : Int}
theorem stp_keeps (ht : 0 ≤ t ∧ t < 2147483647) {m d : Int} (hm : 0 ≤ m ∧ m < M) (hd : 0 ≤ d ∧ d < D) (hb : Bk q 2147483647 M D m d ≤ t) (he : ¬ (M - 1 ≤ m ∧ D - 1 ≤ d)) :
    (m + mv (stp q M D t m d) < M ∧ d + dv (stp q M D t m d) < D) ∧ Bk q 2147483647 M D (m + mv (stp q M D t m d)) (d + dv (stp q M D t m d)) ≤ t := by
  rw [Bk_in hm.2 hd.2] at hb
  have k : ∀ x y, Bk q 2147483647 M D x y ≤ t → ¬ (x = M ∧ y = D) → x < M ∧ y < D := by
    intro x y h hn
    by_cases hx : M ≤ x ∨ D ≤ y
    · rw [Bk_out hx hn] at h; omega
    · omega
  unfold stp
  split
  · rename_i h
    have := k _ _ h (by omega)
    simp only [mv, dv, if_true, Int.add_zero]
    rw [if_neg (by decide)]
    exact ⟨by omega, h⟩
  · split
    · rename_i h1 h
      have := k _ _ h (by omega)
      simp only [mv, dv, if_true, Int.add_zero]
      rw [if_neg (by decide)]
      exact ⟨by omega, h⟩
    · rename_i h1 h2
      have h : Bk q 2147483647 M D (m + 1) (d + 1) ≤ t := by omega
      have := k _ _ h (by omega)
      simp only [mv, dv]
      rw [if_neg (by decide), if_neg (by decide)]
      exact ⟨by omega, h⟩
theorem mv_dv (s : Int) : 0 ≤ mv s ∧ 0 ≤ dv s ∧ 1 ≤ mv s + dv s ∧ mv s ≤ 1 ∧ dv s ≤ 1 := by
  unfold mv dv
  split <;> split <;> omega
theorem wk_in (ht : 0 ≤ t ∧ t < 2147483647) (hM : 1 ≤ M) (hD : 1 ≤ D) (h0 : Bk q 2147483647 M D 0 0 ≤ t) : ∀ n : Nat, (∀ i, i < n → ¬ (M - 1 ≤ (wk q M D t i).1 ∧ D - 1 ≤ (wk q M D t i).2)) →
    ((0 ≤ (wk q M D t n).1 ∧ (wk q M D t n).1 < M) ∧ 0 ≤ (wk q M D t n).2 ∧ (wk q M D t n).2 < D) ∧ (n : Int) ≤ (wk q M D t n).1 + (wk q M D t n).2 ∧ Bk q 2147483647 M D (wk q M D t n).1 (wk q M D t n).2 ≤ t := by
  intro n
  induction n with
  | zero => intro _; simp only [wk]; exact ⟨by omega, by omega, h0⟩
  | succ n ih =>
    intro h
    have a := ih (fun i hi => h i (by omega))
    have b := stp_keeps ht a.1.1 a.1.2 a.2.2 (h n (by omega))
    have c := mv_dv (stp q M D t (wk q M D t n).1 (wk q M D t n).2)
    simp only [wk]
    exact ⟨⟨⟨by omega, b.1.1⟩, by omega, b.1.2⟩, by omega, b.2⟩
theorem wk_ends (ht : 0 ≤ t ∧ t < 2147483647) (hM : 1 ≤ M ∧ M ≤ 30) (hD : 1 ≤ D ∧ D ≤ 30) (h0 : Bk q 2147483647 M D 0 0 ≤ t) : ∃ N : Nat, N ≤ 58 ∧ (∀ i, i < N → ¬ (M - 1 ≤ (wk q M D t i).1 ∧ D - 1 ≤ (wk q M D t i).2)) ∧ (M - 1 ≤ (wk q M D t N).1 ∧ D - 1 ≤ (wk q M D t N).2) := by
  have key : ∀ j : Nat, (∃ N : Nat, N ≤ j ∧ (∀ i, i < N → ¬ (M - 1 ≤ (wk q M D t i).1 ∧ D - 1 ≤ (wk q M D t i).2)) ∧ (M - 1 ≤ (wk q M D t N).1 ∧ D - 1 ≤ (wk q M D t N).2)) ∨ (∀ i, i ≤ j → ¬ (M - 1 ≤ (wk q M D t i).1 ∧ D - 1 ≤ (wk q M D t i).2)) := by
    intro j
    induction j with
    | zero =>
      by_cases h : M - 1 ≤ (wk q M D t 0).1 ∧ D - 1 ≤ (wk q M D t 0).2
      · exact Or.inl ⟨0, Nat.le_refl 0, fun i hi => absurd hi (Nat.not_lt_zero i), h⟩
      · exact Or.inr (fun i hi => by rw [show i = 0 by omega]; exact h)
    | succ j ih =>
      rcases ih with ⟨N, a, b, c⟩ | a
      · exact Or.inl ⟨N, by omega, b, c⟩
      · by_cases h : M - 1 ≤ (wk q M D t (j + 1)).1 ∧ D - 1 ≤ (wk q M D t (j + 1)).2
        · exact Or.inl ⟨j + 1, Nat.le_refl _, fun i hi => a i (by omega), h⟩
        · refine Or.inr (fun i hi => ?_)
          by_cases e : i = j + 1
          · rw [e]; exact h
          · exact a i (by omega)
  rcases key 58 with h | h
  · exact h
  · have := wk_in ht hM.1 hD.1 h0 59 (fun i hi => h i (by omega))
    omega
theorem sp_isEnd {post : Int32 → Unit → Prop} {m d : Int} (hM : 1 ≤ M ∧ M ≤ 30) (hD : 1 ≤ D ∧ D ≤ 30) (hm : 0 ≤ m ∧ m < M) (hd : 0 ≤ d ∧ d < D) (h1 : (M - 1 ≤ m ∧ D - 1 ≤ d) → post 1 ()) (h0 : ¬ (M - 1 ≤ m ∧ D - 1 ≤ d) → post 0 ()) : wpX0_isEnd post (zI M) (zI D) (zI m) (zI d) := by
  unfold wpX0_isEnd
  rw [show (0 : Int32) = zI 0 from rfl] at h0
  rw [show (1 : Int32) = zI 1 from rfl] at h1
  simp (disch := omega) only [zI_lit, zI_add, zI_sub, zI_mul, zI_neg, zI_le, zI_lt, zI_eq, zI_nat, zI_max, zI_min, zI_abs, forall_eq, Int.reduceNeg, Int.reduceAdd, Int.reduceMul, Int.reduceSub, Int.add_zero, Int.zero_add, Int.zero_mul, Int.toNat_zero]
  exact ⟨fun h => h0 (by omega), fun h => ⟨fun h => h0 (by omega), fun h => h1 (by omega)⟩⟩
theorem sp_firstStep {post : Int32 → Unit → Prop} {m d : Int} {f : Nat → Int32} (hM : 1 ≤ M ∧ M ≤ 30) (hD : 1 ≤ D ∧ D ≤ 30) (hq : ∀ m d, 0 ≤ m → m < M → 0 ≤ d → d < D → 0 ≤ q m d ∧ q m d ≤ 2147483647) (hm : 0 ≤ m ∧ m < M) (hd : 0 ≤ d ∧ d < D) (h : Bst q M D (-1) (D - 1) f) (ht : t = Bk q 2147483647 M D 0 0)
    (hp : post (zI (stp q M D t m d)) ()) : wpX0_firstStep post f (zI m) (zI d) := by
  have b1 := Bk_bd (F := 2147483647) (by omega) hq _ (m + 1) d rfl (by omega) (by omega)
  have b2 := Bk_bd (F := 2147483647) (by omega) hq _ m (d + 1) rfl (by omega) (by omega)
  have b3 := Bk_bd (F := 2147483647) (by omega) hq _ 0 0 rfl (by omega) (by omega)
  have e1 := h (m + 1) d (by omega) (by omega) (by omega) (by omega) (by omega)
  have e2 := h m (d + 1) (by omega) (by omega) (by omega) (by omega) (by omega)
  have e3 := h 0 0 (by omega) (by omega) (by omega) (by omega) (by omega)
  simp only [Int.zero_add, Int.add_zero, Int.reduceMul, Int.reduceAdd] at e3
  refine ⟨3, ?_⟩
  unfold stp at hp
  unfold wpX0_firstStep_2
  rw [show (1 : Int32) = zI 1 from rfl]
  simp (disch := omega) only [zI_lit, zI_add, zI_sub, zI_mul, zI_neg, zI_le, zI_lt, zI_eq, zI_nat, zI_max, zI_min, zI_abs, forall_eq, Int.reduceNeg, Int.reduceAdd, Int.reduceMul, Int.reduceSub, Int.add_zero, Int.zero_add, Int.zero_mul, Int.toNat_zero]
  refine ⟨fun h => absurd h (by omega), fun _ => ?_⟩
  refine sp_manMoves (Or.inl rfl) (sp_dogMoves (Or.inl rfl) ?_)
  rw [show mv 1 = 1 from rfl, show dv 1 = 0 from rfl]
  simp (disch := omega) only [zI_lit, zI_add, zI_sub, zI_mul, zI_neg, zI_le, zI_lt, zI_eq, zI_nat, zI_max, zI_min, zI_abs, forall_eq, Int.reduceNeg, Int.reduceAdd, Int.reduceMul, Int.reduceSub, Int.add_zero, Int.zero_add, Int.zero_mul, Int.toNat_zero, wpX0_cell]
  rw [e1, e3]
  simp (disch := omega) only [zI_lit, zI_add, zI_sub, zI_mul, zI_neg, zI_le, zI_lt, zI_eq, zI_nat, zI_max, zI_min, zI_abs, forall_eq, Int.reduceNeg, Int.reduceAdd, Int.reduceMul, Int.reduceSub, Int.add_zero, Int.zero_add, Int.zero_mul, Int.toNat_zero]
  refine ⟨zI_in (by omega), zI_in (by omega), fun h => ?_, fun h => ?_⟩
  · rw [if_neg (by omega)] at hp
    unfold wpX0_firstStep_2
    simp (disch := omega) only [zI_lit, zI_add, zI_sub, zI_mul, zI_neg, zI_le, zI_lt, zI_eq, zI_nat, zI_max, zI_min, zI_abs, forall_eq, Int.reduceNeg, Int.reduceAdd, Int.reduceMul, Int.reduceSub, Int.add_zero, Int.zero_add, Int.zero_mul, Int.toNat_zero]
    refine ⟨fun h => absurd h (by omega), fun _ => ?_⟩
    refine sp_manMoves (Or.inr (Or.inl rfl)) (sp_dogMoves (Or.inr (Or.inl rfl)) ?_)
    rw [show mv 2 = 0 from rfl, show dv 2 = 1 from rfl]
    simp (disch := omega) only [zI_lit, zI_add, zI_sub, zI_mul, zI_neg, zI_le, zI_lt, zI_eq, zI_nat, zI_max, zI_min, zI_abs, forall_eq, Int.reduceNeg, Int.reduceAdd, Int.reduceMul, Int.reduceSub, Int.add_zero, Int.zero_add, Int.zero_mul, Int.toNat_zero, wpX0_cell]
    rw [e2, e3]
    simp (disch := omega) only [zI_lit, zI_add, zI_sub, zI_mul, zI_neg, zI_le, zI_lt, zI_eq, zI_nat, zI_max, zI_min, zI_abs, forall_eq, Int.reduceNeg, Int.reduceAdd, Int.reduceMul, Int.reduceSub, Int.add_zero, Int.zero_add, Int.zero_mul, Int.toNat_zero]
    refine ⟨zI_in (by omega), zI_in (by omega), fun h => ?_, fun h => ?_⟩
    · rw [if_neg (by omega)] at hp
      unfold wpX0_firstStep_2
      simp (disch := omega) only [zI_lit, zI_add, zI_sub, zI_mul, zI_neg, zI_le, zI_lt, zI_eq, zI_nat, zI_max, zI_min, zI_abs, forall_eq, Int.reduceNeg, Int.reduceAdd, Int.reduceMul, Int.reduceSub, Int.add_zero, Int.zero_add, Int.zero_mul, Int.toNat_zero]
      exact ⟨fun _ => hp, fun h => absurd h (by omega)⟩
    · rwa [if_pos (by omega)] at hp
  · rwa [if_pos (by omega)] at hp
noncomputable def fwA (q : Int → Int → Int) (M D t : Int) (N : Nat) (k : Int) : Int := if k = -1 then N else if k < N then stp q M D t (wk q M D t k.toNat).1 (wk q M D t k.toNat).2 else -1
theorem sp_firstWalk7 {post : Int32 → Unit → Prop} {f : Nat → Int32} {k : Int} {N : Nat} (hM : 1 ≤ M ∧ M ≤ 30) (hD : 1 ≤ D ∧ D ≤ 30) (hq : ∀ m d, 0 ≤ m → m < M → 0 ≤ d → d < D → 0 ≤ q m d ∧ q m d ≤ 2147483647) (h : Bst q M D (-1) (D - 1) f) (ht : t = Bk q 2147483647 M D 0 0) (ht' : 0 ≤ t ∧ t < 2147483647)
    (hk : -1 ≤ k ∧ k < 2147483648) (hN : N ≤ 58) (hN1 : ∀ i, i < N → ¬ (M - 1 ≤ (wk q M D t i).1 ∧ D - 1 ≤ (wk q M D t i).2)) (hN2 : M - 1 ≤ (wk q M D t N).1 ∧ D - 1 ≤ (wk q M D t N).2)
    (hp : post (zI (fwA q M D t N k)) ()) :
    ∀ (n j : Nat), j + n = N → (0 ≤ k → (j : Int) ≤ k) → wpX0_firstWalk_7 post (zI M) (zI D) f (n + 1) (zI k) (zI (wk q M D t j).1) (zI (wk q M D t j).2) (zI j) := by
  have h62 : (k = -1 ∨ N ≤ k) → wpX0_firstWalk_62 post (zI M) (zI D) f (zI k) (zI N) := by
    intro hc
    unfold wpX0_firstWalk_62
    unfold fwA at hp
    simp (disch := omega) only [zI_lit, zI_add, zI_sub, zI_mul, zI_neg, zI_le, zI_lt, zI_eq, zI_nat, zI_max, zI_min, zI_abs, forall_eq, Int.reduceNeg, Int.reduceAdd, Int.reduceMul, Int.reduceSub, Int.add_zero, Int.zero_add, Int.zero_mul, Int.toNat_zero]
    refine ⟨fun h => ?_, fun h => ?_⟩
    · rwa [if_neg (by omega), if_neg (by omega)] at hp
    · rwa [if_pos (by omega)] at hp
  intro n
  induction n with
  | zero =>
    intro j hj hkj
    obtain rfl : j = N := by omega
    have a := wk_in ht' hM.1 hD.1 (by omega) j hN1
    unfold wpX0_firstWalk_7
    simp (disch := omega) only [zI_lit, zI_add, zI_sub, zI_mul, zI_neg, zI_le, zI_lt, zI_eq, zI_nat, zI_max, zI_min, zI_abs, forall_eq, Int.reduceNeg, Int.reduceAdd, Int.reduceMul, Int.reduceSub, Int.add_zero, Int.zero_add, Int.zero_mul, Int.toNat_zero]
    refine ⟨fun _ => h62 (by omega), fun _ => sp_isEnd hM hD a.1.1 a.1.2 (fun _ => ⟨fun _ => h62 (by omega), fun h => absurd h (by decide)⟩) (fun h => absurd hN2 h)⟩
  | succ n ih =>
    intro j hj hkj
    have a := wk_in ht' hM.1 hD.1 (by omega) j (fun i hi => hN1 i (by omega))
    have hne := hN1 j (by omega)
    unfold wpX0_firstWalk_7
    simp (disch := omega) only [zI_lit, zI_add, zI_sub, zI_mul, zI_neg, zI_le, zI_lt, zI_eq, zI_nat, zI_max, zI_min, zI_abs, forall_eq, Int.reduceNeg, Int.reduceAdd, Int.reduceMul, Int.reduceSub, Int.add_zero, Int.zero_add, Int.zero_mul, Int.toNat_zero]
    refine ⟨fun h => absurd h (by omega), fun _ => sp_isEnd hM hD a.1.1 a.1.2 (fun h => absurd h hne) (fun _ => ⟨fun h => absurd rfl h, fun _ => ?_⟩)⟩
    refine sp_firstStep hM hD hq a.1.1 a.1.2 h ht ?_
    refine ⟨fun hc => ?_, fun hc => ?_⟩
    · refine sp_manMoves (stp_is q M D t _ _) ?_
      simp (disch := omega) only [zI_lit, zI_add, zI_sub, zI_mul, zI_neg, zI_le, zI_lt, zI_eq, zI_nat, zI_max, zI_min, zI_abs, forall_eq, Int.reduceNeg, Int.reduceAdd, Int.reduceMul, Int.reduceSub, Int.add_zero, Int.zero_add, Int.zero_mul, Int.toNat_zero]
      refine sp_dogMoves (stp_is q M D t _ _) ?_
      simp (disch := omega) only [zI_lit, zI_add, zI_sub, zI_mul, zI_neg, zI_le, zI_lt, zI_eq, zI_nat, zI_max, zI_min, zI_abs, forall_eq, Int.reduceNeg, Int.reduceAdd, Int.reduceMul, Int.reduceSub, Int.add_zero, Int.zero_add, Int.zero_mul, Int.toNat_zero]
      exact ih (j + 1) (by omega) (by omega)
    · unfold fwA at hp
      rw [if_neg (by omega), if_pos (by omega), ← hc, Int.toNat_natCast] at hp
      exact hp
theorem sp_firstWalk {post : Int32 → Unit → Prop} {f : Nat → Int32} {k : Int} {N : Nat} (hM : 1 ≤ M ∧ M ≤ 30) (hD : 1 ≤ D ∧ D ≤ 30) (hq : ∀ m d, 0 ≤ m → m < M → 0 ≤ d → d < D → 0 ≤ q m d ∧ q m d ≤ 2147483647) (h : Bst q M D (-1) (D - 1) f) (ht : t = Bk q 2147483647 M D 0 0) (ht' : 0 ≤ t ∧ t < 2147483647)
    (hk : -1 ≤ k ∧ k < 2147483648) (hN : N ≤ 58) (hN1 : ∀ i, i < N → ¬ (M - 1 ≤ (wk q M D t i).1 ∧ D - 1 ≤ (wk q M D t i).2)) (hN2 : M - 1 ≤ (wk q M D t N).1 ∧ D - 1 ≤ (wk q M D t N).2)
    (hp : post (zI (fwA q M D t N k)) ()) : wpX0_firstWalk post (zI M) (zI D) f (zI k) :=
  ⟨N + 1, sp_firstWalk7 hM hD hq h ht ht' hk hN hN1 hN2 hp N 0 (by omega) (by omega)⟩
end
