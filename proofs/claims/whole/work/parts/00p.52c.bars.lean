section
variable {q q2 : Int → Int → Int} {M D t : Int}
theorem Nx_wk (q : Int → Int → Int) (M D t : Int) (n : Nat) : ((wk q M D t (n + 1)).1 = (wk q M D t n).1 + 1 ∧ (wk q M D t (n + 1)).2 = (wk q M D t n).2) ∨ ((wk q M D t (n + 1)).1 = (wk q M D t n).1 ∧ (wk q M D t (n + 1)).2 = (wk q M D t n).2 + 1) ∨ ((wk q M D t (n + 1)).1 = (wk q M D t n).1 + 1 ∧ (wk q M D t (n + 1)).2 = (wk q M D t n).2 + 1) := by
  have h := stp_is q M D t (wk q M D t n).1 (wk q M D t n).2
  simp only [wk]
  rcases h with h | h | h
  · rw [h, show mv 1 = 1 from rfl, show dv 1 = 0 from rfl]; omega
  · rw [h, show mv 2 = 0 from rfl, show dv 2 = 1 from rfl]; omega
  · rw [h, show mv 3 = 1 from rfl, show dv 3 = 1 from rfl]; omega
theorem bars_ex {N : Nat} (hM : 1 ≤ M ∧ M ≤ 30) (hD : 1 ≤ D ∧ D ≤ 30) (hq : ∀ m d, 0 ≤ m → m < M → 0 ≤ d → d < D → 0 ≤ q m d ∧ q m d ≤ 2147483647) (ht : t = Bk q 2147483647 M D 0 0) (ht' : 0 ≤ t ∧ t < 2147483647)
    (hN1 : ∀ i, i < N → ¬ (M - 1 ≤ (wk q M D t i).1 ∧ D - 1 ≤ (wk q M D t i).2)) (hN2 : M - 1 ≤ (wk q M D t N).1 ∧ D - 1 ≤ (wk q M D t N).2) :
    ∃ J : Nat, J ≤ N ∧ (∀ i, i < J → q (wk q M D t i).1 (wk q M D t i).2 < t) ∧ q (wk q M D t J).1 (wk q M D t J).2 = t := by
  have hin : ∀ j : Nat, j ≤ N → _ := fun j hj => wk_in ht' hM.1 hD.1 (by omega) j (fun i hi => hN1 i (by omega))
  have key : ∀ j : Nat, j ≤ N → (∃ J : Nat, J ≤ N ∧ (∀ i, i < J → q (wk q M D t i).1 (wk q M D t i).2 < t) ∧ q (wk q M D t J).1 (wk q M D t J).2 = t) ∨ ((∀ i, i < j → q (wk q M D t i).1 (wk q M D t i).2 < t) ∧ ¬ Bk q 2147483647 M D (wk q M D t j).1 (wk q M D t j).2 ≤ t - 1) := by
    intro j
    induction j with
    | zero => intro _; refine Or.inr ⟨fun i hi => absurd hi (Nat.not_lt_zero i), ?_⟩; simp only [wk]; omega
    | succ j ih =>
      intro hj
      rcases ih (by omega) with h | ⟨h1, h2⟩
      · exact Or.inl h
      · have a := hin j (by omega)
        have b := Bk_in (q := q) (F := 2147483647) a.1.1.2 a.1.2.2
        by_cases e : q (wk q M D t j).1 (wk q M D t j).2 = t
        · exact Or.inl ⟨j, by omega, h1, e⟩
        · refine Or.inr ⟨fun i hi => ?_, ?_⟩
          · by_cases e' : i = j
            · rw [e']; omega
            · exact h1 i (by omega)
          · rcases Nx_wk q M D t j with ⟨e1, e2⟩ | ⟨e1, e2⟩ | ⟨e1, e2⟩ <;> rw [e1, e2] <;> omega
  rcases key N (Nat.le_refl N) with h | ⟨h1, h2⟩
  · exact h
  · have a := hin N (Nat.le_refl N)
    refine ⟨N, Nat.le_refl N, h1, ?_⟩
    have b := Bk_in (q := q) (F := 2147483647) a.1.1.2 a.1.2.2
    have e : Bk q 2147483647 M D ((wk q M D t N).1 + 1) ((wk q M D t N).2 + 1) = 0 := by
      rw [show (wk q M D t N).1 + 1 = M by omega, show (wk q M D t N).2 + 1 = D by omega, Bk_end]
    have c := hq _ _ a.1.1.1 a.1.1.2 a.1.2.1 a.1.2.2
    have d1 := Bk_bd (F := 2147483647) (by omega) hq _ ((wk q M D t N).1 + 1) (wk q M D t N).2 rfl (by omega) (by omega)
    have d2 := Bk_bd (F := 2147483647) (by omega) hq _ (wk q M D t N).1 ((wk q M D t N).2 + 1) rfl (by omega) (by omega)
    omega
theorem sp_farthest {post : Int32 → Unit → Prop} {fp f : Nat → Int32} {N J : Nat} (hM : 1 ≤ M ∧ M ≤ 30) (hD : 1 ≤ D ∧ D ≤ 30) (hq : ∀ m d, 0 ≤ m → m < M → 0 ≤ d → d < D → 0 ≤ q m d ∧ q m d ≤ 2147483647) (h : Bst q M D (-1) (D - 1) f) (hL : Laid q D M 0 fp) (ht : t = Bk q 2147483647 M D 0 0) (ht' : 0 ≤ t ∧ t < 2147483647)
    (hN : N ≤ 58) (hN1 : ∀ i, i < N → ¬ (M - 1 ≤ (wk q M D t i).1 ∧ D - 1 ≤ (wk q M D t i).2)) (hN2 : M - 1 ≤ (wk q M D t N).1 ∧ D - 1 ≤ (wk q M D t N).2)
    (hJ : J ≤ N) (hJ1 : ∀ i, i < J → q (wk q M D t i).1 (wk q M D t i).2 < t) (hJ2 : q (wk q M D t J).1 (wk q M D t J).2 = t)
    (hp : post (zI (100 * (wk q M D t J).1 + (wk q M D t J).2)) ()) : wpX0_farthestOfFirstWalk post (zI M) (zI D) fp f := by
  have hin : ∀ j : Nat, j ≤ N → _ := fun j hj => wk_in ht' hM.1 hD.1 (by omega) j (fun i hi => hN1 i (by omega))
  have e3 := h 0 0 (by omega) (by omega) (by omega) (by omega) (by omega)
  simp only [Int.zero_add, Int.add_zero, Int.reduceMul, Int.reduceAdd] at e3
  have h77 : wpX0_farthestOfFirstWalk_77 post (zI M) (zI D) fp f (zI (wk q M D t J).1) (zI (wk q M D t J).2) := by
    unfold wpX0_farthestOfFirstWalk_77
    simp (disch := omega) only [zI_lit, zI_add, zI_sub, zI_mul, zI_neg, zI_le, zI_lt, zI_eq, zI_nat, zI_max, zI_min, zI_abs, forall_eq, Int.reduceNeg, Int.reduceAdd, Int.reduceMul, Int.reduceSub, Int.add_zero, Int.zero_add, Int.zero_mul, Int.toNat_zero]
    exact hp
  have key : ∀ (n j : Nat), j + n = J → wpX0_farthestOfFirstWalk_6 post (zI M) (zI D) fp f (n + 1) (zI (wk q M D t j).1) (zI (wk q M D t j).2) (zI j) := by
    intro n
    induction n with
    | zero =>
      intro j hj
      obtain rfl : j = J := by omega
      have a := hin j hJ
      have e1 := hL _ _ a.1.1.1 a.1.2.1 a.1.2.2 (Or.inl a.1.1.2)
      unfold wpX0_farthestOfFirstWalk_6
      simp (disch := omega) only [zI_lit, zI_add, zI_sub, zI_mul, zI_neg, zI_le, zI_lt, zI_eq, zI_nat, zI_max, zI_min, zI_abs, forall_eq, Int.reduceNeg, Int.reduceAdd, Int.reduceMul, Int.reduceSub, Int.add_zero, Int.zero_add, Int.zero_mul, Int.toNat_zero, wpX0_cell]
      refine ⟨fun _ => h77, fun _ => sp_isEnd hM hD a.1.1 a.1.2 (fun _ => ⟨fun _ => h77, fun h => absurd h (by decide)⟩) (fun _ => ⟨fun h => absurd rfl h, fun _ => ?_⟩)⟩
      rw [e1, e3, hJ2, ← ht]
      exact ⟨zI_in (by omega), zI_in (by omega), fun h => absurd rfl h, fun _ => h77⟩
    | succ n ih =>
      intro j hj
      have a := hin j (by omega)
      have hne := hN1 j (by omega)
      have hlt := hJ1 j (by omega)
      have hq' := hq _ _ a.1.1.1 a.1.1.2 a.1.2.1 a.1.2.2
      have e1 := hL _ _ a.1.1.1 a.1.2.1 a.1.2.2 (Or.inl a.1.1.2)
      unfold wpX0_farthestOfFirstWalk_6
      simp (disch := omega) only [zI_lit, zI_add, zI_sub, zI_mul, zI_neg, zI_le, zI_lt, zI_eq, zI_nat, zI_max, zI_min, zI_abs, forall_eq, Int.reduceNeg, Int.reduceAdd, Int.reduceMul, Int.reduceSub, Int.add_zero, Int.zero_add, Int.zero_mul, Int.toNat_zero, wpX0_cell]
      refine ⟨fun h => absurd h (by omega), fun _ => sp_isEnd hM hD a.1.1 a.1.2 (fun h => absurd h hne) (fun _ => ⟨fun h => absurd rfl h, fun _ => ?_⟩)⟩
      rw [e1, e3, ← ht, zI_eq (by omega)]
      refine ⟨zI_in (by omega), zI_in (by omega), fun _ => ?_, fun h => absurd h (by omega)⟩
      refine sp_firstStep hM hD hq a.1.1 a.1.2 h ht ?_
      refine sp_manMoves (stp_is q M D t _ _) ?_
      simp (disch := omega) only [zI_lit, zI_add, zI_sub, zI_mul, zI_neg, zI_le, zI_lt, zI_eq, zI_nat, zI_max, zI_min, zI_abs, forall_eq, Int.reduceNeg, Int.reduceAdd, Int.reduceMul, Int.reduceSub, Int.add_zero, Int.zero_add, Int.zero_mul, Int.toNat_zero]
      refine sp_dogMoves (stp_is q M D t _ _) ?_
      simp (disch := omega) only [zI_lit, zI_add, zI_sub, zI_mul, zI_neg, zI_le, zI_lt, zI_eq, zI_nat, zI_max, zI_min, zI_abs, forall_eq, Int.reduceNeg, Int.reduceAdd, Int.reduceMul, Int.reduceSub, Int.add_zero, Int.zero_add, Int.zero_mul, Int.toNat_zero]
      exact ih (j + 1) (by omega)
  exact ⟨J + 1, key J 0 (by omega)⟩
theorem sr_bars76 {post : Int32 → (Int32 × Int32 × Int32 × (Nat → Int32) × (Nat → Int32) × (Nat → Int32) × (Nat → Int32) × (Nat → Int32)) → Prop} {fw f2 f3 f4 f5 f6 : Nat → Int32} {th : Int32} {N J : Nat} (hM : 1 ≤ M ∧ M ≤ 30) (hD : 1 ≤ D ∧ D ≤ 30) (ht : t = Bk q 2147483647 M D 0 0) (ht' : 0 ≤ t ∧ t < 2000000000)
    (hq : ∀ m d, 0 ≤ m → m < M → 0 ≤ d → d < D → Agr (q m d) (q2 m d)) (hf : Laid2 q2 D M 0 f3)
    (hN : N ≤ 58) (hN1 : ∀ i, i < N → ¬ (M - 1 ≤ (wk q M D t i).1 ∧ D - 1 ≤ (wk q M D t i).2)) (hf6 : ∀ i : Nat, i < N → f6 i = zI (stp q M D t (wk q M D t i).1 (wk q M D t i).2))
    (hJ : J ≤ N) (hJ1 : ∀ i, i < J → q (wk q M D t i).1 (wk q M D t i).2 < t) (hJ2 : q (wk q M D t J).1 (wk q M D t J).2 = t)
    (hp : post (zI (100 * (wk q M D t J).1 + (wk q M D t J).2)) (th, zI M, zI D, f2, f3, f4, f5, f6)) :
    ∀ (n j : Nat), j + n = J → wpX11_bars_76 post fw (n + 1) th (zI M) (zI D) f2 f3 f4 f5 f6 (zI t) (zI (wk q M D t j).1) (zI (wk q M D t j).2) (zI j) := by
  have hin : ∀ j : Nat, j ≤ N → _ := fun j hj => wk_in (t := t) (q := q) (by omega) hM.1 hD.1 (by omega) j (fun i hi => hN1 i (by omega))
  intro n
  induction n with
  | zero =>
    intro j hj
    obtain rfl : j = J := by omega
    have a := hin j hJ
    have e1 := hf _ _ a.1.1.1 a.1.2.1 a.1.2.2 (Or.inl a.1.1.2)
    have e2 := hq _ _ a.1.1.1 a.1.1.2 a.1.2.1 a.1.2.2
    unfold Agr at e2
    unfold wpX11_bars_76
    rw [show (30 : Int32) = zI 30 from rfl, zI_mul, zI_add, zI_nat (by omega), e1, zI_le (by omega)]
    simp (disch := omega) only [zI_lit, zI_add, zI_sub, zI_mul, zI_neg, zI_le, zI_lt, zI_eq, zI_nat, zI_max, zI_min, zI_abs, forall_eq, Int.reduceNeg, Int.reduceAdd, Int.reduceMul, Int.reduceSub, Int.add_zero, Int.zero_add, Int.zero_mul, Int.toNat_zero]
    exact ⟨zI_in (by omega), fun _ => hp, fun h => absurd h (by omega)⟩
  | succ n ih =>
    intro j hj
    have a := hin j (by omega)
    have e1 := hf _ _ a.1.1.1 a.1.2.1 a.1.2.2 (Or.inl a.1.1.2)
    have e2 := hq _ _ a.1.1.1 a.1.1.2 a.1.2.1 a.1.2.2
    have e3 := hJ1 j (by omega)
    unfold Agr at e2
    unfold wpX11_bars_76
    rw [show (30 : Int32) = zI 30 from rfl, zI_mul, zI_add, zI_nat (by omega), e1, zI_le (by omega)]
    refine ⟨zI_in (by omega), fun h => absurd h (by omega), fun _ => ⟨zI_in (by omega), ?_⟩⟩
    rw [zI_nat (by omega), Int.toNat_natCast, hf6 j (by omega)]
    refine sr_manBy (stp_is q M D t _ _) ?_
    simp (disch := omega) only [zI_lit, zI_add, zI_sub, zI_mul, zI_neg, zI_le, zI_lt, zI_eq, zI_nat, zI_max, zI_min, zI_abs, forall_eq, Int.reduceNeg, Int.reduceAdd, Int.reduceMul, Int.reduceSub, Int.add_zero, Int.zero_add, Int.zero_mul, Int.toNat_zero]
    refine ⟨zI_in (by omega), sr_dogBy (stp_is q M D t _ _) ?_⟩
    simp (disch := omega) only [zI_lit, zI_add, zI_sub, zI_mul, zI_neg, zI_le, zI_lt, zI_eq, zI_nat, zI_max, zI_min, zI_abs, forall_eq, Int.reduceNeg, Int.reduceAdd, Int.reduceMul, Int.reduceSub, Int.add_zero, Int.zero_add, Int.zero_mul, Int.toNat_zero]
    exact ih (j + 1) (by omega)
end
noncomputable def wN (q : Int → Int → Int) (M D t : Int) : Nat := Classical.epsilon (fun N : Nat => N ≤ 58 ∧ (∀ i, i < N → ¬ (M - 1 ≤ (wk q M D t i).1 ∧ D - 1 ≤ (wk q M D t i).2)) ∧ (M - 1 ≤ (wk q M D t N).1 ∧ D - 1 ≤ (wk q M D t N).2))
noncomputable def wJ (q : Int → Int → Int) (M D t : Int) : Nat := Classical.epsilon (fun J : Nat => J ≤ wN q M D t ∧ (∀ i, i < J → q (wk q M D t i).1 (wk q M D t i).2 < t) ∧ q (wk q M D t J).1 (wk q M D t J).2 = t)
theorem wN_is {q : Int → Int → Int} {M D t : Int} (ht : 0 ≤ t ∧ t < 2147483647) (hM : 1 ≤ M ∧ M ≤ 30) (hD : 1 ≤ D ∧ D ≤ 30) (h0 : Bk q 2147483647 M D 0 0 ≤ t) : wN q M D t ≤ 58 ∧ (∀ i, i < wN q M D t → ¬ (M - 1 ≤ (wk q M D t i).1 ∧ D - 1 ≤ (wk q M D t i).2)) ∧ (M - 1 ≤ (wk q M D t (wN q M D t)).1 ∧ D - 1 ≤ (wk q M D t (wN q M D t)).2) :=
  Classical.epsilon_spec (wk_ends ht hM hD h0)
theorem wJ_is {q : Int → Int → Int} {M D t : Int} (hM : 1 ≤ M ∧ M ≤ 30) (hD : 1 ≤ D ∧ D ≤ 30) (hq : ∀ m d, 0 ≤ m → m < M → 0 ≤ d → d < D → 0 ≤ q m d ∧ q m d ≤ 2147483647) (ht : t = Bk q 2147483647 M D 0 0) (ht' : 0 ≤ t ∧ t < 2147483647) :
    wJ q M D t ≤ wN q M D t ∧ (∀ i, i < wJ q M D t → q (wk q M D t i).1 (wk q M D t i).2 < t) ∧ q (wk q M D t (wJ q M D t)).1 (wk q M D t (wJ q M D t)).2 = t := by
  have n := wN_is ht' hM hD (by omega : Bk q 2147483647 M D 0 0 ≤ t)
  exact Classical.epsilon_spec (bars_ex hM hD hq ht ht' n.2.1 n.2.2)
section
variable {g : Gd} {S : Int → Int → Int → Int → Bool} {xs ys cs ws os v : Nat → Int32} {nw nl sz : Int32} {w o k : Int}
theorem sp_needWay {post : Unit → Prop} {postX : String → Unit → Prop} (hg : g.Ok) (hc : CG g xs ys cs ws nw nl) (hr : -2147483648 ≤ w ∧ w < 2147483648) (hy : g.hw w → post ()) (hn : ¬ g.hw w → postX "java/lang/IndexOutOfBoundsException" ()) : wpX10_needWay post postX nw (zI w) := by
  unfold wpX10_needWay
  exact sp_hasWay hg hc hr (fun h => ⟨fun _ => hy h, fun h' => absurd h' (by decide)⟩) (fun h => ⟨fun h' => absurd rfl h', fun _ => hn h⟩)
theorem sp_needCorner {post : Unit → Prop} {postX : String → Unit → Prop} {m : Int} (hg : g.Ok) (hc : CG g xs ys cs ws nw nl) (hr : -2147483648 ≤ w ∧ w < 2147483648) (hr' : -2147483648 ≤ m ∧ m < 2147483648) (hy : g.hc w m → post ()) (hn : ¬ g.hc w m → postX "java/lang/IndexOutOfBoundsException" ()) : wpX10_needCorner post postX nw cs (zI w) (zI m) := by
  unfold wpX10_needCorner
  exact sp_hasCorner hg hc hr hr' (fun h => ⟨fun _ => hy h, fun h' => absurd h' (by decide)⟩) (fun h => ⟨fun h' => absurd rfl h', fun _ => hn h⟩)
theorem sr_throwsIf {post : Int32 → Int32 → Prop} {th c : Int32} {b : Int32} (h0 : b = 0 → post 0 th) (h1 : b = 1 → post 1 c) (hb : b = 0 ∨ b = 1) : wpX11_throwsIf post th b c := by
  unfold wpX11_throwsIf
  rcases hb with rfl | rfl
  · exact ⟨fun _ => ⟨Or.inl rfl, h0 rfl⟩, fun h => absurd rfl h⟩
  · exact ⟨fun h => absurd h (by decide), fun _ => ⟨Or.inr rfl, h1 rfl⟩⟩
noncomputable def Gd.first (g : Gd) (S : Int → Int → Int → Int → Bool) (w o k : Int) : Int := if g.lst S w o = 2147483647 then -1 else fwA (g.pr S 2147483647 w o) (g.cn w) (g.cn o) (g.lst S w o) (wN (g.pr S 2147483647 w o) (g.cn w) (g.cn o) (g.lst S w o)) k
noncomputable def Gd.barp (g : Gd) (S : Int → Int → Int → Int → Bool) (w o : Int) : Int × Int := wk (g.pr S 2147483647 w o) (g.cn w) (g.cn o) (g.lst S w o) (wJ (g.pr S 2147483647 w o) (g.cn w) (g.cn o) (g.lst S w o))
noncomputable def Gd.bars (g : Gd) (S : Int → Int → Int → Int → Bool) (w o : Int) : Int := if g.lst S w o = 2147483647 then -1 else 100 * (g.barp S w o).1 + (g.barp S w o).2
theorem Gd.least_no (hg : g.Ok) (hw : g.hw w) (ho : g.hw o) : g.least S w o = -1 ↔ g.lst S w o = 2147483647 := by
  have := (Gd.lst_agr (S := S) hg hw ho).bd
  unfold Gd.least
  split <;> omega
theorem sp_first {post : Int32 → ((Nat → Int32) × Int32 × Int32 × (Nat → Int32) × (Nat → Int32)) → Prop} {postX : String → ((Nat → Int32) × Int32 × Int32 × (Nat → Int32) × (Nat → Int32)) → Prop} {f8 f11 f12 : Nat → Int32} {r0 c0 : Int32}
    (hg : g.Ok) (hc : CG g xs ys cs ws nw nl) (hS : SH1 g S nl xs ys ws sz os) (hw : -2147483648 ≤ w ∧ w < 2147483648) (ho : -2147483648 ≤ o ∧ o < 2147483648) (hk : -2147483648 ≤ k ∧ k < 2147483648)
    (hx : ¬ (g.hw w ∧ g.hw o) → postX "java/lang/IndexOutOfBoundsException" (f8, r0, c0, f11, f12)) (hx2 : g.hw w → g.hw o → k < -1 → postX "java/lang/IllegalArgumentException" (f8, r0, c0, f11, f12))
    (hp : g.hw w → g.hw o → -1 ≤ k → ∀ z, post (zI (g.first S w o k)) z) : wpX10_first post postX nw nl cs xs ys ws sz os f8 r0 c0 f11 f12 (zI w) (zI o) (zI k) := by
  unfold wpX10_first
  refine sp_needWay hg hc hw (fun h1 => ?_) (fun h => hx (fun h' => h h'.1))
  refine sp_needWay hg hc ho (fun h2 => ?_) (fun h => hx (fun h' => h h'.2))
  simp (disch := omega) only [zI_lit, zI_add, zI_sub, zI_mul, zI_neg, zI_le, zI_lt, zI_eq, zI_nat, zI_max, zI_min, zI_abs, forall_eq, Int.reduceNeg, Int.reduceAdd, Int.reduceMul, Int.reduceSub, Int.add_zero, Int.zero_add, Int.zero_mul, Int.toNat_zero]
  refine ⟨fun h3 => ?_, fun h3 => hx2 h1 h2 (by omega)⟩
  have e1 := hg.cn w h1.1 h1.2
  have e2 := hg.cn o h2.1 h2.2
  have ag := Gd.lst_agr (S := S) hg h1 h2
  have no := Gd.least_no (S := S) hg h1 h2
  refine sp_shortest hg hc hS h1 h2 (fun fp fb sn hL hB => ?_)
  have hp' := hp h1 h2 h3
  unfold Gd.first at hp'
  have bd : -1 ≤ g.least S w o ∧ g.least S w o < 2147483648 := by
    have := ag.bd
    unfold Gd.least
    split <;> omega
  simp (disch := omega) only [zI_lit, zI_add, zI_sub, zI_mul, zI_neg, zI_le, zI_lt, zI_eq, zI_nat, zI_max, zI_min, zI_abs, forall_eq, Int.reduceNeg, Int.reduceAdd, Int.reduceMul, Int.reduceSub, Int.add_zero, Int.zero_add, Int.zero_mul, Int.toNat_zero]
  refine ⟨fun h => ?_, fun h => ?_⟩
  · have hl : g.lst S w o ≠ 2147483647 := fun h' => h (no.2 h')
    rw [if_neg hl] at hp'
    have ht : 0 ≤ g.lst S w o ∧ g.lst S w o < 2147483647 := by have := ag.bd; omega
    have n := wN_is (q := g.pr S 2147483647 w o) (M := g.cn w) (D := g.cn o) ht (by omega) (by omega) (Int.le_refl _)
    exact sp_firstWalk (by omega) (by omega) (Gd.pr_bd hg (by omega) h1 h2) hB rfl ht (by omega) n.1 n.2.1 n.2.2 (hp' _)
  · rw [if_pos (no.1 h)] at hp'
    exact hp' _
theorem sp_bars {post : Int32 → ((Nat → Int32) × Int32 × Int32 × (Nat → Int32) × (Nat → Int32)) → Prop} {postX : String → ((Nat → Int32) × Int32 × Int32 × (Nat → Int32) × (Nat → Int32)) → Prop} {f8 f11 f12 : Nat → Int32} {r0 c0 : Int32}
    (hg : g.Ok) (hc : CG g xs ys cs ws nw nl) (hS : SH1 g S nl xs ys ws sz os) (hw : -2147483648 ≤ w ∧ w < 2147483648) (ho : -2147483648 ≤ o ∧ o < 2147483648)
    (hx : ¬ (g.hw w ∧ g.hw o) → postX "java/lang/IndexOutOfBoundsException" (f8, r0, c0, f11, f12))
    (hp : g.hw w → g.hw o → ∀ z, post (zI (g.bars S w o)) z) : wpX10_bars post postX nw nl cs xs ys ws sz os f8 r0 c0 f11 f12 (zI w) (zI o) := by
  unfold wpX10_bars
  refine sp_needWay hg hc hw (fun h1 => ?_) (fun h => hx (fun h' => h h'.1))
  refine sp_needWay hg hc ho (fun h2 => ?_) (fun h => hx (fun h' => h h'.2))
  have e1 := hg.cn w h1.1 h1.2
  have e2 := hg.cn o h2.1 h2.2
  have ag := Gd.lst_agr (S := S) hg h1 h2
  have no := Gd.least_no (S := S) hg h1 h2
  refine sp_shortest hg hc hS h1 h2 (fun fp fb sn hL hB => ?_)
  have hp' := hp h1 h2
  unfold Gd.bars Gd.barp at hp'
  have bd : -1 ≤ g.least S w o ∧ g.least S w o < 2147483648 := by
    have := ag.bd
    unfold Gd.least
    split <;> omega
  simp (disch := omega) only [zI_lit, zI_add, zI_sub, zI_mul, zI_neg, zI_le, zI_lt, zI_eq, zI_nat, zI_max, zI_min, zI_abs, forall_eq, Int.reduceNeg, Int.reduceAdd, Int.reduceMul, Int.reduceSub, Int.add_zero, Int.zero_add, Int.zero_mul, Int.toNat_zero]
  refine ⟨fun h => ?_, fun h => ?_⟩
  · have hl : g.lst S w o ≠ 2147483647 := fun h' => h (no.2 h')
    rw [if_neg hl] at hp'
    have ht : 0 ≤ g.lst S w o ∧ g.lst S w o < 2147483647 := by have := ag.bd; omega
    have n := wN_is (q := g.pr S 2147483647 w o) (M := g.cn w) (D := g.cn o) ht (by omega) (by omega) (Int.le_refl _)
    have j := wJ_is (q := g.pr S 2147483647 w o) (M := g.cn w) (D := g.cn o) (by omega) (by omega) (Gd.pr_bd hg (by omega) h1 h2) rfl ht
    exact sp_farthest (by omega) (by omega) (Gd.pr_bd hg (by omega) h1 h2) hB hL rfl ht n.1 n.2.1 n.2.2 j.1 j.2.1 j.2.2 (hp' _)
  · rw [if_pos (no.1 h)] at hp'
    exact hp' _
theorem sr_firstWalk {post : Int32 → (Int32 × Int32 × (Nat → Int32) × (Nat → Int32) × (Nat → Int32) × (Nat → Int32) × (Nat → Int32)) → Prop} {m0 d0 : Int32} {f2 f3 f4 f5 f6 : Nat → Int32}
    (hg : g.Ok) (hv : WG g v) (hS : SH2 g S v) (h1 : g.hw w) (h2 : g.hw o)
    (hn : g.lst S w o = 2147483647 → ∀ z, post (-1) z)
    (hp : g.lst S w o < 2000000000 → ∀ f2 f3 f4 f5 f6, Laid2 (g.pr S 2000000000 w o) (g.cn o) (g.cn w) 0 f3 → Laid2 (Fw (g.pr S 2000000000 w o) 2000000000) (g.cn o) (g.cn w) 0 f4 → (∀ i : Nat, i < wN (g.pr S 2147483647 w o) (g.cn w) (g.cn o) (g.lst S w o) → f6 i = zI (stp (g.pr S 2147483647 w o) (g.cn w) (g.cn o) (g.lst S w o) (wk (g.pr S 2147483647 w o) (g.cn w) (g.cn o) (g.lst S w o) i).1 (wk (g.pr S 2147483647 w o) (g.cn w) (g.cn o) (g.lst S w o) i).2)) → post (zI (wN (g.pr S 2147483647 w o) (g.cn w) (g.cn o) (g.lst S w o))) (zI (g.cn w), zI (g.cn o), f2, f3, f4, f5, f6)) :
    wpX11_firstWalk post v m0 d0 f2 f3 f4 f5 f6 (zI w) (zI o) := by
  have e1 := hg.cn w h1.1 h1.2
  have e2 := hg.cn o h2.1 h2.2
  have ag := Gd.lst_agr (S := S) hg h1 h2
  have ag' := ag
  unfold Agr at ag'
  unfold wpX11_firstWalk
  refine sr_leastOf hg hv hS h1 h2 (fun sn ff fl hL hl => ?_)
  rw [show (2000000000 : Int32) = zI 2000000000 from rfl, zI_eq (by omega)]
  refine ⟨fun h => ?_, fun h => hn (by omega) _⟩
  have ht : 0 ≤ g.lst S w o ∧ g.lst S w o < 2147483647 := by omega
  have n := wN_is (q := g.pr S 2147483647 w o) (M := g.cn w) (D := g.cn o) ht (by omega) (by omega) (Int.le_refl _)
  rw [show g.lst2 S w o = g.lst S w o by omega]
  simp (disch := omega) only [zI_lit, zI_add, zI_sub, zI_mul, zI_neg, zI_le, zI_lt, zI_eq, zI_nat, zI_max, zI_min, zI_abs, forall_eq, Int.reduceNeg, Int.reduceAdd, Int.reduceMul, Int.reduceSub, Int.add_zero, Int.zero_add, Int.zero_mul, Int.toNat_zero]
  refine ⟨(g.cn w).toNat + 1, sr_fw24 (q := g.pr S 2147483647 w o) (by omega) (by omega) ht (fun m d a b c e => ?_) hL (Int.le_refl _) n.1 n.2.1 n.2.2 (fun f5 f6 hf => hp (by omega) _ _ _ _ _ hL hl hf) (g.cn w).toNat (g.cn w - 1) f5 (by omega) (by omega) (fun m' d' c1 c2 c3 c4 c5 => by omega)⟩
  have := pr_agr (S := S) hg (w := w) (o := o) (m := m) (d := d) ⟨h1, a, b⟩ ⟨h2, c, e⟩
  unfold Agr at this
  omega
end
