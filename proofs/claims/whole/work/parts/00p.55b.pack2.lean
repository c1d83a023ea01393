section
variable {g : Gd} {S : Int → Int → Int → Int → Bool} {xs ys cs ws os v : Nat → Int32} {nw nl sz : Int32} {w e o m : Int} {x : Int32}
theorem q3_bd (hg : g.Ok) (hw : g.hw w) (he : g.hw e) (ho : g.hw o) : ∀ m a b, 0 ≤ m → m < g.cn w → 0 ≤ a → a < g.cn e → 0 ≤ b → b < g.cn o → 0 ≤ g.q3 S 2147483647 x w e o m a b ∧ g.q3 S 2147483647 x w e o m a b ≤ 2147483647 := fun m a b c1 c2 c3 c4 c5 c6 => (q3_agr hg hw he ho m a b c1 c2 c3 c4 c5 c6).bd.1
theorem q3_bd2 (hg : g.Ok) (hw : g.hw w) (he : g.hw e) (ho : g.hw o) : ∀ m a b, 0 ≤ m → m < g.cn w → 0 ≤ a → a < g.cn e → 0 ≤ b → b < g.cn o → 0 ≤ g.q3 S 2000000000 x w e o m a b ∧ g.q3 S 2000000000 x w e o m a b ≤ 2000000000 := fun m a b c1 c2 c3 c4 c5 c6 => (q3_agr hg hw he ho m a b c1 c2 c3 c4 c5 c6).bd.2
noncomputable def Gd.l3 (g : Gd) (S : Int → Int → Int → Int → Bool) (x : Int32) (w e o : Int) : Int := F3 (g.q3 S 2147483647 x w e o) 2147483647 (g.cn w - 1) (g.cn e - 1) (g.cn o - 1)
noncomputable def Gd.l32 (g : Gd) (S : Int → Int → Int → Int → Bool) (x : Int32) (w e o : Int) : Int := F3 (g.q3 S 2000000000 x w e o) 2000000000 (g.cn w - 1) (g.cn e - 1) (g.cn o - 1)
theorem l3_agr (hg : g.Ok) (hw : g.hw w) (he : g.hw e) (ho : g.hw o) : Agr (g.l3 S x w e o) (g.l32 S x w e o) := F3_agr (M := g.cn w) (A := g.cn e) (B := g.cn o) (q3_agr hg hw he ho) _ _ _ _ rfl (by omega) (by omega) (by omega)
theorem l3_fin (hg : g.Ok) (hx : x ≠ 0) (hw : g.hw w) (he : g.hw e) (ho : g.hw o) : g.l3 S x w e o ≤ 1996002 := by
  have e1 := hg.cn w hw.1 hw.2
  have e2 := hg.cn e he.1 he.2
  have e3 := hg.cn o ho.1 ho.2
  refine F3_fin (M := g.cn w) (A := g.cn e) (B := g.cn o) (by omega) (fun m a b c1 c2 c3 c4 c5 c6 => ?_) _ _ _ _ rfl (by omega) (by omega) (by omega) (by omega) (by omega) (by omega)
  have f1 := Gd.far_le hg (w := e) (m := a) (o := o) (d := b) ⟨he, c3, c4⟩ ⟨ho, c5, c6⟩
  have f2 := Gd.far_le hg (w := w) (m := m) (o := e) (d := a) ⟨hw, c1, c2⟩ ⟨he, c3, c4⟩
  have f3 := Gd.far_le hg (w := w) (m := m) (o := o) (d := b) ⟨hw, c1, c2⟩ ⟨ho, c5, c6⟩
  unfold Gd.q3 Gd.dq
  rw [if_neg hx, if_neg (fun h => hx h.1), if_neg (fun h => hx h.1)]
  omega
theorem lay_price {i j : Int} {f1 f2 f3 : Nat → Int32} (hg : g.Ok) (hm : g.hc w m) (he : g.hc e i) (ho : g.hc o j) (h1 : Btw g x e o (g.cn e) 0 f1) (h2 : f2 i.toNat = zI (g.dq S 2147483647 x w m e i)) (h3 : f3 j.toNat = zI (g.dq S 2147483647 x w m o j)) : iMax (f1 (i * 30 + j).toNat) (iMax (f2 i.toNat) (f3 j.toNat)) = zI (g.q3 S 2147483647 x w e o m i j) := by
  have f1' := Gd.far_le hg he ho
  have d1 := (dq_agr (S := S) (x := x) hg hm he).bd.1
  have d2 := (dq_agr (S := S) (x := x) hg hm ho).bd.1
  rw [h1 i j he.2.1 ho.2.1 ho.2.2 (Or.inl he.2.2), h2, h3, zI_max (by omega), zI_max (by split <;> omega)]
  rfl
theorem sp_pack78 {post : Int32 → (Int32 × Int32 × (Nat → Int32) × (Nat → Int32) × (Nat → Int32) × (Nat → Int32) × (Nat → Int32) × (Nat → Int32)) → Prop} {fb : Nat → Int32} (hg : g.Ok) (hc : CG g xs ys cs ws nw nl) (hS : SH1 g S nl xs ys ws sz os) (hw : g.hw w) (he : g.hw e) (ho : g.hw o) (hbt : Btw g x e o (g.cn e) 0 fb)
    (hp : ∀ z, post (zI (g.l3 S x w e o)) z) :
    ∀ (n : Nat) (m : Int) (f2 f3 f4 f5 sn : Nat → Int32), 0 ≤ m → m ≤ g.cn w → g.cn w ≤ m + 2 * n → Bef (g.q3 S 2147483647 x w e o) (g.cn e) (g.cn o) m f3 → (m = 0 → 0 < g.cn w) →
      (∀ i j, -1 ≤ i → i < g.cn e → -1 ≤ j → j < g.cn o → (i = -1 ∨ j = -1) → f2 ((i + 1) * 31 + j + 1).toNat = zI 2147483647) →
      wpX4_leastLead_78 post nl cs xs ys ws sz os (n + 1) (zI (g.cn e)) (zI (g.cn o)) fb f2 f3 f4 f5 sn (zI w) (zI e) (zI o) x (zI m) := by
  have e0 := hg.nw
  have e1 := hg.cn w hw.1 hw.2
  have e2 := hg.cn e he.1 he.2
  have e3 := hg.cn o ho.1 ho.2
  have hw' := hw
  unfold Gd.hw at hw'
  have last : ∀ (m : Int) (f : Nat → Int32), m = g.cn w → 0 < m → Bef (g.q3 S 2147483647 x w e o) (g.cn e) (g.cn o) m f → f (g.cn e * 31 + g.cn o).toNat = zI (g.l3 S x w e o) := by
    intro m f h h0 hB
    have := hB (g.cn e - 1) (g.cn o - 1) (by omega) (by omega) (by omega) (by omega)
    rw [if_neg (by omega), Int.sub_add_cancel, show g.cn e * 31 + (g.cn o - 1) + 1 = g.cn e * 31 + g.cn o by omega, h] at this
    exact this
  have edge : ∀ (m : Int) (f : Nat → Int32), 0 ≤ m → Bef (g.q3 S 2147483647 x w e o) (g.cn e) (g.cn o) m f → ∀ i j, -1 ≤ i → i < g.cn e → -1 ≤ j → j < g.cn o → (i = -1 ∨ j = -1) → (upd f 0 (zI 2147483647)) ((i + 1) * 31 + j + 1).toNat = zI 2147483647 := by
    intro m f h0 hB i j c1 c2 c3 c4 c5
    rw [upd_eq]
    split
    · rfl
    · rw [hB i j c1 c2 c3 c4, if_neg (by omega), F3_out (by omega)]
  intro n
  induction n with
  | zero =>
    intro m f2 f3 f4 f5 sn h0 h1 h2 hB hz hN
    unfold wpX4_leastLead_78
    simp (disch := omega) only [zI_lit, zI_add, zI_sub, zI_mul, zI_neg, zI_le, zI_lt, zI_eq, zI_nat, zI_max, zI_min, zI_abs, forall_eq, Int.reduceNeg, Int.reduceAdd, Int.reduceMul, Int.reduceSub, Int.add_zero, Int.zero_add, Int.zero_mul, Int.toNat_zero]
    rw [hc.cs w hw.1 hw.2]
    simp (disch := omega) only [zI_lit, zI_add, zI_sub, zI_mul, zI_neg, zI_le, zI_lt, zI_eq, zI_nat, zI_max, zI_min, zI_abs, forall_eq, Int.reduceNeg, Int.reduceAdd, Int.reduceMul, Int.reduceSub, Int.add_zero, Int.zero_add, Int.zero_mul, Int.toNat_zero]
    rw [last m f3 (by omega) (by omega) hB]
    exact ⟨zI_in (by omega), fun _ => ⟨zI_in (by omega), hp _⟩, fun h => absurd h (by omega)⟩
  | succ n ih =>
    intro m f2 f3 f4 f5 sn h0 h1 h2 hB hz hN
    unfold wpX4_leastLead_78
    simp (disch := omega) only [zI_lit, zI_add, zI_sub, zI_mul, zI_neg, zI_le, zI_lt, zI_eq, zI_nat, zI_max, zI_min, zI_abs, forall_eq, Int.reduceNeg, Int.reduceAdd, Int.reduceMul, Int.reduceSub, Int.add_zero, Int.zero_add, Int.zero_mul, Int.toNat_zero]
    rw [hc.cs w hw.1 hw.2]
    simp (disch := omega) only [zI_lit, zI_add, zI_sub, zI_mul, zI_neg, zI_le, zI_lt, zI_eq, zI_nat, zI_max, zI_min, zI_abs, forall_eq, Int.reduceNeg, Int.reduceAdd, Int.reduceMul, Int.reduceSub, Int.add_zero, Int.zero_add, Int.zero_mul, Int.toNat_zero]
    refine ⟨zI_in (by omega), fun h => ?_, fun h => ?_⟩
    · rw [last m f3 (by omega) (by omega) hB]
      exact ⟨zI_in (by omega), hp _⟩
    · have hm : g.hc w m := ⟨hw, h0, by omega⟩
      refine sp_measure hg hc hS hm he (fun sn1 t1 ht1 => ?_)
      refine sp_measure hg hc hS hm ho (fun sn2 t2 ht2 => ?_)
      refine sp_layer (M := g.cn w) e2 e3 hm.2 (q3_bd hg hw he ho) (fun i j c1 c2 c3 c4 => lay_price hg hm ⟨he, c1, c2⟩ ⟨ho, c3, c4⟩ hbt (ht1 i c1 c2) (ht2 j c3 c4)) hB hN (fun u3 hB3 => ?_)
      refine ⟨zI_in (by omega), zI_in (by omega), fun h' => ?_, fun h' => ?_⟩
      · rw [last (m + 1) u3 (by omega) (by omega) hB3]
        exact ⟨zI_in (by omega), hp _⟩
      · have hm2 : g.hc w (m + 1) := ⟨hw, by omega, by omega⟩
        refine sp_measure hg hc hS hm2 he (fun sn5 t5 ht5 => ?_)
        refine sp_measure hg hc hS hm2 ho (fun sn6 t6 ht6 => ?_)
        refine sp_layer (M := g.cn w) e2 e3 hm2.2 (q3_bd hg hw he ho) (fun i j c1 c2 c3 c4 => lay_price hg hm2 ⟨he, c1, c2⟩ ⟨ho, c3, c4⟩ hbt (ht5 i c1 c2) (ht6 j c3 c4)) hB3 (edge m f3 h0 hB) (fun u7 hB7 => ?_)
        refine ⟨zI_in (by omega), ?_⟩
        exact ih (m + 1 + 1) _ u7 _ _ _ (by omega) (by omega) (by omega) hB7 (by omega) (edge (m + 1) u3 (by omega) hB3)
theorem sp_pack {post : Int32 → (Int32 × Int32 × (Nat → Int32) × (Nat → Int32) × (Nat → Int32) × (Nat → Int32) × (Nat → Int32) × (Nat → Int32)) → Prop} {r0 c0 : Int32} {f1 f2 f3 f4 f5 sn : Nat → Int32} (hg : g.Ok) (hc : CG g xs ys cs ws nw nl) (hS : SH1 g S nl xs ys ws sz os) (hw : g.hw w) (he : g.hw e) (ho : g.hw o)
    (hp : ∀ z, post (zI (g.l3 S x w e o)) z) : wpX4_leastLead post nl cs xs ys ws sz os r0 c0 f1 f2 f3 f4 f5 sn (zI w) (zI e) (zI o) x := by
  have e0 := hg.nw
  have e1 := hg.cn w hw.1 hw.2
  have e2 := hg.cn e he.1 he.2
  have e3 := hg.cn o ho.1 ho.2
  have he' := he
  have ho' := ho
  unfold Gd.hw at he' ho'
  unfold wpX4_leastLead
  simp (disch := omega) only [zI_lit, zI_add, zI_sub, zI_mul, zI_neg, zI_le, zI_lt, zI_eq, zI_nat, zI_max, zI_min, zI_abs, forall_eq, Int.reduceNeg, Int.reduceAdd, Int.reduceMul, Int.reduceSub, Int.add_zero, Int.zero_add, Int.zero_mul, Int.toNat_zero]
  rw [hc.cs e he.1 he.2, hc.cs o ho.1 ho.2]
  refine ⟨zI_in (by omega), zI_in (by omega), ?_⟩
  refine sp_between hg hc he ho (fun fb hbt => ?_)
  refine sp_fill (by omega) (fun u4 h4 => ?_)
  refine sp_fill (by omega) (fun u5 h5 => ?_)
  refine ⟨zI_in (by omega), (g.cn w).toNat + 1, ?_⟩
  refine sp_pack78 hg hc hS hw he ho hbt hp _ 0 _ _ _ _ _ (by omega) (by omega) (by omega) (fun i j c1 c2 c3 c4 => ?_) (by omega) (fun i j c1 c2 c3 c4 c5 => h4 _ (by omega))
  rw [upd_eq]
  by_cases z : i = -1 ∧ j = -1
  · rw [if_pos (by omega), if_pos ⟨rfl, z⟩]
  · rw [if_neg (by omega), if_neg (fun h => z h.2), F3_out (by omega)]
    exact h5 _ (by omega)
theorem sp_dogs {post : Int32 → ((Nat → Int32) × Int32 × Int32 × (Nat → Int32) × (Nat → Int32) × (Nat → Int32) × (Nat → Int32) × (Nat → Int32)) → Prop} {postX : String → ((Nat → Int32) × Int32 × Int32 × (Nat → Int32) × (Nat → Int32) × (Nat → Int32) × (Nat → Int32) × (Nat → Int32)) → Prop} {f8 f11 f12 f13 f14 f15 : Nat → Int32} {r0 c0 : Int32} (hg : g.Ok) (hc : CG g xs ys cs ws nw nl) (hS : SH1 g S nl xs ys ws sz os) (hw : -2147483648 ≤ w ∧ w < 2147483648) (he : -2147483648 ≤ e ∧ e < 2147483648) (ho : -2147483648 ≤ o ∧ o < 2147483648)
    (hx : ¬ (g.hw w ∧ g.hw e ∧ g.hw o) → postX "java/lang/IndexOutOfBoundsException" (f8, r0, c0, f11, f12, f13, f14, f15))
    (hp : g.hw w → g.hw e → g.hw o → ∀ z, post (zI (if g.l3 S 0 w e o = 2147483647 then -1 else g.l3 S 0 w e o)) z) : wpX10_dogs post postX nw nl cs xs ys ws sz os f8 r0 c0 f11 f12 f13 f14 f15 (zI w) (zI e) (zI o) := by
  unfold wpX10_dogs
  refine sp_needWay hg hc hw (fun h1 => ?_) (fun h => hx (fun h' => h h'.1))
  refine sp_needWay hg hc he (fun h2 => ?_) (fun h => hx (fun h' => h h'.2.1))
  refine sp_needWay hg hc ho (fun h3 => ?_) (fun h => hx (fun h' => h h'.2.2))
  refine sp_pack hg hc hS h1 h2 h3 (fun z => ?_)
  exact sp_orNone (l3_agr hg h1 h2 h3).bd.1 (hp h1 h2 h3 _)
theorem sp_three {post : Int32 → ((Nat → Int32) × Int32 × Int32 × (Nat → Int32) × (Nat → Int32) × (Nat → Int32) × (Nat → Int32) × (Nat → Int32)) → Prop} {postX : String → ((Nat → Int32) × Int32 × Int32 × (Nat → Int32) × (Nat → Int32) × (Nat → Int32) × (Nat → Int32) × (Nat → Int32)) → Prop} {f8 f11 f12 f13 f14 f15 : Nat → Int32} {r0 c0 : Int32} (hg : g.Ok) (hc : CG g xs ys cs ws nw nl) (hS : SH1 g S nl xs ys ws sz os) (hw : -2147483648 ≤ w ∧ w < 2147483648) (he : -2147483648 ≤ e ∧ e < 2147483648) (ho : -2147483648 ≤ o ∧ o < 2147483648)
    (hx : ¬ (g.hw w ∧ g.hw e ∧ g.hw o) → postX "java/lang/IndexOutOfBoundsException" (f8, r0, c0, f11, f12, f13, f14, f15))
    (hp : g.hw w → g.hw e → g.hw o → ∀ z, post (zI (g.l3 S 1 w e o)) z) : wpX10_three post postX nw nl cs xs ys ws sz os f8 r0 c0 f11 f12 f13 f14 f15 (zI w) (zI e) (zI o) := by
  unfold wpX10_three
  refine sp_needWay hg hc hw (fun h1 => ?_) (fun h => hx (fun h' => h h'.1))
  refine sp_needWay hg hc he (fun h2 => ?_) (fun h => hx (fun h' => h h'.2.1))
  refine sp_needWay hg hc ho (fun h3 => ?_) (fun h => hx (fun h' => h h'.2.2))
  refine sp_pack hg hc hS h1 h2 h3 (fun z => ?_)
  have fin := l3_fin (S := S) (x := 1) hg (by decide) h1 h2 h3
  refine sp_orNone (l3_agr hg h1 h2 h3).bd.1 ?_
  rw [if_neg (by omega)]
  exact hp h1 h2 h3 _
def T3 (q : Int → Int → Int → Int) (A B m a b : Int) (f : Nat → Int32) : Prop := ∀ m' a' b', 0 ≤ m' → 0 ≤ a' → a' < A → 0 ≤ b' → b' < B → (m' < m ∨ m' = m ∧ (a' < a ∨ a' = a ∧ b' < b)) → f (30 * (30 * m' + a') + b').toNat = zI (F3 q 2000000000 m' a' b')
theorem sr_leadsAt {q : Int → Int → Int → Int} {post : Int32 → Unit → Prop} {M A B a b m' a' b' : Int} {f : Nat → Int32} (hM : M ≤ 30) (hA : A ≤ 30) (hB : B ≤ 30) (h : T3 q A B m a b f) (h1 : -1 ≤ m' ∧ m' < M) (h2 : -1 ≤ a' ∧ a' < A) (h3 : -1 ≤ b' ∧ b' < B)
    (hl : 0 ≤ m' → 0 ≤ a' → 0 ≤ b' → m' < m ∨ m' = m ∧ (a' < a ∨ a' = a ∧ b' < b)) (hp : post (zI (F3 q 2000000000 m' a' b')) ()) : wpX11_leadsAt post f (zI m') (zI a') (zI b') := by
  unfold wpX11_leadsAt
  simp (disch := omega) only [zI_lit, zI_add, zI_sub, zI_mul, zI_neg, zI_le, zI_lt, zI_eq, zI_nat, zI_max, zI_min, zI_abs, forall_eq, Int.reduceNeg, Int.reduceAdd, Int.reduceMul, Int.reduceSub, Int.add_zero, Int.zero_add, Int.zero_mul, Int.toNat_zero]
  refine ⟨fun k1 => ?_, fun k1 => ⟨fun k2 => ?_, fun k2 => ⟨fun k3 => ⟨zI_in (by omega), ?_⟩, fun k3 => ?_⟩⟩⟩
  · rwa [F3_out (by omega)] at hp
  · rwa [F3_out (by omega)] at hp
  · rwa [h m' a' b' (by omega) (by omega) (by omega) k3 (by omega) (hl (by omega) (by omega) k3)]
  · rwa [F3_out (by omega)] at hp
theorem sr_three180 {q : Int → Int → Int → Int} {k72 : Int32 → Int32 → (Nat → Int32) → (Nat → Int32) → (Nat → Int32) → (Nat → Int32) → Int32 → Int32 → Int32 → Int32 → Int32 → Int32 → Int32 → Prop} {k59 : Int32 → Int32 → (Nat → Int32) → (Nat → Int32) → (Nat → Int32) → (Nat → Int32) → Int32 → Int32 → Int32 → Int32 → Int32 → Int32 → Prop} {k46 : Int32 → Int32 → (Nat → Int32) → (Nat → Int32) → (Nat → Int32) → (Nat → Int32) → Int32 → Int32 → Int32 → Int32 → Int32 → Prop} {post : Int32 → (Int32 × Int32 × (Nat → Int32) × (Nat → Int32) × (Nat → Int32) × (Nat → Int32)) → Prop} {M A B a b i s : Int} {m0 d0 : Int32} {f2 f3 f4 f5 : Nat → Int32}
    (hM : M ≤ 30) (hA : A ≤ 30) (hB : B ≤ 30) (hm : 0 ≤ m ∧ m < M) (ha : 0 ≤ a ∧ a < A) (hb : 0 ≤ b ∧ b < B)
    (hq : ∀ m a b, 0 ≤ m → m < M → 0 ≤ a → a < A → 0 ≤ b → b < B → 0 ≤ q m a b ∧ q m a b ≤ 2000000000) (hT : T3 q A B m a b f5)
    (hi : i = q m a b) (hs : s = if m + a + b = 0 then 0 else 2000000000)
    (hk : ∀ f, T3 q A B m a (b + 1) f → k72 m0 d0 f2 f3 f4 f (zI w) (zI e) (zI o) x (zI m) (zI a) (zI (b + 1))) :
    wpX11_leastOfThree_175 k72 k59 k46 post v m0 d0 f2 f3 f4 f5 (zI w) (zI e) (zI o) x (zI m) (zI a) (zI b) (zI i) (zI s) := by
  have hq' := hq m a b hm.1 hm.2 ha.1 ha.2 hb.1 hb.2
  have k1 := F3_bd (F := 2000000000) (by omega) hq _ (m - 1) a b rfl (by omega) (by omega) (by omega)
  have k2 := F3_bd (F := 2000000000) (by omega) hq _ m (a - 1) b rfl (by omega) (by omega) (by omega)
  have k3 := F3_bd (F := 2000000000) (by omega) hq _ (m - 1) (a - 1) b rfl (by omega) (by omega) (by omega)
  have k4 := F3_bd (F := 2000000000) (by omega) hq _ m a (b - 1) rfl (by omega) (by omega) (by omega)
  have k5 := F3_bd (F := 2000000000) (by omega) hq _ (m - 1) a (b - 1) rfl (by omega) (by omega) (by omega)
  have k6 := F3_bd (F := 2000000000) (by omega) hq _ m (a - 1) (b - 1) rfl (by omega) (by omega) (by omega)
  have k7 := F3_bd (F := 2000000000) (by omega) hq _ (m - 1) (a - 1) (b - 1) rfl (by omega) (by omega) (by omega)
  have fin := F3_in (q := q) (F := 2000000000) (m := m) (a := a) (b := b) (by omega)
  have hs' : 0 ≤ s ∧ s ≤ 2000000000 := by rw [hs]; split <;> omega
  have one : ∀ (n : Nat) (y : Int) (k c1 c2 c3 : Int) (l1 l2 l3 : Int32), l1 = zI c1 → l2 = zI c2 → l3 = zI c3 → k + 1 ≤ 8 → 0 ≤ k → 0 ≤ y ∧ y ≤ 2000000000 → (0 ≤ c1 ∧ c1 ≤ 1) → (0 ≤ c2 ∧ c2 ≤ 1) → (0 ≤ c3 ∧ c3 ≤ 1) → 1 ≤ c1 + c2 + c3 →
      (zI k &&& 1 = l1) → ((zI k >>> ((1 : Int32) &&& 31)) &&& 1 = l2) → (zI k >>> ((2 : Int32) &&& 31) = l3) →
      ((0 ≤ min y (F3 q 2000000000 (m - c1) (a - c2) (b - c3)) ∧ min y (F3 q 2000000000 (m - c1) (a - c2) (b - c3)) ≤ 2000000000) → wpX11_leastOfThree_180 k72 k59 k46 post v n m0 d0 f2 f3 f4 f5 (zI w) (zI e) (zI o) x (zI m) (zI a) (zI b) (zI i) (zI (min y (F3 q 2000000000 (m - c1) (a - c2) (b - c3)))) (zI (k + 1))) →
      wpX11_leastOfThree_180 k72 k59 k46 post v (n + 1) m0 d0 f2 f3 f4 f5 (zI w) (zI e) (zI o) x (zI m) (zI a) (zI b) (zI i) (zI y) (zI k) := by
    intro n y k c1 c2 c3 l1 l2 l3 z1 z2 z3 hk8 hk0 hy h1 h2 h3 h4 t1 t2 t3 hgo
    have kb := F3_bd (F := 2000000000) (by omega) hq _ (m - c1) (a - c2) (b - c3) rfl (by omega) (by omega) (by omega)
    unfold wpX11_leastOfThree_180
    rw [t1, t2, t3, z1, z2, z3]
    simp (disch := omega) only [zI_lit, zI_add, zI_sub, zI_mul, zI_neg, zI_le, zI_lt, zI_eq, zI_nat, zI_max, zI_min, zI_abs, forall_eq, Int.reduceNeg, Int.reduceAdd, Int.reduceMul, Int.reduceSub, Int.add_zero, Int.zero_add, Int.zero_mul, Int.toNat_zero]
    refine ⟨fun h => absurd h (by omega), fun _ => ?_⟩
    refine sr_leadsAt hM hA hB hT (by omega) (by omega) (by omega) (by omega) ?_
    simp (disch := omega) only [zI_lit, zI_add, zI_sub, zI_mul, zI_neg, zI_le, zI_lt, zI_eq, zI_nat, zI_max, zI_min, zI_abs, forall_eq, Int.reduceNeg, Int.reduceAdd, Int.reduceMul, Int.reduceSub, Int.add_zero, Int.zero_add, Int.zero_mul, Int.toNat_zero]
    exact hgo (by omega)
  refine ⟨8, ?_⟩
  refine one 7 s 1 1 0 0 1 0 0 rfl rfl rfl (by omega) (by omega) hs' (by omega) (by omega) (by omega) (by omega) (by decide) (by decide) (by decide) (fun hb7 => ?_)
  refine one 6 _ 2 0 1 0 0 1 0 rfl rfl rfl (by omega) (by omega) hb7 (by omega) (by omega) (by omega) (by omega) (by decide) (by decide) (by decide) (fun hb6 => ?_)
  refine one 5 _ 3 1 1 0 1 1 0 rfl rfl rfl (by omega) (by omega) hb6 (by omega) (by omega) (by omega) (by omega) (by decide) (by decide) (by decide) (fun hb5 => ?_)
  refine one 4 _ 4 0 0 1 0 0 1 rfl rfl rfl (by omega) (by omega) hb5 (by omega) (by omega) (by omega) (by omega) (by decide) (by decide) (by decide) (fun hb4 => ?_)
  refine one 3 _ 5 1 0 1 1 0 1 rfl rfl rfl (by omega) (by omega) hb4 (by omega) (by omega) (by omega) (by omega) (by decide) (by decide) (by decide) (fun hb3 => ?_)
  refine one 2 _ 6 0 1 1 0 1 1 rfl rfl rfl (by omega) (by omega) hb3 (by omega) (by omega) (by omega) (by omega) (by decide) (by decide) (by decide) (fun hb2 => ?_)
  refine one 1 _ 7 1 1 1 1 1 1 rfl rfl rfl (by omega) (by omega) hb2 (by omega) (by omega) (by omega) (by omega) (by decide) (by decide) (by decide) (fun hb1 => ?_)
  simp only [Int.sub_zero] at hb1 ⊢
  unfold wpX11_leastOfThree_180
  simp (disch := omega) only [zI_lit, zI_add, zI_sub, zI_mul, zI_neg, zI_le, zI_lt, zI_eq, zI_nat, zI_max, zI_min, zI_abs, forall_eq, Int.reduceNeg, Int.reduceAdd, Int.reduceMul, Int.reduceSub, Int.add_zero, Int.zero_add, Int.zero_mul, Int.toNat_zero]
  refine ⟨fun _ => ⟨zI_in (by omega), hk _ (fun m' a' b' c1 c2 c3 c4 c5 c6 => ?_)⟩, fun h => absurd h (by omega)⟩
  rw [upd_eq]
  split
  · rw [show m' = m by omega, show a' = a by omega, show b' = b by omega, fin, hi, hs]
    rw [min_row, show (if m + a + b = 0 then (0 : Int) else 2000000000) = (if m = 0 ∧ a = 0 ∧ b = 0 then 0 else 2000000000) by
      by_cases z : m + a + b = 0
      · rw [if_pos z, if_pos (by omega)]
      · rw [if_neg z, if_neg (by omega)]]
  · exact hT m' a' b' c1 c2 c3 c4 c5 (by omega)
end
