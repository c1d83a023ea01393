section
variable {g : Gd} {S : Int → Int → Int → Int → Bool} {xs ys cs ws os v : Nat → Int32} {nw nl sz : Int32} {w e o m : Int} {x m0 d0 : Int32} {f2 f3 f4 : Nat → Int32}
theorem pr_dq {F d : Int} (hx : x = 0) : g.dq S F x w m o d = g.pr S F w o m d := by
  unfold Gd.dq Gd.pr
  by_cases h : S w m o d = true
  · rw [if_pos ⟨hx, h⟩, if_pos h]
  · rw [if_neg (fun k => h k.2), if_neg h]
theorem sr_three72 {k59 : Int32 → Int32 → (Nat → Int32) → (Nat → Int32) → (Nat → Int32) → (Nat → Int32) → Int32 → Int32 → Int32 → Int32 → Int32 → Int32 → Prop} {k46 : Int32 → Int32 → (Nat → Int32) → (Nat → Int32) → (Nat → Int32) → (Nat → Int32) → Int32 → Int32 → Int32 → Int32 → Int32 → Prop} {post : Int32 → (Int32 × Int32 × (Nat → Int32) × (Nat → Int32) × (Nat → Int32) × (Nat → Int32)) → Prop} {a : Int} (hg : g.Ok) (hv : WG g v) (hw : g.hw w) (he : g.hw e) (ho : g.hw o) (hm : 0 ≤ m ∧ m < g.cn w) (ha : 0 ≤ a ∧ a < g.cn e)
    (h4 : Laid2 (g.pr S 2000000000 w e) (g.cn e) (g.cn w) 0 f4) (h3 : Laid2 (g.pr S 2000000000 w o) (g.cn o) (g.cn w) 0 f3)
    (hk : ∀ f, T3 (g.q3 S 2000000000 x w e o) (g.cn e) (g.cn o) m (a + 1) 0 f → k59 m0 d0 f2 f3 f4 f (zI w) (zI e) (zI o) x (zI m) (zI (a + 1))) :
    ∀ (n : Nat) (b : Int) (f : Nat → Int32), 0 ≤ b → b + n = g.cn o → T3 (g.q3 S 2000000000 x w e o) (g.cn e) (g.cn o) m a b f → wpX11_leastOfThree_72 k59 k46 post v (n + 1) m0 d0 f2 f3 f4 f (zI w) (zI e) (zI o) x (zI m) (zI a) (zI b) := by
  have e1 := hg.cn w hw.1 hw.2
  have e2 := hg.cn e he.1 he.2
  have e3 := hg.cn o ho.1 ho.2
  intro n
  induction n with
  | zero =>
    intro b f h0 h1 hT
    unfold wpX11_leastOfThree_72
    refine sr_cornersOf hg hv ho ?_
    simp (disch := omega) only [zI_lit, zI_add, zI_sub, zI_mul, zI_neg, zI_le, zI_lt, zI_eq, zI_nat, zI_max, zI_min, zI_abs, forall_eq, Int.reduceNeg, Int.reduceAdd, Int.reduceMul, Int.reduceSub, Int.add_zero, Int.zero_add, Int.zero_mul, Int.toNat_zero]
    exact ⟨fun _ => hk f (fun m' a' b' c1 c2 c3 c4 c5 c6 => hT m' a' b' c1 c2 c3 c4 c5 (by omega)), fun h => absurd h (by omega)⟩
  | succ n ih =>
    intro b f h0 h1 hT
    have hcw : g.hc w m := ⟨hw, hm⟩
    have hce : g.hc e a := ⟨he, ha⟩
    have hco : g.hc o b := ⟨ho, h0, by omega⟩
    have go : ∀ i : Int, i = g.q3 S 2000000000 x w e o m a b → wpX11_leastOfThree_155 (fun y0 y1 y2 y3 y4 y5 y6 y7 y8 y9 y10 y11 y12 => wpX11_leastOfThree_72 k59 k46 post v (n + 1) y0 y1 y2 y3 y4 y5 y6 y7 y8 y9 y10 y11 y12) k59 k46 post v m0 d0 f2 f3 f4 f (zI w) (zI e) (zI o) x (zI m) (zI a) (zI b) (zI i) := by
      intro i hi
      have r := fun s hs => sr_three180 (k72 := fun y0 y1 y2 y3 y4 y5 y6 y7 y8 y9 y10 y11 y12 => wpX11_leastOfThree_72 k59 k46 post v (n + 1) y0 y1 y2 y3 y4 y5 y6 y7 y8 y9 y10 y11 y12) (k59 := k59) (k46 := k46) (post := post) (v := v) (m0 := m0) (d0 := d0) (f2 := f2) (f3 := f3) (f4 := f4) (w := w) (e := e) (o := o) (x := x) (M := g.cn w) (A := g.cn e) (B := g.cn o) (i := i) (s := s) e1.2 e2.2 e3.2 hm ha hco.2 (q3_bd2 hg hw he ho) hT hi hs (fun f' hT' => ih (b + 1) f' (by omega) (by omega) hT')
      unfold wpX11_leastOfThree_155
      simp (disch := omega) only [zI_lit, zI_add, zI_sub, zI_mul, zI_neg, zI_le, zI_lt, zI_eq, zI_nat, zI_max, zI_min, zI_abs, forall_eq, Int.reduceNeg, Int.reduceAdd, Int.reduceMul, Int.reduceSub, Int.add_zero, Int.zero_add, Int.zero_mul, Int.toNat_zero]
      refine ⟨fun h => r 2000000000 (by rw [if_neg h]), fun h => r 0 (by rw [if_pos h])⟩
    unfold wpX11_leastOfThree_72
    refine sr_cornersOf hg hv ho ?_
    simp (disch := omega) only [zI_lit, zI_add, zI_sub, zI_mul, zI_neg, zI_le, zI_lt, zI_eq, zI_nat, zI_max, zI_min, zI_abs, forall_eq, Int.reduceNeg, Int.reduceAdd, Int.reduceMul, Int.reduceSub, Int.add_zero, Int.zero_add, Int.zero_mul, Int.toNat_zero]
    refine ⟨fun h => absurd h (by omega), fun _ => ⟨fun hx => ⟨zI_in (by omega), zI_in (by omega), ?_⟩, fun hx => ?_⟩⟩
    · have hx' : x = 0 := hx
      have d1 := (pr_agr (S := S) hg hcw hce).bd.2
      have d2 := (pr_agr (S := S) hg hcw hco).bd.2
      rw [h4 m a hm.1 ha.1 ha.2 (Or.inl hm.2), h3 m b hm.1 h0 (by omega) (Or.inl hm.2), zI_max (by omega)]
      refine go _ ?_
      unfold Gd.q3
      rw [if_pos hx', pr_dq hx', pr_dq hx']
      omega
    · have hx' : ¬ x = 0 := hx
      have d1 := Gd.far_le hg hce hco
      have d2 := Gd.far_le hg hcw hce
      have d3 := Gd.far_le hg hcw hco
      refine sr_farAt hg hv hce hco ?_
      refine sr_farAt hg hv hcw hce ?_
      refine sr_farAt hg hv hcw hco ?_
      simp (disch := omega) only [zI_lit, zI_add, zI_sub, zI_mul, zI_neg, zI_le, zI_lt, zI_eq, zI_nat, zI_max, zI_min, zI_abs, forall_eq, Int.reduceNeg, Int.reduceAdd, Int.reduceMul, Int.reduceSub, Int.add_zero, Int.zero_add, Int.zero_mul, Int.toNat_zero]
      refine go _ ?_
      unfold Gd.q3 Gd.dq
      rw [if_neg hx', if_neg (fun h => hx' h.1), if_neg (fun h => hx' h.1)]
theorem sr_three59 {k46 : Int32 → Int32 → (Nat → Int32) → (Nat → Int32) → (Nat → Int32) → (Nat → Int32) → Int32 → Int32 → Int32 → Int32 → Int32 → Prop} {post : Int32 → (Int32 × Int32 × (Nat → Int32) × (Nat → Int32) × (Nat → Int32) × (Nat → Int32)) → Prop} (hg : g.Ok) (hv : WG g v) (hw : g.hw w) (he : g.hw e) (ho : g.hw o) (hm : 0 ≤ m ∧ m < g.cn w)
    (h4 : Laid2 (g.pr S 2000000000 w e) (g.cn e) (g.cn w) 0 f4) (h3 : Laid2 (g.pr S 2000000000 w o) (g.cn o) (g.cn w) 0 f3)
    (hk : ∀ f, T3 (g.q3 S 2000000000 x w e o) (g.cn e) (g.cn o) (m + 1) 0 0 f → k46 m0 d0 f2 f3 f4 f (zI w) (zI e) (zI o) x (zI (m + 1))) :
    ∀ (n : Nat) (a : Int) (f : Nat → Int32), 0 ≤ a → a + n = g.cn e → T3 (g.q3 S 2000000000 x w e o) (g.cn e) (g.cn o) m a 0 f → wpX11_leastOfThree_59 k46 post v (n + 1) m0 d0 f2 f3 f4 f (zI w) (zI e) (zI o) x (zI m) (zI a) := by
  have e1 := hg.cn w hw.1 hw.2
  have e2 := hg.cn e he.1 he.2
  have e3 := hg.cn o ho.1 ho.2
  intro n
  induction n with
  | zero =>
    intro a f h0 h1 hT
    unfold wpX11_leastOfThree_59
    refine sr_cornersOf hg hv he ?_
    simp (disch := omega) only [zI_lit, zI_add, zI_sub, zI_mul, zI_neg, zI_le, zI_lt, zI_eq, zI_nat, zI_max, zI_min, zI_abs, forall_eq, Int.reduceNeg, Int.reduceAdd, Int.reduceMul, Int.reduceSub, Int.add_zero, Int.zero_add, Int.zero_mul, Int.toNat_zero]
    exact ⟨fun _ => hk f (fun m' a' b' c1 c2 c3 c4 c5 c6 => hT m' a' b' c1 c2 c3 c4 c5 (by omega)), fun h => absurd h (by omega)⟩
  | succ n ih =>
    intro a f h0 h1 hT
    unfold wpX11_leastOfThree_59
    refine sr_cornersOf hg hv he ?_
    simp (disch := omega) only [zI_lit, zI_add, zI_sub, zI_mul, zI_neg, zI_le, zI_lt, zI_eq, zI_nat, zI_max, zI_min, zI_abs, forall_eq, Int.reduceNeg, Int.reduceAdd, Int.reduceMul, Int.reduceSub, Int.add_zero, Int.zero_add, Int.zero_mul, Int.toNat_zero]
    refine ⟨fun h => absurd h (by omega), fun _ => ⟨(g.cn o).toNat + 1, ?_⟩⟩
    exact sr_three72 hg hv hw he ho hm ⟨h0, by omega⟩ h4 h3 (fun f' hT' => ih (a + 1) f' (by omega) (by omega) hT') _ 0 f (by omega) (by omega) hT
theorem sr_three46 {post : Int32 → (Int32 × Int32 × (Nat → Int32) × (Nat → Int32) × (Nat → Int32) × (Nat → Int32)) → Prop} (hg : g.Ok) (hv : WG g v) (hw : g.hw w) (he : g.hw e) (ho : g.hw o)
    (h4 : Laid2 (g.pr S 2000000000 w e) (g.cn e) (g.cn w) 0 f4) (h3 : Laid2 (g.pr S 2000000000 w o) (g.cn o) (g.cn w) 0 f3)
    (hp : ∀ z, post (zI (g.l32 S x w e o)) z) :
    ∀ (n : Nat) (m : Int) (f : Nat → Int32), 0 ≤ m → m + n = g.cn w → T3 (g.q3 S 2000000000 x w e o) (g.cn e) (g.cn o) m 0 0 f → wpX11_leastOfThree_46 post v (n + 1) m0 d0 f2 f3 f4 f (zI w) (zI e) (zI o) x (zI m) := by
  have e1 := hg.cn w hw.1 hw.2
  have e2 := hg.cn e he.1 he.2
  have e3 := hg.cn o ho.1 ho.2
  intro n
  induction n with
  | zero =>
    intro m f h0 h1 hT
    unfold wpX11_leastOfThree_46
    refine sr_cornersOf hg hv hw ?_
    simp (disch := omega) only [zI_lit, zI_add, zI_sub, zI_mul, zI_neg, zI_le, zI_lt, zI_eq, zI_nat, zI_max, zI_min, zI_abs, forall_eq, Int.reduceNeg, Int.reduceAdd, Int.reduceMul, Int.reduceSub, Int.add_zero, Int.zero_add, Int.zero_mul, Int.toNat_zero]
    refine ⟨fun _ => ?_, fun h => absurd h (by omega)⟩
    refine sr_cornersOf hg hv hw ?_
    refine sr_cornersOf hg hv he ?_
    refine sr_cornersOf hg hv ho ?_
    simp (disch := omega) only [zI_lit, zI_add, zI_sub, zI_mul, zI_neg, zI_le, zI_lt, zI_eq, zI_nat, zI_max, zI_min, zI_abs, forall_eq, Int.reduceNeg, Int.reduceAdd, Int.reduceMul, Int.reduceSub, Int.add_zero, Int.zero_add, Int.zero_mul, Int.toNat_zero]
    exact sr_leadsAt (M := g.cn w) e1.2 e2.2 e3.2 hT (by omega) (by omega) (by omega) (by omega) (hp _)
  | succ n ih =>
    intro m f h0 h1 hT
    unfold wpX11_leastOfThree_46
    refine sr_cornersOf hg hv hw ?_
    simp (disch := omega) only [zI_lit, zI_add, zI_sub, zI_mul, zI_neg, zI_le, zI_lt, zI_eq, zI_nat, zI_max, zI_min, zI_abs, forall_eq, Int.reduceNeg, Int.reduceAdd, Int.reduceMul, Int.reduceSub, Int.add_zero, Int.zero_add, Int.zero_mul, Int.toNat_zero]
    refine ⟨fun h => absurd h (by omega), fun _ => ⟨(g.cn e).toNat + 1, ?_⟩⟩
    exact sr_three59 hg hv hw he ho ⟨h0, by omega⟩ h4 h3 (fun f' hT' => ih (m + 1) f' (by omega) (by omega) hT') _ 0 f (by omega) (by omega) hT
theorem sr_three9 {post : Int32 → (Int32 × Int32 × (Nat → Int32) × (Nat → Int32) × (Nat → Int32) × (Nat → Int32)) → Prop} {f5 : Nat → Int32} (hg : g.Ok) (hv : WG g v) (hS : SH2 g S v) (hw : g.hw w) (he : g.hw e) (ho : g.hw o)
    (h3 : Laid2 (g.pr S 2000000000 w e) (g.cn e) (g.cn w) 0 f3)
    (hp : ∀ z, post (zI (g.l32 S x w e o)) z) :
    ∀ (n : Nat) (k : Int) (f : Nat → Int32), 0 ≤ k → k + n = 900 → (∀ i : Nat, i < k → f i = f3 i) → wpX11_leastOfThree_9 post v (n + 1) m0 d0 f2 f3 f f5 (zI w) (zI e) (zI o) x (zI k) := by
  have e1 := hg.cn w hw.1 hw.2
  have e2 := hg.cn e he.1 he.2
  intro n
  induction n with
  | zero =>
    intro k f h0 h1 a
    unfold wpX11_leastOfThree_9
    simp (disch := omega) only [zI_lit, zI_add, zI_sub, zI_mul, zI_neg, zI_le, zI_lt, zI_eq, zI_nat, zI_max, zI_min, zI_abs, forall_eq, Int.reduceNeg, Int.reduceAdd, Int.reduceMul, Int.reduceSub, Int.add_zero, Int.zero_add, Int.zero_mul, Int.toNat_zero]
    refine ⟨fun _ => ?_, fun h => absurd h (by omega)⟩
    refine sr_lays hg hv hS hw ho (fun ff sn hL => ?_)
    refine ⟨(g.cn w).toNat + 1, sr_three46 hg hv hw he ho (fun m' d' c1 c2 c3 c4 => ?_) hL hp _ 0 f5 (by omega) (by omega) (fun m' a' b' c1 c2 c3 c4 c5 c6 => by omega)⟩
    rw [a _ (by omega)]
    exact h3 m' d' c1 c2 c3 c4
  | succ n ih =>
    intro k f h0 h1 a
    unfold wpX11_leastOfThree_9
    simp (disch := omega) only [zI_lit, zI_add, zI_sub, zI_mul, zI_neg, zI_le, zI_lt, zI_eq, zI_nat, zI_max, zI_min, zI_abs, forall_eq, Int.reduceNeg, Int.reduceAdd, Int.reduceMul, Int.reduceSub, Int.add_zero, Int.zero_add, Int.zero_mul, Int.toNat_zero]
    refine ⟨fun h => absurd h (by omega), fun _ => ⟨zI_in (by omega), zI_in (by omega), ih (k + 1) _ (by omega) (by omega) (fun i hi => ?_)⟩⟩
    rw [upd_eq]
    split
    · rename_i h; rw [h]
    · exact a i (by omega)
theorem sr_leastOfThree {post : Int32 → (Int32 × Int32 × (Nat → Int32) × (Nat → Int32) × (Nat → Int32) × (Nat → Int32)) → Prop} {f5 : Nat → Int32} (hg : g.Ok) (hv : WG g v) (hS : SH2 g S v) (hw : g.hw w) (he : g.hw e) (ho : g.hw o)
    (hp : ∀ z, post (zI (g.l32 S x w e o)) z) : wpX11_leastOfThree post v m0 d0 f2 f3 f4 f5 (zI w) (zI e) (zI o) x := by
  unfold wpX11_leastOfThree
  refine sr_lays hg hv hS hw he (fun ff sn hL => ?_)
  exact ⟨901, sr_three9 hg hv hS hw he ho hL hp 900 0 f4 (by omega) (by omega) (fun i hi => by omega)⟩
theorem sr_dogs {post : Int32 → (Int32 × Int32 × Int32 × (Nat → Int32) × (Nat → Int32) × (Nat → Int32) × (Nat → Int32)) → Prop} {th : Int32} {f5 : Nat → Int32} (hg : g.Ok) (hv : WG g v) (hS : SH2 g S v) (hw : -2147483648 ≤ w ∧ w < 2147483648) (he : -2147483648 ≤ e ∧ e < 2147483648) (ho : -2147483648 ≤ o ∧ o < 2147483648)
    (hx : ¬ (g.hw w ∧ g.hw e ∧ g.hw o) → ∀ r z, z.1 = 1 → post r z)
    (hp : g.hw w → g.hw e → g.hw o → ∀ z, z.1 = 0 → post (zI (if g.l3 S 0 w e o = 2147483647 then -1 else g.l3 S 0 w e o)) z) : wpX11_dogs post v th m0 d0 f2 f3 f4 f5 (zI w) (zI e) (zI o) := by
  have c22 : ¬ (g.hw w ∧ g.hw e ∧ g.hw o) → wpX11_dogs_30 post v 0 m0 d0 f2 f3 f4 f5 (zI w) (zI e) (zI o) := by
    intro h
    unfold wpX11_dogs_30 wpX11_dogs_35
    refine sr_throwsIf (fun h => absurd h (by decide)) (fun _ => ?_) (Or.inr rfl)
    exact ⟨fun h => absurd h (by decide), fun _ => hx h _ _ rfl⟩
  unfold wpX11_dogs
  refine sr_noWay hg hv hw (fun h1 => ⟨fun h => absurd rfl h, fun _ => ?_⟩) (fun h1 => ⟨fun _ => c22 (fun h => h1 h.1), fun h => absurd h (by decide)⟩)
  refine sr_noWay hg hv he (fun h2 => ⟨fun h => absurd rfl h, fun _ => ?_⟩) (fun h2 => ⟨fun _ => c22 (fun h => h2 h.2.1), fun h => absurd h (by decide)⟩)
  refine sr_noWay hg hv ho (fun h3 => ⟨fun _ => ?_, fun h => absurd rfl h⟩) (fun h3 => ⟨fun h => absurd h (by decide), fun _ => c22 (fun h => h3 h.2.2)⟩)
  unfold wpX11_dogs_35
  refine sr_throwsIf (fun _ => ⟨fun _ => ?_, fun h => absurd rfl h⟩) (fun h => absurd h (by decide)) (Or.inl rfl)
  refine sr_leastOfThree hg hv hS h1 h2 h3 (fun z => ?_)
  have ag := l3_agr (S := S) (x := 0) hg h1 h2 h3
  have hp' := hp h1 h2 h3
  rw [ag.none] at hp'
  exact sr_orNone ag.bd.2 (hp' _ rfl)
theorem sr_three {post : Int32 → (Int32 × Int32 × Int32 × (Nat → Int32) × (Nat → Int32) × (Nat → Int32) × (Nat → Int32)) → Prop} {th : Int32} {f5 : Nat → Int32} (hg : g.Ok) (hv : WG g v) (hS : SH2 g S v) (hw : -2147483648 ≤ w ∧ w < 2147483648) (he : -2147483648 ≤ e ∧ e < 2147483648) (ho : -2147483648 ≤ o ∧ o < 2147483648)
    (hx : ¬ (g.hw w ∧ g.hw e ∧ g.hw o) → ∀ r z, z.1 = 1 → post r z)
    (hp : g.hw w → g.hw e → g.hw o → ∀ z, z.1 = 0 → post (zI (g.l3 S 1 w e o)) z) : wpX11_three post v th m0 d0 f2 f3 f4 f5 (zI w) (zI e) (zI o) := by
  have c22 : ¬ (g.hw w ∧ g.hw e ∧ g.hw o) → wpX11_three_30 post v 0 m0 d0 f2 f3 f4 f5 (zI w) (zI e) (zI o) := by
    intro h
    unfold wpX11_three_30 wpX11_three_35
    refine sr_throwsIf (fun h => absurd h (by decide)) (fun _ => ?_) (Or.inr rfl)
    exact ⟨fun h => absurd h (by decide), fun _ => hx h _ _ rfl⟩
  unfold wpX11_three
  refine sr_noWay hg hv hw (fun h1 => ⟨fun h => absurd rfl h, fun _ => ?_⟩) (fun h1 => ⟨fun _ => c22 (fun h => h1 h.1), fun h => absurd h (by decide)⟩)
  refine sr_noWay hg hv he (fun h2 => ⟨fun h => absurd rfl h, fun _ => ?_⟩) (fun h2 => ⟨fun _ => c22 (fun h => h2 h.2.1), fun h => absurd h (by decide)⟩)
  refine sr_noWay hg hv ho (fun h3 => ⟨fun _ => ?_, fun h => absurd rfl h⟩) (fun h3 => ⟨fun h => absurd h (by decide), fun _ => c22 (fun h => h3 h.2.2)⟩)
  unfold wpX11_three_35
  refine sr_throwsIf (fun _ => ⟨fun _ => ?_, fun h => absurd rfl h⟩) (fun h => absurd h (by decide)) (Or.inl rfl)
  refine sr_leastOfThree hg hv hS h1 h2 h3 (fun z => ?_)
  have ag := l3_agr (S := S) (x := 1) hg h1 h2 h3
  have fin := l3_fin (S := S) (x := 1) hg (by decide) h1 h2 h3
  unfold Agr at ag
  rw [show g.l32 S 1 w e o = g.l3 S 1 w e o by omega]
  exact hp h1 h2 h3 _ rfl
end
