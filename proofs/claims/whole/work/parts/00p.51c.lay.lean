def SH1 (g : Gd) (S : Int → Int → Int → Int → Bool) (nl : Int32) (xs ys ws : Nat → Int32) (sz : Int32) (os : Nat → Int32) : Prop :=
  ∀ (post : Int32 → (Nat → Int32) → Prop) (sn : Nat → Int32) (w m o d : Int), g.hc w m → g.hc o d → (S w m o d = true → ∀ sn', post 1 sn') → (S w m o d = false → ∀ sn', post 0 sn') → wpX6_isShut post nl xs ys ws sz os sn (zI w) (zI m) (zI o) (zI d)
def SH2 (g : Gd) (S : Int → Int → Int → Int → Bool) (v : Nat → Int32) : Prop :=
  ∀ (post : Int32 → (Nat → Int32) → Prop) (sn : Nat → Int32) (w m o d : Int), g.hc w m → g.hc o d → (S w m o d = true → ∀ sn', post 1 sn') → (S w m o d = false → ∀ sn', post 0 sn') → wpX11_isShut post v sn (zI w) (zI m) (zI o) (zI d)
def Gd.pr (g : Gd) (S : Int → Int → Int → Int → Bool) (F w o m d : Int) : Int := if S w m o d = true then F else g.far w m o d
def Laid (p : Int → Int → Int) (C m d : Int) (f : Nat → Int32) : Prop := ∀ m' d', 0 ≤ m' → 0 ≤ d' → d' < C → (m' < m ∨ m' = m ∧ d' < d) → f ((m' + 1) * 33 + d' + 1).toNat = zI (p m' d')
def Laid2 (p : Int → Int → Int) (C m d : Int) (f : Nat → Int32) : Prop := ∀ m' d', 0 ≤ m' → 0 ≤ d' → d' < C → (m' < m ∨ m' = m ∧ d' < d) → f (30 * m' + d').toNat = zI (p m' d')
theorem Laid.next {p : Int → Int → Int} {C m d : Int} {f : Nat → Int32} (h : Laid p C m d f) (h0 : 0 ≤ m) (h1 : 0 ≤ d) (hd : d < C) (hC : C ≤ 31) : Laid p C m (d + 1) (upd f ((m + 1) * 33 + d + 1).toNat (zI (p m d))) := by
  intro m' d' a b c e
  rw [upd_eq]
  split
  · have : m' = m ∧ d' = d := by omega
    rw [this.1, this.2]
  · exact h m' d' a b c (by by_cases m' = m <;> by_cases d' = d <;> first | (subst_vars; exact absurd rfl ‹_›) | omega)
theorem Laid.line {p : Int → Int → Int} {C m : Int} {f : Nat → Int32} (h : Laid p C m C f) : Laid p C (m + 1) 0 f := fun m' d' a b c e => h m' d' a b c (by omega)
theorem Laid2.next {p : Int → Int → Int} {C m d : Int} {f : Nat → Int32} (h : Laid2 p C m d f) (h0 : 0 ≤ m) (h1 : 0 ≤ d) (hd : d < C) (hC : C ≤ 30) : Laid2 p C m (d + 1) (upd f (30 * m + d).toNat (zI (p m d))) := by
  intro m' d' a b c e
  rw [upd_eq]
  split
  · have : m' = m ∧ d' = d := by omega
    rw [this.1, this.2]
  · exact h m' d' a b c (by by_cases m' = m <;> by_cases d' = d <;> first | (subst_vars; exact absurd rfl ‹_›) | omega)
theorem Laid2.line {p : Int → Int → Int} {C m : Int} {f : Nat → Int32} (h : Laid2 p C m C f) : Laid2 p C (m + 1) 0 f := fun m' d' a b c e => h m' d' a b c (by omega)
section
variable {g : Gd} {S : Int → Int → Int → Int → Bool} {xs ys cs ws os v : Nat → Int32} {nw nl sz : Int32} {w m o d : Int}
theorem sp_lay41 {k29 : Int32 → Int32 → (Nat → Int32) → (Nat → Int32) → Int32 → Int32 → Int32 → Prop} {post : (Int32 × Int32 × (Nat → Int32) × (Nat → Int32)) → Prop} {rows : Int32}
    (hg : g.Ok) (hc : CG g xs ys cs ws nw nl) (hS : SH1 g S nl xs ys ws sz os) (hw : g.hw w) (ho : g.hw o) (hm : 0 ≤ m) (hm' : m < g.cn w)
    (hk : ∀ f sn, Laid (g.pr S 2147483647 w o) (g.cn o) (m + 1) 0 f → k29 rows (zI (g.cn o)) f sn (zI w) (zI o) (zI (m + 1))) :
    ∀ (k : Nat) (d : Int) (f sn : Nat → Int32), 0 ≤ d → d + k = g.cn o → Laid (g.pr S 2147483647 w o) (g.cn o) m d f → wpX0_lay_41 k29 post nl cs xs ys ws sz os (k + 1) rows (zI (g.cn o)) f sn (zI w) (zI o) (zI m) (zI d) := by
  have e1 := hg.cn w hw.1 hw.2
  have e2 := hg.cn o ho.1 ho.2
  intro k
  induction k with
  | zero =>
    intro d f sn h0 h1 hL
    unfold wpX0_lay_41
    simp (disch := omega) only [zI_lit, zI_add, zI_sub, zI_mul, zI_neg, zI_le, zI_lt, zI_eq, zI_nat, zI_max, zI_min, zI_abs, forall_eq, Int.reduceNeg, Int.reduceAdd, Int.reduceMul, Int.reduceSub, Int.add_zero, Int.zero_add, Int.zero_mul, Int.toNat_zero]
    refine ⟨fun _ => hk f sn ?_, fun h => absurd h (by omega)⟩
    rw [show d = g.cn o by omega] at hL
    exact hL.line
  | succ k ih =>
    intro d f sn h0 h1 hL
    unfold wpX0_lay_41
    simp (disch := omega) only [zI_lit, zI_add, zI_sub, zI_mul, zI_neg, zI_le, zI_lt, zI_eq, zI_nat, zI_max, zI_min, zI_abs, forall_eq, Int.reduceNeg, Int.reduceAdd, Int.reduceMul, Int.reduceSub, Int.add_zero, Int.zero_add, Int.zero_mul, Int.toNat_zero]
    refine ⟨fun h => by omega, fun _ => ?_⟩
    unfold wpX0_cell
    simp (disch := omega) only [zI_lit, zI_add, zI_sub, zI_mul, zI_neg, zI_le, zI_lt, zI_eq, zI_nat, zI_max, zI_min, zI_abs, forall_eq, Int.reduceNeg, Int.reduceAdd, Int.reduceMul, Int.reduceSub, Int.add_zero, Int.zero_add, Int.zero_mul, Int.toNat_zero]
    have hm2 : g.hc w m := ⟨hw, hm, hm'⟩
    have hd2 : g.hc o d := ⟨ho, h0, by omega⟩
    refine hS _ _ w m o d hm2 hd2 (fun hs sn' => ?_) (fun hs sn' => ?_)
    · refine ⟨fun h => absurd h (by decide), fun _ => ?_⟩
      unfold wpX0_lay_92
      simp (disch := omega) only [zI_lit, zI_add, zI_sub, zI_mul, zI_neg, zI_le, zI_lt, zI_eq, zI_nat, zI_max, zI_min, zI_abs, forall_eq, Int.reduceNeg, Int.reduceAdd, Int.reduceMul, Int.reduceSub, Int.add_zero, Int.zero_add, Int.zero_mul, Int.toNat_zero]
      refine ⟨zI_in (by omega), ih (d + 1) _ _ (by omega) (by omega) ?_⟩
      have := hL.next hm h0 (by omega) (by omega)
      rwa [Gd.pr, if_pos hs] at this
    · refine ⟨fun _ => sp_distance hg hc hm2 hd2 ?_, fun h => absurd rfl h⟩
      unfold wpX0_lay_92
      simp (disch := omega) only [zI_lit, zI_add, zI_sub, zI_mul, zI_neg, zI_le, zI_lt, zI_eq, zI_nat, zI_max, zI_min, zI_abs, forall_eq, Int.reduceNeg, Int.reduceAdd, Int.reduceMul, Int.reduceSub, Int.add_zero, Int.zero_add, Int.zero_mul, Int.toNat_zero]
      refine ⟨zI_in (by omega), ih (d + 1) _ _ (by omega) (by omega) ?_⟩
      have := hL.next hm h0 (by omega) (by omega)
      rwa [Gd.pr, if_neg (by rw [hs]; decide)] at this
theorem sp_lay29 {post : (Int32 × Int32 × (Nat → Int32) × (Nat → Int32)) → Prop}
    (hg : g.Ok) (hc : CG g xs ys cs ws nw nl) (hS : SH1 g S nl xs ys ws sz os) (hw : g.hw w) (ho : g.hw o)
    (hp : ∀ f sn, Laid (g.pr S 2147483647 w o) (g.cn o) (g.cn w) 0 f → post (zI (g.cn w), zI (g.cn o), f, sn)) :
    ∀ (k : Nat) (m : Int) (f sn : Nat → Int32), 0 ≤ m → m + k = g.cn w → Laid (g.pr S 2147483647 w o) (g.cn o) m 0 f → wpX0_lay_29 post nl cs xs ys ws sz os (k + 1) (zI (g.cn w)) (zI (g.cn o)) f sn (zI w) (zI o) (zI m) := by
  have e1 := hg.cn w hw.1 hw.2
  have e2 := hg.cn o ho.1 ho.2
  intro k
  induction k with
  | zero =>
    intro m f sn h0 h1 hL
    unfold wpX0_lay_29
    simp (disch := omega) only [zI_lit, zI_add, zI_sub, zI_mul, zI_neg, zI_le, zI_lt, zI_eq, zI_nat, zI_max, zI_min, zI_abs, forall_eq, Int.reduceNeg, Int.reduceAdd, Int.reduceMul, Int.reduceSub, Int.add_zero, Int.zero_add, Int.zero_mul, Int.toNat_zero]
    refine ⟨fun _ => hp f sn ?_, fun h => absurd h (by omega)⟩
    rwa [show m = g.cn w by omega] at hL
  | succ k ih =>
    intro m f sn h0 h1 hL
    unfold wpX0_lay_29
    simp (disch := omega) only [zI_lit, zI_add, zI_sub, zI_mul, zI_neg, zI_le, zI_lt, zI_eq, zI_nat, zI_max, zI_min, zI_abs, forall_eq, Int.reduceNeg, Int.reduceAdd, Int.reduceMul, Int.reduceSub, Int.add_zero, Int.zero_add, Int.zero_mul, Int.toNat_zero]
    refine ⟨fun h => by omega, fun _ => ⟨(g.cn o).toNat + 1, ?_⟩⟩
    refine sp_lay41 hg hc hS hw ho h0 (by omega) (fun f sn hL => ih (m + 1) f sn (by omega) (by omega) hL) (g.cn o).toNat 0 f sn (by omega) (by omega) hL
theorem sp_lay {post : (Int32 × Int32 × (Nat → Int32) × (Nat → Int32)) → Prop} {r0 c0 : Int32} {f0 sn0 : Nat → Int32}
    (hg : g.Ok) (hc : CG g xs ys cs ws nw nl) (hS : SH1 g S nl xs ys ws sz os) (hw : g.hw w) (ho : g.hw o)
    (hp : ∀ f sn, Laid (g.pr S 2147483647 w o) (g.cn o) (g.cn w) 0 f → post (zI (g.cn w), zI (g.cn o), f, sn)) :
    wpX0_lay post nl cs xs ys ws sz os r0 c0 f0 sn0 (zI w) (zI o) := by
  have e0 := hg.nw
  have e1 := hg.cn w hw.1 hw.2
  have hw' := hw
  have ho' := ho
  unfold Gd.hw at hw' ho'
  unfold wpX0_lay
  simp (disch := omega) only [zI_lit, zI_add, zI_sub, zI_mul, zI_neg, zI_le, zI_lt, zI_eq, zI_nat, zI_max, zI_min, zI_abs, forall_eq, Int.reduceNeg, Int.reduceAdd, Int.reduceMul, Int.reduceSub, Int.add_zero, Int.zero_add, Int.zero_mul, Int.toNat_zero]
  rw [hc.cs w hw.1 hw.2, hc.cs o ho.1 ho.2]
  exact ⟨zI_in (by omega), zI_in (by omega), (g.cn w).toNat + 1, sp_lay29 hg hc hS hw ho hp (g.cn w).toNat 0 f0 sn0 (by omega) (by omega) (fun m' d' a b c e => by omega)⟩
theorem sr_lays31 {k20 : Int32 → Int32 → (Nat → Int32) → (Nat → Int32) → Int32 → Int32 → Int32 → Prop} {post : (Int32 × Int32 × (Nat → Int32) × (Nat → Int32)) → Prop} {rows : Int32}
    (hg : g.Ok) (hv : WG g v) (hS : SH2 g S v) (hw : g.hw w) (ho : g.hw o) (hm : 0 ≤ m) (hm' : m < g.cn w)
    (hk : ∀ f sn, Laid2 (g.pr S 2000000000 w o) (g.cn o) (m + 1) 0 f → k20 rows (zI (g.cn o)) sn f (zI w) (zI o) (zI (m + 1))) :
    ∀ (k : Nat) (d : Int) (f sn : Nat → Int32), 0 ≤ d → d + k = g.cn o → Laid2 (g.pr S 2000000000 w o) (g.cn o) m d f → wpX11_lays_31 k20 post v (k + 1) rows (zI (g.cn o)) sn f (zI w) (zI o) (zI m) (zI d) := by
  have e1 := hg.cn w hw.1 hw.2
  have e2 := hg.cn o ho.1 ho.2
  intro k
  induction k with
  | zero =>
    intro d f sn h0 h1 hL
    unfold wpX11_lays_31
    simp (disch := omega) only [zI_lit, zI_add, zI_sub, zI_mul, zI_neg, zI_le, zI_lt, zI_eq, zI_nat, zI_max, zI_min, zI_abs, forall_eq, Int.reduceNeg, Int.reduceAdd, Int.reduceMul, Int.reduceSub, Int.add_zero, Int.zero_add, Int.zero_mul, Int.toNat_zero]
    refine ⟨fun _ => hk f sn ?_, fun h => absurd h (by omega)⟩
    rw [show d = g.cn o by omega] at hL
    exact hL.line
  | succ k ih =>
    intro d f sn h0 h1 hL
    unfold wpX11_lays_31
    simp (disch := omega) only [zI_lit, zI_add, zI_sub, zI_mul, zI_neg, zI_le, zI_lt, zI_eq, zI_nat, zI_max, zI_min, zI_abs, forall_eq, Int.reduceNeg, Int.reduceAdd, Int.reduceMul, Int.reduceSub, Int.add_zero, Int.zero_add, Int.zero_mul, Int.toNat_zero]
    refine ⟨fun h => by omega, fun _ => ?_⟩
    have hm2 : g.hc w m := ⟨hw, hm, hm'⟩
    have hd2 : g.hc o d := ⟨ho, h0, by omega⟩
    refine hS _ _ w m o d hm2 hd2 (fun hs sn' => ?_) (fun hs sn' => ?_)
    · refine ⟨fun h => absurd h (by decide), fun _ => ?_⟩
      unfold wpX11_lays_78
      simp (disch := omega) only [zI_lit, zI_add, zI_sub, zI_mul, zI_neg, zI_le, zI_lt, zI_eq, zI_nat, zI_max, zI_min, zI_abs, forall_eq, Int.reduceNeg, Int.reduceAdd, Int.reduceMul, Int.reduceSub, Int.add_zero, Int.zero_add, Int.zero_mul, Int.toNat_zero]
      refine ⟨zI_in (by omega), ih (d + 1) _ _ (by omega) (by omega) ?_⟩
      have := hL.next hm h0 (by omega) (by omega)
      rwa [Gd.pr, if_pos hs] at this
    · refine ⟨fun _ => sr_farAt hg hv hm2 hd2 ?_, fun h => absurd rfl h⟩
      unfold wpX11_lays_78
      simp (disch := omega) only [zI_lit, zI_add, zI_sub, zI_mul, zI_neg, zI_le, zI_lt, zI_eq, zI_nat, zI_max, zI_min, zI_abs, forall_eq, Int.reduceNeg, Int.reduceAdd, Int.reduceMul, Int.reduceSub, Int.add_zero, Int.zero_add, Int.zero_mul, Int.toNat_zero]
      refine ⟨zI_in (by omega), ih (d + 1) _ _ (by omega) (by omega) ?_⟩
      have := hL.next hm h0 (by omega) (by omega)
      rwa [Gd.pr, if_neg (by rw [hs]; decide)] at this
theorem sr_lays20 {post : (Int32 × Int32 × (Nat → Int32) × (Nat → Int32)) → Prop}
    (hg : g.Ok) (hv : WG g v) (hS : SH2 g S v) (hw : g.hw w) (ho : g.hw o)
    (hp : ∀ f sn, Laid2 (g.pr S 2000000000 w o) (g.cn o) (g.cn w) 0 f → post (zI (g.cn w), zI (g.cn o), sn, f)) :
    ∀ (k : Nat) (m : Int) (f sn : Nat → Int32), 0 ≤ m → m + k = g.cn w → Laid2 (g.pr S 2000000000 w o) (g.cn o) m 0 f → wpX11_lays_20 post v (k + 1) (zI (g.cn w)) (zI (g.cn o)) sn f (zI w) (zI o) (zI m) := by
  have e1 := hg.cn w hw.1 hw.2
  have e2 := hg.cn o ho.1 ho.2
  intro k
  induction k with
  | zero =>
    intro m f sn h0 h1 hL
    unfold wpX11_lays_20
    simp (disch := omega) only [zI_lit, zI_add, zI_sub, zI_mul, zI_neg, zI_le, zI_lt, zI_eq, zI_nat, zI_max, zI_min, zI_abs, forall_eq, Int.reduceNeg, Int.reduceAdd, Int.reduceMul, Int.reduceSub, Int.add_zero, Int.zero_add, Int.zero_mul, Int.toNat_zero]
    refine ⟨fun _ => hp f sn ?_, fun h => absurd h (by omega)⟩
    rwa [show m = g.cn w by omega] at hL
  | succ k ih =>
    intro m f sn h0 h1 hL
    unfold wpX11_lays_20
    simp (disch := omega) only [zI_lit, zI_add, zI_sub, zI_mul, zI_neg, zI_le, zI_lt, zI_eq, zI_nat, zI_max, zI_min, zI_abs, forall_eq, Int.reduceNeg, Int.reduceAdd, Int.reduceMul, Int.reduceSub, Int.add_zero, Int.zero_add, Int.zero_mul, Int.toNat_zero]
    refine ⟨fun h => by omega, fun _ => ⟨(g.cn o).toNat + 1, ?_⟩⟩
    refine sr_lays31 hg hv hS hw ho h0 (by omega) (fun f sn hL => ih (m + 1) f sn (by omega) (by omega) hL) (g.cn o).toNat 0 f sn (by omega) (by omega) hL
theorem sr_lays {post : (Int32 × Int32 × (Nat → Int32) × (Nat → Int32)) → Prop} {r0 c0 : Int32} {f0 sn0 : Nat → Int32}
    (hg : g.Ok) (hv : WG g v) (hS : SH2 g S v) (hw : g.hw w) (ho : g.hw o)
    (hp : ∀ f sn, Laid2 (g.pr S 2000000000 w o) (g.cn o) (g.cn w) 0 f → post (zI (g.cn w), zI (g.cn o), sn, f)) :
    wpX11_lays post v r0 c0 sn0 f0 (zI w) (zI o) := by
  have e1 := hg.cn w hw.1 hw.2
  unfold wpX11_lays
  refine sr_cornersOf hg hv hw ?_
  refine sr_cornersOf hg hv ho ?_
  exact ⟨(g.cn w).toNat + 1, sr_lays20 hg hv hS hw ho hp (g.cn w).toNat 0 f0 sn0 (by omega) (by omega) (fun m' d' a b c e => by omega)⟩
end
