def Gd : Type := Int × (Int → Int) × (Int → Int → Int) × (Int → Int → Int) × Int × (Int → Int → Int) × Int
def Gd.nw (g : Gd) : Int := g.1
def Gd.cn (g : Gd) : Int → Int := g.2.1
def Gd.px (g : Gd) : Int → Int → Int := g.2.2.1
def Gd.py (g : Gd) : Int → Int → Int := g.2.2.2.1
def Gd.nl (g : Gd) : Int := g.2.2.2.2.1
def Gd.wl (g : Gd) : Int → Int → Int := g.2.2.2.2.2.1
def Gd.nt (g : Gd) : Int := g.2.2.2.2.2.2
def Gd.Ok (g : Gd) : Prop :=
  (0 ≤ g.nw ∧ g.nw ≤ 12) ∧ (∀ w, 0 ≤ w → w < g.nw → 1 ≤ g.cn w ∧ g.cn w ≤ 30) ∧ (∀ w c, 0 ≤ w → w < g.nw → 0 ≤ c → c < g.cn w → 0 ≤ g.px w c ∧ g.px w c ≤ 999) ∧ (∀ w c, 0 ≤ w → w < g.nw → 0 ≤ c → c < g.cn w → 0 ≤ g.py w c ∧ g.py w c ≤ 999) ∧ (0 ≤ g.nl ∧ g.nl ≤ 8) ∧ (∀ n j, 0 ≤ n → n < g.nl → 0 ≤ j → j < 4 → 0 ≤ g.wl n j ∧ g.wl n j ≤ 999) ∧ (0 ≤ g.nt ∧ g.nt ≤ 16)
theorem Gd.Ok.nw {g : Gd} (h : Gd.Ok g) : 0 ≤ g.nw ∧ g.nw ≤ 12 := h.1
theorem Gd.Ok.cn {g : Gd} (h : Gd.Ok g) : ∀ w, 0 ≤ w → w < g.nw → 1 ≤ g.cn w ∧ g.cn w ≤ 30 := h.2.1
theorem Gd.Ok.px {g : Gd} (h : Gd.Ok g) : ∀ w c, 0 ≤ w → w < g.nw → 0 ≤ c → c < g.cn w → 0 ≤ g.px w c ∧ g.px w c ≤ 999 := h.2.2.1
theorem Gd.Ok.py {g : Gd} (h : Gd.Ok g) : ∀ w c, 0 ≤ w → w < g.nw → 0 ≤ c → c < g.cn w → 0 ≤ g.py w c ∧ g.py w c ≤ 999 := h.2.2.2.1
theorem Gd.Ok.nl {g : Gd} (h : Gd.Ok g) : 0 ≤ g.nl ∧ g.nl ≤ 8 := h.2.2.2.2.1
theorem Gd.Ok.wl {g : Gd} (h : Gd.Ok g) : ∀ n j, 0 ≤ n → n < g.nl → 0 ≤ j → j < 4 → 0 ≤ g.wl n j ∧ g.wl n j ≤ 999 := h.2.2.2.2.2.1
theorem Gd.Ok.nt {g : Gd} (h : Gd.Ok g) : 0 ≤ g.nt ∧ g.nt ≤ 16 := h.2.2.2.2.2.2
def CG (g : Gd) (xs ys cs ws : Nat → Int32) (nw nl : Int32) : Prop :=
  (nw = zI g.nw) ∧ (nl = zI g.nl) ∧ (∀ w, 0 ≤ w → w < g.nw → cs w.toNat = zI (g.cn w)) ∧ (∀ w c, 0 ≤ w → w < g.nw → 0 ≤ c → c < g.cn w → xs (w * 30 + c).toNat = zI (g.px w c)) ∧ (∀ w c, 0 ≤ w → w < g.nw → 0 ≤ c → c < g.cn w → ys (w * 30 + c).toNat = zI (g.py w c)) ∧ (∀ n j, 0 ≤ n → n < g.nl → 0 ≤ j → j < 4 → ws (n * 4 + j).toNat = zI (g.wl n j))
theorem CG.nw {g : Gd} {xs ys cs ws : Nat → Int32} {nw nl : Int32} (h : CG g xs ys cs ws nw nl) : nw = zI g.nw := h.1
theorem CG.nl {g : Gd} {xs ys cs ws : Nat → Int32} {nw nl : Int32} (h : CG g xs ys cs ws nw nl) : nl = zI g.nl := h.2.1
theorem CG.cs {g : Gd} {xs ys cs ws : Nat → Int32} {nw nl : Int32} (h : CG g xs ys cs ws nw nl) : ∀ w, 0 ≤ w → w < g.nw → cs w.toNat = zI (g.cn w) := h.2.2.1
theorem CG.xs {g : Gd} {xs ys cs ws : Nat → Int32} {nw nl : Int32} (h : CG g xs ys cs ws nw nl) : ∀ w c, 0 ≤ w → w < g.nw → 0 ≤ c → c < g.cn w → xs (w * 30 + c).toNat = zI (g.px w c) := h.2.2.2.1
theorem CG.ys {g : Gd} {xs ys cs ws : Nat → Int32} {nw nl : Int32} (h : CG g xs ys cs ws nw nl) : ∀ w c, 0 ≤ w → w < g.nw → 0 ≤ c → c < g.cn w → ys (w * 30 + c).toNat = zI (g.py w c) := h.2.2.2.2.1
theorem CG.ws {g : Gd} {xs ys cs ws : Nat → Int32} {nw nl : Int32} (h : CG g xs ys cs ws nw nl) : ∀ n j, 0 ≤ n → n < g.nl → 0 ≤ j → j < 4 → ws (n * 4 + j).toNat = zI (g.wl n j) := h.2.2.2.2.2
def WG (g : Gd) (v : Nat → Int32) : Prop :=
  (v 0 = zI g.nw) ∧ (v 1 = zI g.nl) ∧ (v 2 = zI g.nt) ∧ (∀ w, 0 ≤ w → w < g.nw → v (14 + 61 * w).toNat = zI (g.cn w)) ∧ (∀ w c, 0 ≤ w → w < g.nw → 0 ≤ c → c < g.cn w → v (14 + 61 * w + 1 + 2 * c).toNat = zI (g.px w c)) ∧ (∀ w c, 0 ≤ w → w < g.nw → 0 ≤ c → c < g.cn w → v (14 + 61 * w + 2 + 2 * c).toNat = zI (g.py w c)) ∧ (∀ n j, 0 ≤ n → n < g.nl → 0 ≤ j → j < 4 → v (746 + 4 * n + j).toNat = zI (g.wl n j))
theorem WG.nw {g : Gd} {v : Nat → Int32} (h : WG g v) : v 0 = zI g.nw := h.1
theorem WG.nl {g : Gd} {v : Nat → Int32} (h : WG g v) : v 1 = zI g.nl := h.2.1
theorem WG.nt {g : Gd} {v : Nat → Int32} (h : WG g v) : v 2 = zI g.nt := h.2.2.1
theorem WG.cs {g : Gd} {v : Nat → Int32} (h : WG g v) : ∀ w, 0 ≤ w → w < g.nw → v (14 + 61 * w).toNat = zI (g.cn w) := h.2.2.2.1
theorem WG.xs {g : Gd} {v : Nat → Int32} (h : WG g v) : ∀ w c, 0 ≤ w → w < g.nw → 0 ≤ c → c < g.cn w → v (14 + 61 * w + 1 + 2 * c).toNat = zI (g.px w c) := h.2.2.2.2.1
theorem WG.ys {g : Gd} {v : Nat → Int32} (h : WG g v) : ∀ w c, 0 ≤ w → w < g.nw → 0 ≤ c → c < g.cn w → v (14 + 61 * w + 2 + 2 * c).toNat = zI (g.py w c) := h.2.2.2.2.2.1
theorem WG.ws {g : Gd} {v : Nat → Int32} (h : WG g v) : ∀ n j, 0 ≤ n → n < g.nl → 0 ≤ j → j < 4 → v (746 + 4 * n + j).toNat = zI (g.wl n j) := h.2.2.2.2.2.2
def Gd.hw (g : Gd) (w : Int) : Prop := 0 ≤ w ∧ w < g.nw
def Gd.hc (g : Gd) (w c : Int) : Prop := (0 ≤ w ∧ w < g.nw) ∧ 0 ≤ c ∧ c < g.cn w
def Gd.far (g : Gd) (w m o d : Int) : Int := (g.px w m - g.px o d) * (g.px w m - g.px o d) + (g.py w m - g.py o d) * (g.py w m - g.py o d)
theorem sq_le {x n : Int} (h : -n ≤ x ∧ x ≤ n) : 0 ≤ x * x ∧ x * x ≤ n * n := by
  constructor
  · rcases Int.le_total 0 x with h0 | h0
    · exact Int.mul_nonneg h0 h0
    · exact Int.mul_nonneg_of_nonpos_of_nonpos h0 h0
  · rcases Int.le_total 0 x with h0 | h0
    · exact Int.mul_le_mul h.2 h.2 h0 (by omega)
    · have := Int.mul_le_mul (a := -x) (b := -x) (c := n) (d := n) (by omega) (by omega) (by omega) (by omega)
      rwa [Int.neg_mul_neg] at this
theorem Gd.far_le {g : Gd} (h : g.Ok) {w m o d : Int} (h1 : g.hc w m) (h2 : g.hc o d) : 0 ≤ g.far w m o d ∧ g.far w m o d ≤ 1996002 := by
  obtain ⟨⟨a1, a2⟩, a3, a4⟩ := h1
  obtain ⟨⟨b1, b2⟩, b3, b4⟩ := h2
  have e1 := h.px w m a1 a2 a3 a4
  have e2 := h.px o d b1 b2 b3 b4
  have e3 := h.py w m a1 a2 a3 a4
  have e4 := h.py o d b1 b2 b3 b4
  have f1 := sq_le (x := g.px w m - g.px o d) (n := 999) (by omega)
  have f2 := sq_le (x := g.py w m - g.py o d) (n := 999) (by omega)
  unfold Gd.far
  omega
section
variable {g : Gd} {xs ys cs ws v : Nat → Int32} {nw nl : Int32} {post : Int32 → Unit → Prop} {w m o d : Int}
theorem sp_hasWay (hg : g.Ok) (hc : CG g xs ys cs ws nw nl) (hr : -2147483648 ≤ w ∧ w < 2147483648) (hy : g.hw w → post 1 ()) (hn : ¬ g.hw w → post 0 ()) : wpX1_hasWay post nw (zI w) := by
  have := hg.nw
  unfold wpX1_hasWay; unfold Gd.hw at hy hn
  rw [hc.nw]
  simp (disch := omega) only [zI_lit, zI_add, zI_sub, zI_mul, zI_neg, zI_le, zI_lt, zI_eq, zI_nat, zI_max, zI_min, zI_abs, forall_eq, Int.reduceNeg, Int.reduceAdd, Int.reduceMul, Int.reduceSub, Int.add_zero, Int.zero_add, Int.zero_mul, Int.toNat_zero]
  refine ⟨fun h => hn (by omega), fun h => ⟨fun h' => hn (by omega), fun h' => hy (by omega)⟩⟩
theorem sp_hasCorner (hg : g.Ok) (hc : CG g xs ys cs ws nw nl) (hr : -2147483648 ≤ w ∧ w < 2147483648) (hr' : -2147483648 ≤ m ∧ m < 2147483648) (hy : g.hc w m → post 1 ()) (hn : ¬ g.hc w m → post 0 ()) : wpX1_hasCorner post nw cs (zI w) (zI m) := by
  have h12 := hg.nw
  unfold wpX1_hasCorner; unfold Gd.hc at hy hn
  refine sp_hasWay hg hc hr (fun h => ?_) (fun h => ?_)
  · have h30 := hg.cn w h.1 h.2
    unfold Gd.hw at h
    simp (disch := omega) only [zI_lit, zI_add, zI_sub, zI_mul, zI_neg, zI_le, zI_lt, zI_eq, zI_nat, zI_max, zI_min, zI_abs, forall_eq, Int.reduceNeg, Int.reduceAdd, Int.reduceMul, Int.reduceSub, Int.add_zero, Int.zero_add, Int.zero_mul, Int.toNat_zero]
    rw [hc.cs w h.1 h.2]
    simp (disch := omega) only [zI_lit, zI_add, zI_sub, zI_mul, zI_neg, zI_le, zI_lt, zI_eq, zI_nat, zI_max, zI_min, zI_abs, forall_eq, Int.reduceNeg, Int.reduceAdd, Int.reduceMul, Int.reduceSub, Int.add_zero, Int.zero_add, Int.zero_mul, Int.toNat_zero]
    refine ⟨by omega, fun _ => ⟨fun h' => hn (by omega), fun h' => ⟨zI_in (by omega), fun h' => hn (by omega), fun h' => hy (by omega)⟩⟩⟩
  · unfold Gd.hw at h
    exact ⟨fun _ => hn (by omega), fun h => absurd rfl h⟩
theorem sp_distance (hg : g.Ok) (hc : CG g xs ys cs ws nw nl) (h1 : g.hc w m) (h2 : g.hc o d) (h : post (zI (g.far w m o d)) ()) : wpX1_distance post xs ys (zI w) (zI m) (zI o) (zI d) := by
  obtain ⟨⟨a1, a2⟩, a3, a4⟩ := h1
  obtain ⟨⟨b1, b2⟩, b3, b4⟩ := h2
  have h12 := hg.nw
  have := hg.cn w a1 a2
  have := hg.cn o b1 b2
  unfold wpX1_distance
  simp (disch := omega) only [zI_lit, zI_add, zI_sub, zI_mul, zI_neg, zI_le, zI_lt, zI_eq, zI_nat, zI_max, zI_min, zI_abs, forall_eq, Int.reduceNeg, Int.reduceAdd, Int.reduceMul, Int.reduceSub, Int.add_zero, Int.zero_add, Int.zero_mul, Int.toNat_zero]
  rw [hc.xs w m a1 a2 a3 a4, hc.xs o d b1 b2 b3 b4, hc.ys w m a1 a2 a3 a4, hc.ys o d b1 b2 b3 b4]
  simp (disch := omega) only [zI_lit, zI_add, zI_sub, zI_mul, zI_neg, zI_le, zI_lt, zI_eq, zI_nat, zI_max, zI_min, zI_abs, forall_eq, Int.reduceNeg, Int.reduceAdd, Int.reduceMul, Int.reduceSub, Int.add_zero, Int.zero_add, Int.zero_mul, Int.toNat_zero]
  exact ⟨zI_in (by omega), zI_in (by omega), zI_in (by omega), zI_in (by omega), h⟩
theorem sp_xOf (hg : g.Ok) (hc : CG g xs ys cs ws nw nl) (h1 : g.hc w m) (h : post (zI (g.px w m)) ()) : wpX1_xOf post xs (zI w) (zI m) := by
  obtain ⟨⟨a1, a2⟩, a3, a4⟩ := h1
  have h12 := hg.nw
  have := hg.cn w a1 a2
  unfold wpX1_xOf
  simp (disch := omega) only [zI_lit, zI_add, zI_sub, zI_mul, zI_neg, zI_le, zI_lt, zI_eq, zI_nat, zI_max, zI_min, zI_abs, forall_eq, Int.reduceNeg, Int.reduceAdd, Int.reduceMul, Int.reduceSub, Int.add_zero, Int.zero_add, Int.zero_mul, Int.toNat_zero]
  rw [hc.xs w m a1 a2 a3 a4]
  exact ⟨zI_in (by omega), h⟩
theorem sp_yOf (hg : g.Ok) (hc : CG g xs ys cs ws nw nl) (h1 : g.hc w m) (h : post (zI (g.py w m)) ()) : wpX1_yOf post ys (zI w) (zI m) := by
  obtain ⟨⟨a1, a2⟩, a3, a4⟩ := h1
  have h12 := hg.nw
  have := hg.cn w a1 a2
  unfold wpX1_yOf
  simp (disch := omega) only [zI_lit, zI_add, zI_sub, zI_mul, zI_neg, zI_le, zI_lt, zI_eq, zI_nat, zI_max, zI_min, zI_abs, forall_eq, Int.reduceNeg, Int.reduceAdd, Int.reduceMul, Int.reduceSub, Int.add_zero, Int.zero_add, Int.zero_mul, Int.toNat_zero]
  rw [hc.ys w m a1 a2 a3 a4]
  exact ⟨zI_in (by omega), h⟩
theorem sr_in (hw : -2147483648 ≤ w ∧ w < 2147483648) (hm : -2147483648 ≤ m ∧ m < 2147483648) (ho : -2147483648 ≤ o ∧ o < 2147483648) (hy : m ≤ w ∧ w ≤ o → post 1 ()) (hn : ¬ (m ≤ w ∧ w ≤ o) → post 0 ()) : wpX11_in post (zI w) (zI m) (zI o) := by
  unfold wpX11_in
  simp (disch := omega) only [zI_lit, zI_add, zI_sub, zI_mul, zI_neg, zI_le, zI_lt, zI_eq, zI_nat, zI_max, zI_min, zI_abs, forall_eq, Int.reduceNeg, Int.reduceAdd, Int.reduceMul, Int.reduceSub, Int.add_zero, Int.zero_add, Int.zero_mul, Int.toNat_zero]
  refine ⟨fun h => hn (by omega), fun h => ⟨fun h' => hn (by omega), fun h' => hy (by omega)⟩⟩
theorem sr_ways (hv : WG g v) (h : post (zI g.nw) ()) : wpX11_ways post v := by
  unfold wpX11_ways
  rw [show (0 : Int32).toNatClampNeg = 0 from rfl, hv.nw]
  exact ⟨by unfold vp_in; decide, h⟩
theorem sr_cornersOf (hg : g.Ok) (hv : WG g v) (hw : g.hw w) (h : post (zI (g.cn w)) ()) : wpX11_cornersOf post v (zI w) := by
  have h12 := hg.nw
  unfold wpX11_cornersOf; unfold Gd.hw at hw
  simp (disch := omega) only [zI_lit, zI_add, zI_sub, zI_mul, zI_neg, zI_le, zI_lt, zI_eq, zI_nat, zI_max, zI_min, zI_abs, forall_eq, Int.reduceNeg, Int.reduceAdd, Int.reduceMul, Int.reduceSub, Int.add_zero, Int.zero_add, Int.zero_mul, Int.toNat_zero]
  rw [hv.cs w hw.1 hw.2]
  exact ⟨zI_in (by omega), h⟩
theorem sr_noWay (hg : g.Ok) (hv : WG g v) (hr : -2147483648 ≤ w ∧ w < 2147483648) (hy : g.hw w → post 0 ()) (hn : ¬ g.hw w → post 1 ()) : wpX11_noWay post v (zI w) := by
  have h12 := hg.nw
  unfold wpX11_noWay; unfold Gd.hw at hy hn
  refine sr_ways hv ?_
  simp (disch := omega) only [zI_lit, zI_add, zI_sub, zI_mul, zI_neg, zI_le, zI_lt, zI_eq, zI_nat, zI_max, zI_min, zI_abs, forall_eq, Int.reduceNeg, Int.reduceAdd, Int.reduceMul, Int.reduceSub, Int.add_zero, Int.zero_add, Int.zero_mul, Int.toNat_zero]
  refine sr_in (by omega) (by omega) (by omega) (fun h => ?_) (fun h => ?_)
  · exact ⟨fun _ => hy (by omega), fun h => absurd h (by decide)⟩
  · exact ⟨fun h => absurd rfl h, fun _ => hn (by omega)⟩
theorem sr_noCorner (hg : g.Ok) (hv : WG g v) (hr : -2147483648 ≤ w ∧ w < 2147483648) (hr' : -2147483648 ≤ m ∧ m < 2147483648) (hy : g.hc w m → post 0 ()) (hn : ¬ g.hc w m → post 1 ()) : wpX11_noCorner post v (zI w) (zI m) := by
  have h12 := hg.nw
  unfold wpX11_noCorner; unfold Gd.hc at hy hn
  refine sr_noWay hg hv hr (fun h => ?_) (fun h => ?_)
  · have h30 := hg.cn w h.1 h.2
    refine ⟨fun h => absurd rfl h, fun _ => sr_cornersOf hg hv h ?_⟩
    unfold Gd.hw at h
    simp (disch := omega) only [zI_lit, zI_add, zI_sub, zI_mul, zI_neg, zI_le, zI_lt, zI_eq, zI_nat, zI_max, zI_min, zI_abs, forall_eq, Int.reduceNeg, Int.reduceAdd, Int.reduceMul, Int.reduceSub, Int.add_zero, Int.zero_add, Int.zero_mul, Int.toNat_zero]
    refine sr_in (by omega) (by omega) (by omega) (fun h => ?_) (fun h => ?_)
    · exact ⟨fun _ => hy (by omega), fun h => absurd h (by decide)⟩
    · exact ⟨fun h => absurd rfl h, fun _ => hn (by omega)⟩
  · unfold Gd.hw at h
    exact ⟨fun _ => hn (by omega), fun h => absurd h (by decide)⟩
theorem sr_xOf (hg : g.Ok) (hv : WG g v) (h1 : g.hc w m) (h : post (zI (g.px w m)) ()) : wpX11_xOf post v (zI w) (zI m) := by
  obtain ⟨⟨a1, a2⟩, a3, a4⟩ := h1
  have h12 := hg.nw
  have := hg.cn w a1 a2
  unfold wpX11_xOf
  simp (disch := omega) only [zI_lit, zI_add, zI_sub, zI_mul, zI_neg, zI_le, zI_lt, zI_eq, zI_nat, zI_max, zI_min, zI_abs, forall_eq, Int.reduceNeg, Int.reduceAdd, Int.reduceMul, Int.reduceSub, Int.add_zero, Int.zero_add, Int.zero_mul, Int.toNat_zero]
  rw [hv.xs w m a1 a2 a3 a4]
  exact ⟨zI_in (by omega), h⟩
theorem sr_yOf (hg : g.Ok) (hv : WG g v) (h1 : g.hc w m) (h : post (zI (g.py w m)) ()) : wpX11_yOf post v (zI w) (zI m) := by
  obtain ⟨⟨a1, a2⟩, a3, a4⟩ := h1
  have h12 := hg.nw
  have := hg.cn w a1 a2
  unfold wpX11_yOf
  simp (disch := omega) only [zI_lit, zI_add, zI_sub, zI_mul, zI_neg, zI_le, zI_lt, zI_eq, zI_nat, zI_max, zI_min, zI_abs, forall_eq, Int.reduceNeg, Int.reduceAdd, Int.reduceMul, Int.reduceSub, Int.add_zero, Int.zero_add, Int.zero_mul, Int.toNat_zero]
  rw [hv.ys w m a1 a2 a3 a4]
  exact ⟨zI_in (by omega), h⟩
theorem sr_farAt (hg : g.Ok) (hv : WG g v) (h1 : g.hc w m) (h2 : g.hc o d) (h : post (zI (g.far w m o d)) ()) : wpX11_farAt post v (zI w) (zI m) (zI o) (zI d) := by
  unfold wpX11_farAt
  refine sr_xOf hg hv h1 ?_
  refine sr_yOf hg hv h1 ?_
  refine sr_xOf hg hv h2 ?_
  refine sr_yOf hg hv h2 ?_
  unfold wpX11_farOf
  simp (disch := omega) only [zI_lit, zI_add, zI_sub, zI_mul, zI_neg, zI_le, zI_lt, zI_eq, zI_nat, zI_max, zI_min, zI_abs, forall_eq, Int.reduceNeg, Int.reduceAdd, Int.reduceMul, Int.reduceSub, Int.add_zero, Int.zero_add, Int.zero_mul, Int.toNat_zero]
  exact h
end
