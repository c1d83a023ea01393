theorem zI_div {a b : Int} (h : (0 ≤ a ∧ a < 2147483648) ∧ 0 < b ∧ b < 2147483648) : zI a / zI b = zI (a / b) := by
  have h1 := pk_div (a := a.toNat) (d := b.toNat) (by omega) (by omega) (by omega)
  have e1 : nI a.toNat = zI a := by rw [zI_nI, Int.toNat_of_nonneg (by omega)]
  have e2 : nI b.toNat = zI b := by rw [zI_nI, Int.toNat_of_nonneg (by omega)]
  rw [e1, e2, zI_nI, Int.natCast_ediv, Int.toNat_of_nonneg (by omega), Int.toNat_of_nonneg (by omega)] at h1
  exact h1
theorem dm_of {c n p : Int} (hn : 0 < n) (h : 0 ≤ p ∧ p < n) : (c * n + p) / n = c ∧ (c * n + p) % n = p := by
  constructor
  · rw [Int.add_comm, Int.add_mul_ediv_right _ _ (by omega), Int.ediv_eq_zero_of_lt h.1 h.2]; omega
  · rw [Int.add_comm, Int.add_mul_emod_self_right]; exact Int.emod_eq_of_lt h.1 h.2
def Gd.ptx (g : Gd) (w n k : Int) : Int := n * g.px w (k / n) + (k % n) * (g.px w (min (g.cn w - 1) (k / n + 1)) - g.px w (k / n))
def Gd.pty (g : Gd) (w n k : Int) : Int := n * g.py w (k / n) + (k % n) * (g.py w (min (g.cn w - 1) (k / n + 1)) - g.py w (k / n))
theorem mix_eq (x y n p : Int) : n * x + p * (y - x) = x * (n - p) + y * p := by
  rw [Int.mul_sub, Int.mul_sub, Int.mul_comm n x, Int.mul_comm p y, Int.mul_comm p x]; omega
theorem mix_bd {x y n p : Int} (hx : 0 ≤ x ∧ x ≤ 999) (hy : 0 ≤ y ∧ y ≤ 999) (hn : n ≤ 8) (hp : 0 ≤ p ∧ p ≤ n) : 0 ≤ n * x + p * (y - x) ∧ n * x + p * (y - x) ≤ 7992 := by
  rw [mix_eq]
  have a1 := Int.mul_nonneg hx.1 (show 0 ≤ n - p by omega)
  have a2 := Int.mul_nonneg hy.1 hp.1
  have a3 : x * (n - p) ≤ 999 * (n - p) := Int.mul_le_mul_of_nonneg_right hx.2 (by omega)
  have a4 : y * p ≤ 999 * p := Int.mul_le_mul_of_nonneg_right hy.2 hp.1
  omega
section
variable {g : Gd} {xs ys cs ws v : Nat → Int32} {nw nl : Int32} {w o n c : Int}
theorem pt_bd (hg : g.Ok) (hw : g.hw w) (hn : 1 ≤ n ∧ n ≤ 8) {k : Int} (hk : 0 ≤ k ∧ k < n * (g.cn w - 1) + 1) : (0 ≤ g.ptx w n k ∧ g.ptx w n k ≤ 7992) ∧ 0 ≤ g.pty w n k ∧ g.pty w n k ≤ 7992 := by
  have e1 := hg.cn w hw.1 hw.2
  have d0 : 0 ≤ k / n := Int.ediv_nonneg hk.1 (by omega)
  have d1 : k / n ≤ g.cn w - 1 := Int.ediv_le_of_le_mul (by omega) (by rw [Int.mul_comm]; omega)
  have m0 := Int.emod_nonneg k (show n ≠ 0 by omega)
  have m1 := Int.emod_lt_of_pos k (show 0 < n by omega)
  have x1 := hg.px w (k / n) hw.1 hw.2 d0 (by omega)
  have x2 := hg.px w (min (g.cn w - 1) (k / n + 1)) hw.1 hw.2 (by omega) (by omega)
  have y1 := hg.py w (k / n) hw.1 hw.2 d0 (by omega)
  have y2 := hg.py w (min (g.cn w - 1) (k / n + 1)) hw.1 hw.2 (by omega) (by omega)
  exact ⟨mix_bd x1 x2 hn.2 (by omega), mix_bd y1 y2 hn.2 (by omega)⟩
def Pts (g : Gd) (w n t : Int) (fx fy : Nat → Int32) : Prop := ∀ k, 0 ≤ k → k < t → fx k.toNat = zI (g.ptx w n k) ∧ fy k.toNat = zI (g.pty w n k)
theorem Pts.next {t : Int} {fx fy : Nat → Int32} (h : Pts g w n t fx fy) (ht : 0 ≤ t) : Pts g w n (t + 1) (upd fx t.toNat (zI (g.ptx w n t))) (upd fy t.toNat (zI (g.pty w n t))) := by
  intro k h0 h1
  rw [upd_eq, upd_eq]
  by_cases e : k = t
  · rw [e, if_pos rfl, if_pos rfl]; exact ⟨rfl, rfl⟩
  · rw [if_neg (by omega), if_neg (by omega)]; exact h k h0 (by omega)
theorem pt_at (hn : 1 ≤ n ∧ n ≤ 8) {p : Int} (hp : 0 ≤ p ∧ p < n) (hc : c < g.cn w - 1) : g.px w c * (n - p) + g.px w (c + 1) * p = g.ptx w n (c * n + p) ∧ g.py w c * (n - p) + g.py w (c + 1) * p = g.pty w n (c * n + p) := by
  have d := dm_of (c := c) (n := n) (p := p) (by omega) hp
  unfold Gd.ptx Gd.pty
  rw [d.1, d.2, show min (g.cn w - 1) (c + 1) = c + 1 by omega, mix_eq, mix_eq]
  exact ⟨rfl, rfl⟩
theorem pt_end (hn : 1 ≤ n ∧ n ≤ 8) : g.px w c * n = g.ptx w n (c * n) ∧ g.py w c * n = g.pty w n (c * n) := by
  have d := dm_of (c := c) (n := n) (p := 0) (by omega) (by omega)
  rw [Int.add_zero] at d
  unfold Gd.ptx Gd.pty
  rw [d.1, d.2, Int.zero_mul, Int.zero_mul, Int.add_zero, Int.add_zero, Int.mul_comm n, Int.mul_comm n]
  exact ⟨rfl, rfl⟩
theorem sp_lp26 {k16 : (Nat → Int32) → (Nat → Int32) → Int32 → Int32 → Int32 → Int32 → Int32 → Prop} {post : Int32 → ((Nat → Int32) × (Nat → Int32)) → Prop} (hg : g.Ok) (hc : CG g xs ys cs ws nw nl) (hw : g.hw w) (hn : 1 ≤ n ∧ n ≤ 8) (hc0 : 0 ≤ c ∧ c < g.cn w - 1)
    (hk : ∀ fx fy, Pts g w n ((c + 1) * n) fx fy → k16 fx fy (zI w) (zI n) (zI (g.cn w - 1)) (zI ((c + 1) * n)) (zI (c + 1))) :
    ∀ (j : Nat) (p : Int) (fx fy : Nat → Int32), 0 ≤ p → p + j = n → Pts g w n (c * n + p) fx fy → wpX5_layPoints_26 233 233 k16 post cs xs ys (j + 1) fx fy (zI w) (zI n) (zI (g.cn w - 1)) (zI (c * n + p)) (zI c) (zI p) := by
  have e1 := hg.cn w hw.1 hw.2
  have e2 : c * n ≤ 28 * 8 := Int.mul_le_mul (by omega) (by omega) (by omega) (by omega)
  have e3 : 0 ≤ c * n := Int.mul_nonneg hc0.1 (by omega)
  have e4 : (c + 1) * n = c * n + n := by rw [Int.add_mul, Int.one_mul]
  intro j
  induction j with
  | zero =>
    intro p fx fy h0 h1 hP
    rw [e4] at hk
    rw [show p = n by omega] at hP ⊢
    unfold wpX5_layPoints_26
    simp (disch := omega) only [zI_lit, zI_add, zI_sub, zI_mul, zI_neg, zI_le, zI_lt, zI_eq, zI_nat, zI_max, zI_min, zI_abs, forall_eq, Int.reduceNeg, Int.reduceAdd, Int.reduceMul, Int.reduceSub, Int.add_zero, Int.zero_add, Int.zero_mul, Int.toNat_zero]
    exact ⟨fun _ => hk fx fy hP, fun h => absurd (Int.le_refl _) h⟩
  | succ j ih =>
    intro p fx fy h0 h1 hP
    have pa := pt_at (g := g) (w := w) (c := c) hn (p := p) (by omega) hc0.2
    unfold wpX5_layPoints_26
    simp (disch := omega) only [zI_lit, zI_add, zI_sub, zI_mul, zI_neg, zI_le, zI_lt, zI_eq, zI_nat, zI_max, zI_min, zI_abs, forall_eq, Int.reduceNeg, Int.reduceAdd, Int.reduceMul, Int.reduceSub, Int.add_zero, Int.zero_add, Int.zero_mul, Int.toNat_zero]
    refine ⟨fun h => absurd h (by omega), fun _ => ?_⟩
    refine sp_xOf hg hc ⟨hw, by omega, by omega⟩ ?_
    refine sp_xOf hg hc ⟨hw, by omega, by omega⟩ ?_
    refine ⟨zI_in (by omega), ?_⟩
    refine sp_yOf hg hc ⟨hw, by omega, by omega⟩ ?_
    refine sp_yOf hg hc ⟨hw, by omega, by omega⟩ ?_
    refine ⟨zI_in (by omega), ?_⟩
    simp (disch := omega) only [zI_lit, zI_add, zI_sub, zI_mul, zI_neg, zI_le, zI_lt, zI_eq, zI_nat, zI_max, zI_min, zI_abs, forall_eq, Int.reduceNeg, Int.reduceAdd, Int.reduceMul, Int.reduceSub, Int.add_zero, Int.zero_add, Int.zero_mul, Int.toNat_zero]
    rw [pa.1, pa.2, Int.add_assoc]
    refine ih (p + 1) _ _ (by omega) (by omega) ?_
    rw [← Int.add_assoc]
    exact hP.next (by omega)
theorem sp_lp16 {post : Int32 → ((Nat → Int32) × (Nat → Int32)) → Prop} (hg : g.Ok) (hc : CG g xs ys cs ws nw nl) (hw : g.hw w) (hn : 1 ≤ n ∧ n ≤ 8)
    (hp : ∀ fx fy, Pts g w n (n * (g.cn w - 1) + 1) fx fy → post (zI (n * (g.cn w - 1) + 1)) (fx, fy)) :
    ∀ (j : Nat) (c : Int) (fx fy : Nat → Int32), 0 ≤ c → c + j = g.cn w - 1 → Pts g w n (c * n) fx fy → wpX5_layPoints_16 233 233 post cs xs ys (j + 1) fx fy (zI w) (zI n) (zI (g.cn w - 1)) (zI (c * n)) (zI c) := by
  have e1 := hg.cn w hw.1 hw.2
  intro j
  induction j with
  | zero =>
    intro c fx fy h0 h1 hP
    have e2 : c * n ≤ 29 * 8 := Int.mul_le_mul (by omega) (by omega) (by omega) (by omega)
    have e3 : 0 ≤ c * n := Int.mul_nonneg h0 (by omega)
    have pe := pt_end (g := g) (w := w) (c := c) hn
    obtain rfl : c = g.cn w - 1 := by omega
    rw [Int.mul_comm n] at hp
    unfold wpX5_layPoints_16
    simp (disch := omega) only [zI_lit, zI_add, zI_sub, zI_mul, zI_neg, zI_le, zI_lt, zI_eq, zI_nat, zI_max, zI_min, zI_abs, forall_eq, Int.reduceNeg, Int.reduceAdd, Int.reduceMul, Int.reduceSub, Int.add_zero, Int.zero_add, Int.zero_mul, Int.toNat_zero]
    refine ⟨fun _ => ?_, fun h => absurd (Int.le_refl _) h⟩
    refine sp_xOf hg hc ⟨hw, by omega, by omega⟩ ?_
    refine ⟨zI_in (by omega), ?_⟩
    refine sp_yOf hg hc ⟨hw, by omega, by omega⟩ ?_
    refine ⟨zI_in (by omega), ?_⟩
    simp (disch := omega) only [zI_lit, zI_add, zI_sub, zI_mul, zI_neg, zI_le, zI_lt, zI_eq, zI_nat, zI_max, zI_min, zI_abs, forall_eq, Int.reduceNeg, Int.reduceAdd, Int.reduceMul, Int.reduceSub, Int.add_zero, Int.zero_add, Int.zero_mul, Int.toNat_zero]
    rw [pe.1, pe.2]
    exact hp _ _ (hP.next e3)
  | succ j ih =>
    intro c fx fy h0 h1 hP
    have e2 : c * n ≤ 28 * 8 := Int.mul_le_mul (by omega) (by omega) (by omega) (by omega)
    have e3 : 0 ≤ c * n := Int.mul_nonneg h0 (by omega)
    unfold wpX5_layPoints_16
    simp (disch := omega) only [zI_lit, zI_add, zI_sub, zI_mul, zI_neg, zI_le, zI_lt, zI_eq, zI_nat, zI_max, zI_min, zI_abs, forall_eq, Int.reduceNeg, Int.reduceAdd, Int.reduceMul, Int.reduceSub, Int.add_zero, Int.zero_add, Int.zero_mul, Int.toNat_zero]
    refine ⟨fun h => absurd h (by omega), fun _ => ⟨n.toNat + 1, ?_⟩⟩
    have := sp_lp26 (k16 := fun y0 y1 y2 y3 y4 y5 y6 => wpX5_layPoints_16 233 233 post cs xs ys (j + 1) y0 y1 y2 y3 y4 y5 y6) (post := post) hg hc hw hn (c := c) ⟨h0, by omega⟩ (fun fx fy hP => ih (c + 1) fx fy (by omega) (by omega) hP) n.toNat 0 fx fy (by omega) (by omega) (by rw [Int.add_zero]; exact hP)
    rw [Int.add_zero] at this
    exact this
theorem sp_layPoints {post : Int32 → ((Nat → Int32) × (Nat → Int32)) → Prop} {fx fy : Nat → Int32} (hg : g.Ok) (hc : CG g xs ys cs ws nw nl) (hw : g.hw w) (hn : 1 ≤ n ∧ n ≤ 8)
    (hp : ∀ fx fy, Pts g w n (n * (g.cn w - 1) + 1) fx fy → post (zI (n * (g.cn w - 1) + 1)) (fx, fy)) : wpX5_layPoints 233 233 post cs xs ys fx fy (zI w) (zI n) := by
  have e0 := hg.nw
  have e1 := hg.cn w hw.1 hw.2
  have hw' := hw
  unfold Gd.hw at hw'
  unfold wpX5_layPoints
  simp (disch := omega) only [zI_lit, zI_add, zI_sub, zI_mul, zI_neg, zI_le, zI_lt, zI_eq, zI_nat, zI_max, zI_min, zI_abs, forall_eq, Int.reduceNeg, Int.reduceAdd, Int.reduceMul, Int.reduceSub, Int.add_zero, Int.zero_add, Int.zero_mul, Int.toNat_zero]
  rw [hc.cs w hw.1 hw.2]
  simp (disch := omega) only [zI_lit, zI_add, zI_sub, zI_mul, zI_neg, zI_le, zI_lt, zI_eq, zI_nat, zI_max, zI_min, zI_abs, forall_eq, Int.reduceNeg, Int.reduceAdd, Int.reduceMul, Int.reduceSub, Int.add_zero, Int.zero_add, Int.zero_mul, Int.toNat_zero]
  refine ⟨zI_in (by omega), (g.cn w - 1).toNat + 1, ?_⟩
  have := sp_lp16 hg hc hw hn hp (g.cn w - 1).toNat 0 fx fy (by omega) (by omega) (fun k a b => by rw [Int.zero_mul] at b; omega)
  rw [Int.zero_mul] at this
  exact this
theorem sr_points16 {post : Int32 → ((Nat → Int32) × (Nat → Int32)) → Prop} (hg : g.Ok) (hv : WG g v) (hw : g.hw w) (hn : 1 ≤ n ∧ n ≤ 8)
    (hp : ∀ fx fy, Pts g w n (n * (g.cn w - 1) + 1) fx fy → post (zI (n * (g.cn w - 1) + 1)) (fx, fy)) :
    ∀ (j : Nat) (k : Int) (fx fy : Nat → Int32), 0 ≤ k → k + j = n * (g.cn w - 1) + 1 → Pts g w n k fx fy → wpX11_points_16 233 233 post v (j + 1) fx fy (zI w) (zI n) (zI (n * (g.cn w - 1) + 1)) (zI k) := by
  have e1 := hg.cn w hw.1 hw.2
  have e2 : n * (g.cn w - 1) ≤ 8 * 29 := Int.mul_le_mul (by omega) (by omega) (by omega) (by omega)
  have e3 : 0 ≤ n * (g.cn w - 1) := Int.mul_nonneg (by omega) (by omega)
  intro j
  induction j with
  | zero =>
    intro k fx fy h0 h1 hP
    rw [show k = n * (g.cn w - 1) + 1 by omega] at hP ⊢
    unfold wpX11_points_16
    simp (disch := omega) only [zI_lit, zI_add, zI_sub, zI_mul, zI_neg, zI_le, zI_lt, zI_eq, zI_nat, zI_max, zI_min, zI_abs, forall_eq, Int.reduceNeg, Int.reduceAdd, Int.reduceMul, Int.reduceSub, Int.add_zero, Int.zero_add, Int.zero_mul, Int.toNat_zero]
    exact ⟨fun _ => hp fx fy hP, fun h => absurd (Int.le_refl _) h⟩
  | succ j ih =>
    intro k fx fy h0 h1 hP
    have d0 : 0 ≤ k / n := Int.ediv_nonneg h0 (by omega)
    have d1 : k / n ≤ g.cn w - 1 := Int.ediv_le_of_le_mul (by omega) (by rw [Int.mul_comm]; omega)
    have m0 := Int.emod_nonneg k (show n ≠ 0 by omega)
    have m1 := Int.emod_lt_of_pos k (show 0 < n by omega)
    have md : k - k / n * n = k % n := by have := Int.emod_def k n; rw [Int.mul_comm] at this; omega
    unfold wpX11_points_16
    simp (disch := omega) only [zI_lit, zI_add, zI_sub, zI_mul, zI_neg, zI_le, zI_lt, zI_eq, zI_nat, zI_max, zI_min, zI_abs, forall_eq, Int.reduceNeg, Int.reduceAdd, Int.reduceMul, Int.reduceSub, Int.add_zero, Int.zero_add, Int.zero_mul, Int.toNat_zero, zI_div, md]
    refine ⟨fun h => absurd h (by omega), fun _ => ⟨by omega, by omega, ?_⟩⟩
    refine sr_cornersOf hg hv hw ?_
    simp (disch := omega) only [zI_lit, zI_add, zI_sub, zI_mul, zI_neg, zI_le, zI_lt, zI_eq, zI_nat, zI_max, zI_min, zI_abs, forall_eq, Int.reduceNeg, Int.reduceAdd, Int.reduceMul, Int.reduceSub, Int.add_zero, Int.zero_add, Int.zero_mul, Int.toNat_zero]
    refine sr_xOf hg hv ⟨hw, by omega, by omega⟩ ?_
    refine sr_xOf hg hv ⟨hw, by omega, by omega⟩ ?_
    refine sr_xOf hg hv ⟨hw, by omega, by omega⟩ ?_
    refine ⟨zI_in (by omega), ?_⟩
    refine sr_yOf hg hv ⟨hw, by omega, by omega⟩ ?_
    refine sr_yOf hg hv ⟨hw, by omega, by omega⟩ ?_
    refine sr_yOf hg hv ⟨hw, by omega, by omega⟩ ?_
    refine ⟨zI_in (by omega), ?_⟩
    simp (disch := omega) only [zI_lit, zI_add, zI_sub, zI_mul, zI_neg, zI_le, zI_lt, zI_eq, zI_nat, zI_max, zI_min, zI_abs, forall_eq, Int.reduceNeg, Int.reduceAdd, Int.reduceMul, Int.reduceSub, Int.add_zero, Int.zero_add, Int.zero_mul, Int.toNat_zero]
    exact ih (k + 1) _ _ (by omega) (by omega) (hP.next h0)
theorem sr_points {post : Int32 → ((Nat → Int32) × (Nat → Int32)) → Prop} {fx fy : Nat → Int32} (hg : g.Ok) (hv : WG g v) (hw : g.hw w) (hn : 1 ≤ n ∧ n ≤ 8)
    (hp : ∀ fx fy, Pts g w n (n * (g.cn w - 1) + 1) fx fy → post (zI (n * (g.cn w - 1) + 1)) (fx, fy)) : wpX11_points 233 233 post v fx fy (zI w) (zI n) := by
  have e3 : 0 ≤ n * (g.cn w - 1) := Int.mul_nonneg (by omega) (by have := hg.cn w hw.1 hw.2; omega)
  unfold wpX11_points
  refine sr_cornersOf hg hv hw ?_
  simp (disch := omega) only [zI_lit, zI_add, zI_sub, zI_mul, zI_neg, zI_le, zI_lt, zI_eq, zI_nat, zI_max, zI_min, zI_abs, forall_eq, Int.reduceNeg, Int.reduceAdd, Int.reduceMul, Int.reduceSub, Int.add_zero, Int.zero_add, Int.zero_mul, Int.toNat_zero]
  exact ⟨(n * (g.cn w - 1) + 1).toNat + 1, sr_points16 hg hv hw hn hp _ 0 fx fy (by omega) (by omega) (fun k a b => by omega)⟩
end
theorem Agr.max {x y a b : Int} (h : Agr x y) (h' : Agr a b) : Agr (max x a) (max y b) := by
  unfold Agr at h h' ⊢; omega
theorem Agr.min {x y a b : Int} (h : Agr x y) (h' : Agr a b) : Agr (min x a) (min y b) := by
  unfold Agr at h h' ⊢; omega
theorem Agr.far : Agr 2147483647 2000000000 := Or.inl ⟨rfl, rfl⟩
theorem Agr.of {x : Int} (h : 0 ≤ x ∧ x < 2000000000) : Agr x x := Or.inr ⟨rfl, h⟩
theorem Fw_agr {q1 q2 : Int → Int → Int} {M D : Int} (hq : ∀ m d, 0 ≤ m → m < M → 0 ≤ d → d < D → Agr (q1 m d) (q2 m d)) : ∀ (n : Nat) (m d : Int), (m + 1).toNat + (d + 1).toNat = n → m < M → d < D → Agr (Fw q1 2147483647 m d) (Fw q2 2000000000 m d) := by
  intro n
  induction n using Nat.strongRecOn with
  | _ n ih =>
    intro m d hn hm hd
    by_cases h : m < 0 ∨ d < 0
    · rw [Fw_out h, Fw_out h]; exact Agr.far
    · have hq' := hq m d (by omega) hm (by omega) hd
      by_cases h2 : m = 0 ∧ d = 0
      · rw [h2.1, h2.2] at hq' ⊢
        rw [Fw_zero, Fw_zero]; exact hq'.max (Agr.of (by omega))
      · rw [Fw_in (by omega) (by omega) h2, Fw_in (by omega) (by omega) h2]
        exact hq'.max ((ih _ (by omega) (m - 1) (d - 1) rfl (by omega) (by omega)).min ((ih _ (by omega) (m - 1) d rfl (by omega) (by omega)).min (ih _ (by omega) m (d - 1) rfl (by omega) (by omega))))
theorem Fw_fin {q : Int → Int → Int} {F B M D : Int} (hB : 0 ≤ B) (hq : ∀ m d, 0 ≤ m → m < M → 0 ≤ d → d < D → q m d ≤ B) : ∀ (n : Nat) (m d : Int), (m + 1).toNat + (d + 1).toNat = n → 0 ≤ m → 0 ≤ d → m < M → d < D → Fw q F m d ≤ B := by
  intro n
  induction n using Nat.strongRecOn with
  | _ n ih =>
    intro m d hn h0 h1 hm hd
    have hq' := hq m d h0 hm h1 hd
    by_cases h2 : m = 0 ∧ d = 0
    · rw [h2.1, h2.2] at hq' ⊢
      rw [Fw_zero]; omega
    · rw [Fw_in h0 h1 h2]
      by_cases h3 : m = 0
      · have := ih _ (by omega) m (d - 1) rfl (by omega) (by omega) (by omega) (by omega)
        omega
      · have := ih _ (by omega) (m - 1) d rfl (by omega) (by omega) (by omega) (by omega)
        omega
