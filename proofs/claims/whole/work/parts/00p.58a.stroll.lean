def Fx (v v' : Nat → Int32) : Prop := ∀ k : Nat, k < 4 ∨ (14 ≤ k ∧ k < 778) ∨ 858 ≤ k → v' k = v k
theorem Fx.rf (v : Nat → Int32) : Fx v v := fun _ _ => rfl
theorem Fx.trans {v v' v'' : Nat → Int32} (h : Fx v v') (h' : Fx v' v'') : Fx v v'' := fun k hk => (h' k hk).trans (h k hk)
theorem Fx.upd {v : Nat → Int32} {j : Nat} {x : Int32} (hj : 4 ≤ j ∧ (j < 14 ∨ 778 ≤ j) ∧ j < 858) : Fx v (upd v j x) := by
  intro k hk
  rw [upd_eq, if_neg (by omega)]
theorem WG.fx {g : Gd} {v v' : Nat → Int32} (hg : g.Ok) (h : WG g v) (hf : Fx v v') : WG g v' := by
  have e0 := hg.nw
  have e1 := hg.nl
  refine ⟨by rw [hf 0 (by omega)]; exact h.nw, by rw [hf 1 (by omega)]; exact h.nl, by rw [hf 2 (by omega)]; exact h.nt, fun w a b => ?_, fun w c a b c1 c2 => ?_, fun w c a b c1 c2 => ?_, fun n j a b c1 c2 => ?_⟩
  · rw [hf _ (by omega)]; exact h.cs w a b
  · have := hg.cn w a b
    rw [hf _ (by omega)]; exact h.xs w c a b c1 c2
  · have := hg.cn w a b
    rw [hf _ (by omega)]; exact h.ys w c a b c1 c2
  · rw [hf _ (by omega)]; exact h.ws n j a b c1 c2
def SHR (g : Gd) (S : Int → Int → Int → Int → Bool) (v : Nat → Int32) : Prop := ∀ v', Fx v v' → SH2 g S v'
theorem SHR.fx {g : Gd} {S : Int → Int → Int → Int → Bool} {v v' : Nat → Int32} (h : SHR g S v) (hf : Fx v v') : SHR g S v' := fun v'' h'' => h v'' (hf.trans h'')
def gok (g : Gd) (S : Int → Int → Int → Int → Bool) (w o l m d s : Int) : Prop := (m + mv s < g.cn w ∧ d + dv s < g.cn o) ∧ g.far w (m + mv s) o (d + dv s) ≤ l ∧ S w (m + mv s) o (d + dv s) = false
section
variable {g : Gd} {S : Int → Int → Int → Int → Bool} {xs ys cs ws os v : Nat → Int32} {nw nl sz : Int32} {w o l m d s n r : Int}
theorem mvdv (hs : s = 1 ∨ s = 2 ∨ s = 3) : (0 ≤ mv s ∧ mv s ≤ 1) ∧ 0 ≤ dv s ∧ dv s ≤ 1 := by have := mv_dv s; omega
theorem sp_allows {post : Int32 → ((Nat → Int32)) → Prop} {sn : Nat → Int32} (hg : g.Ok) (hc : CG g xs ys cs ws nw nl) (hS : SH1 g S nl xs ys ws sz os) (hw : -2147483648 ≤ w ∧ w < 2147483648) (hm : -2147483648 ≤ m ∧ m < 2147483648) (ho : -2147483648 ≤ o ∧ o < 2147483648) (hd : -2147483648 ≤ d ∧ d < 2147483648) (hl : -2147483648 ≤ l ∧ l < 2147483648)
    (h1 : g.hc w m → g.hc o d → g.far w m o d ≤ l → S w m o d = false → ∀ sn, post 1 sn) (h0 : ¬ (g.hc w m ∧ g.hc o d ∧ g.far w m o d ≤ l ∧ S w m o d = false) → ∀ sn, post 0 sn) : wpX6_allows post nw nl cs xs ys ws sz os sn (zI w) (zI m) (zI o) (zI d) (zI l) := by
  unfold wpX6_allows
  refine sp_hasCorner hg hc hw hm (fun a1 => ⟨fun h => absurd h (by decide), fun _ => ?_⟩) (fun a1 => ⟨fun _ => h0 (fun h => a1 h.1) _, fun h => absurd rfl h⟩)
  refine sp_hasCorner hg hc ho hd (fun a2 => ⟨fun h => absurd h (by decide), fun _ => ?_⟩) (fun a2 => ⟨fun _ => h0 (fun h => a2 h.2.1) _, fun h => absurd rfl h⟩)
  refine sp_distance hg hc a1 a2 ?_
  have fb := Gd.far_le hg a1 a2
  rw [zI_lt (by omega)]
  refine ⟨fun h => h0 (fun h' => by omega) _, fun h => ?_⟩
  refine hS _ _ w m o d a1 a2 (fun hs sn' => ⟨fun _ => h0 (fun h' => by rw [hs] at h'; exact absurd h'.2.2.2 (by decide)) _, fun h => absurd h (by decide)⟩) (fun hs sn' => ⟨fun h => absurd rfl h, fun _ => h1 a1 a2 (by omega) hs _⟩)
theorem sp_canGo {post : Int32 → ((Nat → Int32)) → Prop} {sn : Nat → Int32} {uw : Int32} (hg : g.Ok) (hc : CG g xs ys cs ws nw nl) (hS : SH1 g S nl xs ys ws sz os) (hu : uw = 1) (h1 : g.hc w m) (h2 : g.hc o d) (hl : -2147483648 ≤ l ∧ l < 2147483648) (hs : s = 1 ∨ s = 2 ∨ s = 3)
    (hy : gok g S w o l m d s → ∀ sn, post 1 sn) (hn : ¬ gok g S w o l m d s → ∀ sn, post 0 sn) : wpX6_canGo post uw (zI w) (zI o) (zI l) (zI m) (zI d) nw nl cs xs ys ws sz os sn (zI s) := by
  have e0 := hg.nw
  have e1 := hg.cn w h1.1.1 h1.1.2
  have e2 := hg.cn o h2.1.1 h2.1.2
  have mb := mvdv hs
  have h1' := h1
  have h2' := h2
  unfold Gd.hc at h1' h2'
  unfold wpX6_canGo
  refine ⟨fun h => absurd h (by rw [hu]; decide), fun _ => ?_⟩
  refine sp_manMoves hs ?_
  refine sp_dogMoves hs ?_
  simp (disch := omega) only [zI_lit, zI_add, zI_sub, zI_mul, zI_neg, zI_le, zI_lt, zI_eq, zI_nat, zI_max, zI_min, zI_abs, forall_eq, Int.reduceNeg, Int.reduceAdd, Int.reduceMul, Int.reduceSub, Int.add_zero, Int.zero_add, Int.zero_mul, Int.toNat_zero]
  refine sp_allows hg hc hS (by omega) (by omega) (by omega) (by omega) hl (fun a1 a2 a3 a4 sn => ⟨fun h => absurd h (by decide), fun _ => hy ⟨⟨a1.2.2, a2.2.2⟩, a3, a4⟩ _⟩) (fun h sn => ⟨fun _ => hn (fun h' => h ⟨⟨h1.1, by omega, h'.1.1⟩, ⟨h2.1, by omega, h'.1.2⟩, h'.2⟩) _, fun h => absurd rfl h⟩)
theorem sr_canGo {post : Int32 → ((Nat → Int32)) → Prop} {f2 : Nat → Int32} (hg : g.Ok) (hv : WG g v) (hS : SHR g S v) (h6 : v 6 = 1) (h7 : v 7 = zI w) (h8 : v 8 = zI o) (h9 : v 9 = zI l) (h10 : v 10 = zI m) (h11 : v 11 = zI d) (h1 : g.hc w m) (h2 : g.hc o d) (hl : -2147483648 ≤ l ∧ l < 2147483648) (hs : s = 1 ∨ s = 2 ∨ s = 3)
    (hy : gok g S w o l m d s → ∀ sn, post 1 sn) (hn : ¬ gok g S w o l m d s → ∀ sn, post 0 sn) : wpX11_canGo post v f2 (zI s) := by
  have e1 := hg.cn w h1.1.1 h1.1.2
  have e2 := hg.cn o h2.1.1 h2.1.2
  have mb := mvdv hs
  have h1' := h1
  have h2' := h2
  unfold Gd.hc at h1' h2'
  unfold wpX11_canGo
  simp only [show (6 : Int32).toNatClampNeg = 6 from rfl, show (7 : Int32).toNatClampNeg = 7 from rfl, show (8 : Int32).toNatClampNeg = 8 from rfl, show (9 : Int32).toNatClampNeg = 9 from rfl, show (10 : Int32).toNatClampNeg = 10 from rfl, show (11 : Int32).toNatClampNeg = 11 from rfl, h6, h7, h8, h9, h10, h11, forall_eq]
  refine ⟨by unfold vp_in; decide, fun _ => ⟨by unfold vp_in; decide, by unfold vp_in; decide, by unfold vp_in; decide, ?_⟩, fun h => absurd h (by decide)⟩
  refine sr_manBy hs ?_
  simp (disch := omega) only [zI_lit, zI_add, zI_sub, zI_mul, zI_neg, zI_le, zI_lt, zI_eq, zI_nat, zI_max, zI_min, zI_abs, forall_eq, Int.reduceNeg, Int.reduceAdd, Int.reduceMul, Int.reduceSub, Int.add_zero, Int.zero_add, Int.zero_mul, Int.toNat_zero]
  refine ⟨zI_in (by omega), ?_⟩
  refine sr_dogBy hs ?_
  simp (disch := omega) only [zI_lit, zI_add, zI_sub, zI_mul, zI_neg, zI_le, zI_lt, zI_eq, zI_nat, zI_max, zI_min, zI_abs, forall_eq, Int.reduceNeg, Int.reduceAdd, Int.reduceMul, Int.reduceSub, Int.add_zero, Int.zero_add, Int.zero_mul, Int.toNat_zero]
  refine sr_cornersOf hg hv h1.1 ?_
  simp (disch := omega) only [zI_lit, zI_add, zI_sub, zI_mul, zI_neg, zI_le, zI_lt, zI_eq, zI_nat, zI_max, zI_min, zI_abs, forall_eq, Int.reduceNeg, Int.reduceAdd, Int.reduceMul, Int.reduceSub, Int.add_zero, Int.zero_add, Int.zero_mul, Int.toNat_zero]
  refine ⟨fun h => hn (fun h' => by have := h'.1; omega) _, fun ha => ?_⟩
  refine sr_cornersOf hg hv h2.1 ?_
  simp (disch := omega) only [zI_lit, zI_add, zI_sub, zI_mul, zI_neg, zI_le, zI_lt, zI_eq, zI_nat, zI_max, zI_min, zI_abs, forall_eq, Int.reduceNeg, Int.reduceAdd, Int.reduceMul, Int.reduceSub, Int.add_zero, Int.zero_add, Int.zero_mul, Int.toNat_zero]
  refine ⟨fun h => hn (fun h' => by have := h'.1; omega) _, fun hb => ?_⟩
  have c1 : g.hc w (m + mv s) := ⟨h1.1, by omega, by omega⟩
  have c2 : g.hc o (d + dv s) := ⟨h2.1, by omega, by omega⟩
  have fb := Gd.far_le hg c1 c2
  refine sr_farAt hg hv c1 c2 ?_
  rw [zI_lt (by omega)]
  refine ⟨zI_in (by omega), fun h => hn (fun h' => by have := h'.2.1; omega) _, fun hf => ?_⟩
  exact hS v (Fx.rf v) _ _ w (m + mv s) o (d + dv s) c1 c2 (fun hs' sn' => ⟨fun _ => hn (fun h' => absurd (hs'.symm.trans h'.2.2) (by decide)) _, fun h => absurd h (by decide)⟩) (fun hs' sn' => ⟨fun h => absurd rfl h, fun _ => hy ⟨⟨by omega, by omega⟩, by omega, hs'⟩ _⟩)
theorem sp_go {post : Int32 → (Int32 × Int32 × Int32 × Int32 × Int32 × (Nat → Int32) × (Nat → Int32)) → Prop} {grt rem : Int32} {f2 f3 : Nat → Int32} (hg : g.Ok) (hc : CG g xs ys cs ws nw nl) (h1 : g.hc w m) (h2 : g.hc o d) (hs : s = 1 ∨ s = 2 ∨ s = 3) (hgo : gok g S w o l m d s) (hn : 0 ≤ n ∧ n ≤ m + d) (hr : rem = zI r) (hr' : 0 ≤ r ∧ r ≤ 40)
    (hp : n < 58 → post (zI (g.far w (m + mv s) o (d + dv s))) (zI (m + mv s), zI (d + dv s), zI (n + 1), iMax grt (zI (g.far w (m + mv s) o (d + dv s))), zI (min (r + 1) 40), upd f2 n.toNat (zI s), upd f3 n.toNat grt)) :
    wpX6_go post (zI w) (zI o) xs ys (zI m) (zI d) (zI n) grt rem f2 f3 (zI s) := by
  have e1 := hg.cn w h1.1.1 h1.1.2
  have e2 := hg.cn o h2.1.1 h2.1.2
  have mb := mvdv hs
  have md := mv_dv s
  have h1' := h1
  have h2' := h2
  unfold Gd.hc at h1' h2'
  have gk := hgo.1
  unfold wpX6_go
  refine sp_manMoves hs ?_
  refine sp_dogMoves hs ?_
  simp (disch := omega) only [zI_lit, zI_add, zI_sub, zI_mul, zI_neg, zI_le, zI_lt, zI_eq, zI_nat, zI_max, zI_min, zI_abs, forall_eq, Int.reduceNeg, Int.reduceAdd, Int.reduceMul, Int.reduceSub, Int.add_zero, Int.zero_add, Int.zero_mul, Int.toNat_zero]
  refine sp_distance hg hc ⟨h1.1, by omega, by omega⟩ ⟨h2.1, by omega, by omega⟩ ?_
  unfold wpX7_advance
  rw [hr]
  simp (disch := omega) only [zI_lit, zI_add, zI_sub, zI_mul, zI_neg, zI_le, zI_lt, zI_eq, zI_nat, zI_max, zI_min, zI_abs, forall_eq, Int.reduceNeg, Int.reduceAdd, Int.reduceMul, Int.reduceSub, Int.add_zero, Int.zero_add, Int.zero_mul, Int.toNat_zero]
  refine ⟨fun _ => ⟨zI_in (by omega), zI_in (by omega), ?_⟩, fun h => absurd h (by omega)⟩
  refine sp_manMoves hs ?_
  simp (disch := omega) only [zI_lit, zI_add, zI_sub, zI_mul, zI_neg, zI_le, zI_lt, zI_eq, zI_nat, zI_max, zI_min, zI_abs, forall_eq, Int.reduceNeg, Int.reduceAdd, Int.reduceMul, Int.reduceSub, Int.add_zero, Int.zero_add, Int.zero_mul, Int.toNat_zero]
  refine sp_dogMoves hs ?_
  simp (disch := omega) only [zI_lit, zI_add, zI_sub, zI_mul, zI_neg, zI_le, zI_lt, zI_eq, zI_nat, zI_max, zI_min, zI_abs, forall_eq, Int.reduceNeg, Int.reduceAdd, Int.reduceMul, Int.reduceSub, Int.add_zero, Int.zero_add, Int.zero_mul, Int.toNat_zero]
  exact hp (by omega)
end
