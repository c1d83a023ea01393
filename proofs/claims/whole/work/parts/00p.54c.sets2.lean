section
variable {g : Gd} {S : Int → Int → Int → Int → Bool} {xs ys cs ws os v : Nat → Int32} {nw nl sz : Int32} {w o : Int} {s : Int32}
noncomputable def Gd.ga (g : Gd) (S : Int → Int → Int → Int → Bool) (s : Int32) (w o : Int) : Int := if o = w ∨ inS s o = false then 0 else g.lst S w o
noncomputable def Gd.ga2 (g : Gd) (S : Int → Int → Int → Int → Bool) (s : Int32) (w o : Int) : Int := if o = w ∨ inS s o = false then 0 else g.lst2 S w o
theorem ga_agr (hg : g.Ok) (hw : g.hw w) (ho : g.hw o) : Agr (g.ga S s w o) (g.ga2 S s w o) := by
  unfold Gd.ga Gd.ga2
  split
  · exact Agr.of (by omega)
  · exact Gd.lst_agr hg hw ho
noncomputable def Gd.gto (g : Gd) (S : Int → Int → Int → Int → Bool) (s : Int32) (w : Int) : Int := mx (g.ga S s w) 0 g.nw.toNat
noncomputable def Gd.gto2 (g : Gd) (S : Int → Int → Int → Int → Bool) (s : Int32) (w : Int) : Int := mx (g.ga2 S s w) 0 g.nw.toNat
theorem gto_agr (hg : g.Ok) (hw : g.hw w) : Agr (g.gto S s w) (g.gto2 S s w) := mx_agr (Agr.of (by omega)) _ (fun b h0 h1 => ga_agr hg hw ⟨h0, by omega⟩)
theorem ga_mx_bd (hg : g.Ok) (hw : g.hw w) : ∀ b : Nat, (b : Int) ≤ g.nw → (0 ≤ mx (g.ga S s w) 0 b ∧ mx (g.ga S s w) 0 b ≤ 2147483647) ∧ 0 ≤ mx (g.ga2 S s w) 0 b ∧ mx (g.ga2 S s w) 0 b ≤ 2000000000 := fun b hb => (mx_agr (a := g.ga S s w) (c := g.ga2 S s w) (Agr.of (x := 0) (by omega)) b (fun b' h0 h1 => ga_agr hg hw ⟨h0, by omega⟩)).bd
theorem sp_gto5 {post : Int32 → ((Nat → Int32) × Int32 × Int32 × (Nat → Int32) × (Nat → Int32)) → Prop} (hg : g.Ok) (hc : CG g xs ys cs ws nw nl) (hS : SH1 g S nl xs ys ws sz os) (hw : g.hw w)
    (hp : ∀ z, post (zI (if g.gto S s w = 2147483647 then -1 else g.gto S s w)) z) :
    ∀ (j b : Nat) (f8 : Nat → Int32) (r0 c0 : Int32) (f11 f12 : Nat → Int32), (b : Int) + j = g.nw → mx (g.ga S s w) 0 b < 2147483647 → wpX10_greatestToOthers_5 post nw nl cs xs ys ws sz os (j + 1) f8 r0 c0 f11 f12 (zI w) s (zI (mx (g.ga S s w) 0 b)) (zI b) := by
  have e0 := hg.nw
  have hw' := hw
  unfold Gd.hw at hw'
  rw [hc.nw]
  intro j
  induction j with
  | zero =>
    intro b f8 r0 c0 f11 f12 hb hlt
    have hp' := hp (f8, r0, c0, f11, f12)
    unfold Gd.gto at hp'
    rw [show g.nw.toNat = b by omega, if_neg (by omega)] at hp'
    unfold wpX10_greatestToOthers_5
    rw [zI_le (by omega)]
    exact ⟨fun _ => hp', fun h => absurd h (by omega)⟩
  | succ j ih =>
    intro b f8 r0 c0 f11 f12 hb hlt
    have mb := (ga_mx_bd (S := S) (s := s) hg hw b (by omega)).1
    have e : mx (g.ga S s w) 0 (b + 1) = max (mx (g.ga S s w) 0 b) (g.ga S s w b) := rfl
    have skip : (b = w ∨ inS s b = false) → ∀ f8 r0 c0 f11 f12, wpX10_greatestToOthers_62 (fun y0 y1 y2 y3 y4 y5 y6 y7 y8 => wpX10_greatestToOthers_5 post (zI g.nw) nl cs xs ys ws sz os (j + 1) y0 y1 y2 y3 y4 y5 y6 y7 y8) post (zI g.nw) nl cs xs ys ws sz os f8 r0 c0 f11 f12 (zI w) s (zI (mx (g.ga S s w) 0 b)) (zI b) := by
      intro h f8 r0 c0 f11 f12
      have en : g.ga S s w b = 0 := by unfold Gd.ga; rw [if_pos h]
      rw [en, show max (mx (g.ga S s w) 0 b) 0 = mx (g.ga S s w) 0 b by omega] at e
      have i := ih (b + 1) f8 r0 c0 f11 f12 (by omega) (by omega)
      rw [e] at i
      unfold wpX10_greatestToOthers_62
      simp (disch := omega) only [zI_lit, zI_add, zI_sub, zI_mul, zI_neg, zI_le, zI_lt, zI_eq, zI_nat, zI_max, zI_min, zI_abs, forall_eq, Int.reduceNeg, Int.reduceAdd, Int.reduceMul, Int.reduceSub, Int.add_zero, Int.zero_add, Int.zero_mul, Int.toNat_zero]
      exact i
    unfold wpX10_greatestToOthers_5
    rw [zI_le (by omega), zI_eq (by omega)]
    refine ⟨fun h => absurd h (by omega), fun _ => ⟨fun h => skip (Or.inl h) _ _ _ _ _, fun h => sp_isIn (fun hs => ⟨fun _ => ?_, fun h => absurd h (by decide)⟩) (fun hs => ⟨fun h => absurd rfl h, fun _ => skip (Or.inr hs) _ _ _ _ _⟩)⟩⟩
    have ho : g.hw b := ⟨by omega, by omega⟩
    have en : g.ga S s w b = g.lst S w b := by unfold Gd.ga; rw [if_neg (by rw [hs]; rintro (h' | h') <;> first | exact h h' | exact absurd h' (by decide))]
    have lb := (lst_bd (S := S) hg hw ho).1
    have eb := least_bd (S := S) hg hw ho
    rw [en] at e
    refine sp_shortest hg hc hS hw ho (fun fp fb sn _ _ => ?_)
    rw [show (-1 : Int32) = zI (-1) from rfl, zI_eq (by omega)]
    have el : g.least S w b = if g.lst S w b = 2147483647 then -1 else g.lst S w b := rfl
    refine ⟨fun h1 => ?_, fun h1 => ?_⟩
    · rw [if_neg (by intro h3; rw [if_pos h3] at el; exact h1 el)] at el
      rw [el]
      have hl : g.lst S w b ≠ 2147483647 := by
        intro h3
        have : g.least S w b = -1 := by unfold Gd.least; rw [if_pos h3]
        exact h1 this
      have i := ih (b + 1) sn (zI (g.cn w)) (zI (g.cn b)) fp fb (by omega) (by omega)
      rw [e] at i
      unfold wpX10_greatestToOthers_62
      simp (disch := omega) only [zI_lit, zI_add, zI_sub, zI_mul, zI_neg, zI_le, zI_lt, zI_eq, zI_nat, zI_max, zI_min, zI_abs, forall_eq, Int.reduceNeg, Int.reduceAdd, Int.reduceMul, Int.reduceSub, Int.add_zero, Int.zero_add, Int.zero_mul, Int.toNat_zero]
      exact i
    · have hl : g.lst S w b = 2147483647 := by split at el <;> omega
      have tot : g.gto S s w = 2147483647 := by
        have m1 := mx_mono (a := g.ga S s w) (c := 0) (b + 1) (g.nw.toNat - (b + 1))
        have m2 := (ga_mx_bd (S := S) (s := s) hg hw g.nw.toNat (by omega)).1
        rw [show b + 1 + (g.nw.toNat - (b + 1)) = g.nw.toNat by omega] at m1
        unfold Gd.gto
        omega
      have hp' := hp (sn, zI (g.cn w), zI (g.cn b), fp, fb)
      rw [if_pos tot] at hp'
      exact hp'
theorem sp_greatestToOthers {post : Int32 → ((Nat → Int32) × Int32 × Int32 × (Nat → Int32) × (Nat → Int32)) → Prop} {f8 f11 f12 : Nat → Int32} {r0 c0 : Int32} (hg : g.Ok) (hc : CG g xs ys cs ws nw nl) (hS : SH1 g S nl xs ys ws sz os) (hw : g.hw w)
    (hp : ∀ z, post (zI (if g.gto S s w = 2147483647 then -1 else g.gto S s w)) z) : wpX10_greatestToOthers post nw nl cs xs ys ws sz os f8 r0 c0 f11 f12 (zI w) s :=
  ⟨g.nw.toNat + 1, sp_gto5 hg hc hS hw hp g.nw.toNat 0 f8 r0 c0 f11 f12 (by have := hg.nw; omega) (by show (0 : Int) < 2147483647; omega)⟩
noncomputable def Gd.ma (g : Gd) (S : Int → Int → Int → Int → Bool) (s : Int32) (w : Int) : Int := if inS s w = false then 2147483647 else g.gto S s w
noncomputable def Gd.ma2 (g : Gd) (S : Int → Int → Int → Int → Bool) (s : Int32) (w : Int) : Int := if inS s w = false then 2000000000 else g.gto2 S s w
theorem ma_agr (hg : g.Ok) (hw : g.hw w) : Agr (g.ma S s w) (g.ma2 S s w) := by
  unfold Gd.ma Gd.ma2
  split
  · exact Agr.far
  · exact gto_agr hg hw
noncomputable def Gd.middle (g : Gd) (S : Int → Int → Int → Int → Bool) (s : Int32) : Int := (am (g.ma S s) 2147483647 g.nw.toNat).2
theorem middle_eq (hg : g.Ok) : g.middle S s = (am (g.ma2 S s) 2000000000 g.nw.toNat).2 :=
  (am_agr g.nw.toNat (fun b h0 h1 => ma_agr hg ⟨h0, by omega⟩)).2
theorem sp_middle8 {post : Int32 → ((Nat → Int32) × Int32 × Int32 × (Nat → Int32) × (Nat → Int32)) → Prop} (hg : g.Ok) (hc : CG g xs ys cs ws nw nl) (hS : SH1 g S nl xs ys ws sz os)
    (hp : ∀ z, post (zI (g.middle S s)) z) :
    ∀ (j b : Nat) (f8 : Nat → Int32) (r0 c0 : Int32) (f11 f12 : Nat → Int32), (b : Int) + j = g.nw → wpX10_middle_8 post nw nl cs xs ys ws sz os (j + 1) f8 r0 c0 f11 f12 s (zI (am (g.ma S s) 2147483647 b).2) (zI (am (g.ma S s) 2147483647 b).1) (zI b) := by
  have e0 := hg.nw
  have bd : ∀ b : Int, 0 ≤ b → b < g.nw → 0 ≤ g.ma S s b ∧ g.ma S s b ≤ 2147483647 := fun b h0 h1 => (ma_agr hg ⟨h0, h1⟩).bd.1
  obtain rfl : nw = zI g.nw := hc.nw
  intro j
  induction j with
  | zero =>
    intro b f8 r0 c0 f11 f12 hb
    have hp' := hp (f8, r0, c0, f11, f12)
    unfold Gd.middle at hp'
    rw [show g.nw.toNat = b by omega] at hp'
    unfold wpX10_middle_8
    rw [zI_le (by omega)]
    exact ⟨fun _ => hp', fun h => absurd h (by omega)⟩
  | succ j ih =>
    intro b f8 r0 c0 f11 f12 hb
    have ab := am_bd (F := 2147483647) (by omega) b (fun b' h0 h1 => bd b' h0 (by omega))
    have e : am (g.ma S s) 2147483647 (b + 1) = if g.ma S s b < (am (g.ma S s) 2147483647 b).1 then (g.ma S s b, (b : Int)) else am (g.ma S s) 2147483647 b := rfl
    have skip : ¬ g.ma S s b < (am (g.ma S s) 2147483647 b).1 → ∀ f8 r0 c0 f11 f12, wpX10_middle_62 (fun y0 y1 y2 y3 y4 y5 y6 y7 y8 => wpX10_middle_8 post (zI g.nw) nl cs xs ys ws sz os (j + 1) y0 y1 y2 y3 y4 y5 y6 y7 y8) post (zI g.nw) nl cs xs ys ws sz os f8 r0 c0 f11 f12 s (zI (am (g.ma S s) 2147483647 b).2) (zI (am (g.ma S s) 2147483647 b).1) (zI b) := by
      intro h f8 r0 c0 f11 f12
      have i := ih (b + 1) f8 r0 c0 f11 f12 (by omega)
      rw [e, if_neg h] at i
      unfold wpX10_middle_62
      simp (disch := omega) only [zI_lit, zI_add, zI_sub, zI_mul, zI_neg, zI_le, zI_lt, zI_eq, zI_nat, zI_max, zI_min, zI_abs, forall_eq, Int.reduceNeg, Int.reduceAdd, Int.reduceMul, Int.reduceSub, Int.add_zero, Int.zero_add, Int.zero_mul, Int.toNat_zero]
      exact i
    unfold wpX10_middle_8
    rw [zI_le (by omega)]
    refine ⟨fun h => absurd h (by omega), fun _ => sp_isIn (fun hs => ⟨fun _ => ?_, fun h => absurd h (by decide)⟩) (fun hs => ⟨fun h => absurd rfl h, fun _ => skip ?_ _ _ _ _ _⟩)⟩
    · have hw : g.hw b := ⟨by omega, by omega⟩
      have en : g.ma S s b = g.gto S s b := by unfold Gd.ma; rw [if_neg (by rw [hs]; decide)]
      have lb := (gto_agr (S := S) (s := s) hg hw).bd.1
      refine sp_greatestToOthers hg hc hS hw (fun z => ?_)
      rw [show (-1 : Int32) = zI (-1) from rfl, zI_eq (by split <;> omega), zI_le (by split <;> omega)]
      by_cases hF : g.gto S s b = 2147483647
      · rw [if_pos hF]
        exact ⟨fun _ => skip (by rw [en]; omega) _ _ _ _ _, fun h => absurd rfl h⟩
      · rw [if_neg hF]
        refine ⟨fun h => by omega, fun _ => ⟨fun h => skip (by rw [en]; omega) _ _ _ _ _, fun h => ?_⟩⟩
        have i := ih (b + 1) z.1 z.2.1 z.2.2.1 z.2.2.2.1 z.2.2.2.2 (by omega)
        rw [e, en, if_pos (by omega)] at i
        unfold wpX10_middle_62
        simp (disch := omega) only [zI_lit, zI_add, zI_sub, zI_mul, zI_neg, zI_le, zI_lt, zI_eq, zI_nat, zI_max, zI_min, zI_abs, forall_eq, Int.reduceNeg, Int.reduceAdd, Int.reduceMul, Int.reduceSub, Int.add_zero, Int.zero_add, Int.zero_mul, Int.toNat_zero]
        exact i
    · have en : g.ma S s b = 2147483647 := by unfold Gd.ma; rw [if_pos hs]
      omega
theorem sp_middle {post : Int32 → ((Nat → Int32) × Int32 × Int32 × (Nat → Int32) × (Nat → Int32)) → Prop} {f8 f11 f12 : Nat → Int32} {r0 c0 : Int32} (hg : g.Ok) (hc : CG g xs ys cs ws nw nl) (hS : SH1 g S nl xs ys ws sz os)
    (hp : ∀ z, post (zI (g.middle S s)) z) : wpX10_middle post nw nl cs xs ys ws sz os f8 r0 c0 f11 f12 s :=
  ⟨g.nw.toNat + 1, sp_middle8 hg hc hS hp g.nw.toNat 0 f8 r0 c0 f11 f12 (by have := hg.nw; omega)⟩
theorem sr_middle41 {k14 : Int32 → Int32 → Int32 → (Nat → Int32) → (Nat → Int32) → (Nat → Int32) → Int32 → Int32 → Int32 → Int32 → Prop} {post : Int32 → (Int32 × Int32 × Int32 × (Nat → Int32) × (Nat → Int32) × (Nat → Int32)) → Prop} {th : Int32} {best least : Int} (hg : g.Ok) (hv : WG g v) (hS : SH2 g S v) (hw : g.hw w) (hl : 0 ≤ least ∧ least ≤ 2000000000)
    (hy : g.gto2 S s w < least → ∀ m0 d0 f2 f3 f4, k14 th m0 d0 f2 f3 f4 s (zI w) (zI (g.gto2 S s w)) (zI (w + 1)))
    (hn : ¬ g.gto2 S s w < least → ∀ m0 d0 f2 f3 f4, k14 th m0 d0 f2 f3 f4 s (zI best) (zI least) (zI (w + 1))) :
    ∀ (j b : Nat) (m0 d0 : Int32) (f2 f3 f4 : Nat → Int32), (b : Int) + j = g.nw → wpX11_middle_41 k14 post v (j + 1) th m0 d0 f2 f3 f4 s (zI best) (zI least) (zI w) (zI (mx (g.ga2 S s w) 0 b)) (zI b) := by
  have e0 := hg.nw
  have hw' := hw
  unfold Gd.hw at hw'
  intro j
  induction j with
  | zero =>
    intro b m0 d0 f2 f3 f4 hb
    have mb := (ga_mx_bd (S := S) (s := s) hg hw b (by omega)).2
    unfold Gd.gto2 at hy hn
    rw [show g.nw.toNat = b by omega] at hy hn
    unfold wpX11_middle_41
    refine sr_ways hv ?_
    rw [zI_le (by omega), zI_lt (by omega)]
    unfold wpX11_middle_102
    simp (disch := omega) only [zI_lit, zI_add, zI_sub, zI_mul, zI_neg, zI_le, zI_lt, zI_eq, zI_nat, zI_max, zI_min, zI_abs, forall_eq, Int.reduceNeg, Int.reduceAdd, Int.reduceMul, Int.reduceSub, Int.add_zero, Int.zero_add, Int.zero_mul, Int.toNat_zero]
    exact ⟨fun _ => ⟨fun h => hy h _ _ _ _ _, fun h => hn h _ _ _ _ _⟩, fun h => absurd h (by omega)⟩
  | succ j ih =>
    intro b m0 d0 f2 f3 f4 hb
    have mb := (ga_mx_bd (S := S) (s := s) hg hw b (by omega)).2
    have e : mx (g.ga2 S s w) 0 (b + 1) = max (mx (g.ga2 S s w) 0 b) (g.ga2 S s w b) := rfl
    have skip : (b = w ∨ inS s b = false) → ∀ m0 d0 f2 f3 f4, wpX11_middle_81 (fun y0 y1 y2 y3 y4 y5 y6 y7 y8 y9 y10 y11 => wpX11_middle_41 k14 post v (j + 1) y0 y1 y2 y3 y4 y5 y6 y7 y8 y9 y10 y11) k14 post v th m0 d0 f2 f3 f4 s (zI best) (zI least) (zI w) (zI (mx (g.ga2 S s w) 0 b)) (zI b) := by
      intro h m0 d0 f2 f3 f4
      have en : g.ga2 S s w b = 0 := by unfold Gd.ga2; rw [if_pos h]
      rw [en, show max (mx (g.ga2 S s w) 0 b) 0 = mx (g.ga2 S s w) 0 b by omega] at e
      have i := ih (b + 1) m0 d0 f2 f3 f4 (by omega)
      rw [e] at i
      unfold wpX11_middle_81
      simp (disch := omega) only [zI_lit, zI_add, zI_sub, zI_mul, zI_neg, zI_le, zI_lt, zI_eq, zI_nat, zI_max, zI_min, zI_abs, forall_eq, Int.reduceNeg, Int.reduceAdd, Int.reduceMul, Int.reduceSub, Int.add_zero, Int.zero_add, Int.zero_mul, Int.toNat_zero]
      exact i
    unfold wpX11_middle_41
    refine sr_ways hv ?_
    rw [zI_le (by omega), zI_eq (by omega)]
    refine ⟨fun h => absurd h (by omega), fun _ => ⟨fun h => skip (Or.inl h) _ _ _ _ _, fun h => sr_has (fun hs => ⟨fun h => absurd h (by decide), fun _ => ?_⟩) (fun hs => ⟨fun _ => skip (Or.inr hs) _ _ _ _ _, fun h => absurd rfl h⟩)⟩⟩
    have ho : g.hw b := ⟨by omega, by omega⟩
    have en : g.ga2 S s w b = g.lst2 S w b := by unfold Gd.ga2; rw [if_neg (by rw [hs]; rintro (h' | h') <;> first | exact h h' | exact absurd h' (by decide))]
    have lb := (lst_bd (S := S) hg hw ho).2
    rw [en] at e
    refine sr_leastOf hg hv hS hw ho (fun sn ff fl _ _ => ?_)
    have i := ih (b + 1) (zI (g.cn w)) (zI (g.cn b)) sn ff fl (by omega)
    rw [e] at i
    unfold wpX11_middle_81
    simp (disch := omega) only [zI_lit, zI_add, zI_sub, zI_mul, zI_neg, zI_le, zI_lt, zI_eq, zI_nat, zI_max, zI_min, zI_abs, forall_eq, Int.reduceNeg, Int.reduceAdd, Int.reduceMul, Int.reduceSub, Int.add_zero, Int.zero_add, Int.zero_mul, Int.toNat_zero]
    exact i
theorem sr_middle14 {post : Int32 → (Int32 × Int32 × Int32 × (Nat → Int32) × (Nat → Int32) × (Nat → Int32)) → Prop} {th : Int32} (hg : g.Ok) (hv : WG g v) (hS : SH2 g S v)
    (hp : ∀ z, z.1 = th → post (zI (g.middle S s)) z) :
    ∀ (j b : Nat) (m0 d0 : Int32) (f2 f3 f4 : Nat → Int32), (b : Int) + j = g.nw → wpX11_middle_14 post v (j + 1) th m0 d0 f2 f3 f4 s (zI (am (g.ma2 S s) 2000000000 b).2) (zI (am (g.ma2 S s) 2000000000 b).1) (zI b) := by
  have e0 := hg.nw
  have bd : ∀ b : Int, 0 ≤ b → b < g.nw → 0 ≤ g.ma2 S s b ∧ g.ma2 S s b ≤ 2000000000 := fun b h0 h1 => (ma_agr hg ⟨h0, h1⟩).bd.2
  intro j
  induction j with
  | zero =>
    intro b m0 d0 f2 f3 f4 hb
    have hp' := hp (th, m0, d0, f2, f3, f4) rfl
    rw [middle_eq hg, show g.nw.toNat = b by omega] at hp'
    unfold wpX11_middle_14
    refine sr_ways hv ?_
    rw [zI_le (by omega)]
    exact ⟨fun _ => hp', fun h => absurd h (by omega)⟩
  | succ j ih =>
    intro b m0 d0 f2 f3 f4 hb
    have ab := am_bd (F := 2000000000) (by omega) b (fun b' h0 h1 => bd b' h0 (by omega))
    have e : am (g.ma2 S s) 2000000000 (b + 1) = if g.ma2 S s b < (am (g.ma2 S s) 2000000000 b).1 then (g.ma2 S s b, (b : Int)) else am (g.ma2 S s) 2000000000 b := rfl
    have i : ∀ m0 d0 f2 f3 f4, _ := fun m0 d0 f2 f3 f4 => ih (b + 1) m0 d0 f2 f3 f4 (by omega)
    rw [e] at i
    unfold wpX11_middle_14
    refine sr_ways hv ?_
    rw [zI_le (by omega)]
    refine ⟨fun h => absurd h (by omega), fun _ => sr_has (fun hs => ⟨fun _ => ⟨g.nw.toNat + 1, ?_⟩, fun h => absurd h (by decide)⟩) (fun hs => ⟨fun h => absurd rfl h, fun _ => ?_⟩)⟩
    · have en : g.ma2 S s b = g.gto2 S s b := by unfold Gd.ma2; rw [if_neg (by rw [hs]; decide)]
      rw [en] at i
      refine sr_middle41 (w := b) hg hv hS ⟨by omega, by omega⟩ ab.1 (fun h m0 d0 f2 f3 f4 => ?_) (fun h m0 d0 f2 f3 f4 => ?_) g.nw.toNat 0 m0 d0 f2 f3 f4 (by omega)
      · have := i m0 d0 f2 f3 f4
        rw [if_pos h] at this; exact this
      · have := i m0 d0 f2 f3 f4
        rw [if_neg h] at this; exact this
    · have := i m0 d0 f2 f3 f4
      have en : g.ma2 S s b = 2000000000 := by unfold Gd.ma2; rw [if_pos hs]
      rw [if_neg (by omega)] at this
      unfold wpX11_middle_102
      simp (disch := omega) only [zI_lit, zI_add, zI_sub, zI_mul, zI_neg, zI_le, zI_lt, zI_eq, zI_nat, zI_max, zI_min, zI_abs, forall_eq, Int.reduceNeg, Int.reduceAdd, Int.reduceMul, Int.reduceSub, Int.add_zero, Int.zero_add, Int.zero_mul, Int.toNat_zero]
      exact this
theorem sr_middle {post : Int32 → (Int32 × Int32 × Int32 × (Nat → Int32) × (Nat → Int32) × (Nat → Int32)) → Prop} {th m0 d0 : Int32} {f2 f3 f4 : Nat → Int32} (hg : g.Ok) (hv : WG g v) (hS : SH2 g S v)
    (hp : ∀ z, z.1 = 0 → post (zI (g.middle S s)) z) : wpX11_middle post v th m0 d0 f2 f3 f4 s :=
  ⟨g.nw.toNat + 1, sr_middle14 hg hv hS hp g.nw.toNat 0 m0 d0 f2 f3 f4 (by have := hg.nw; omega)⟩
noncomputable def Gd.pa (g : Gd) (S : Int → Int → Int → Int → Bool) (s : Int32) (w k : Int) : Int := if inS s w = true ∧ inS s (w + 1 + k) = true then g.lst S w (w + 1 + k) else 0
noncomputable def Gd.pa2 (g : Gd) (S : Int → Int → Int → Int → Bool) (s : Int32) (w k : Int) : Int := if inS s w = true ∧ inS s (w + 1 + k) = true then g.lst2 S w (w + 1 + k) else 0
noncomputable def Gd.po (g : Gd) (S : Int → Int → Int → Int → Bool) (s : Int32) : Nat → Int
  | 0 => 0
  | k + 1 => mx (g.pa S s k) (g.po S s k) (g.nw.toNat - (k + 1))
noncomputable def Gd.po2 (g : Gd) (S : Int → Int → Int → Int → Bool) (s : Int32) : Nat → Int
  | 0 => 0
  | k + 1 => mx (g.pa2 S s k) (g.po2 S s k) (g.nw.toNat - (k + 1))
theorem pa_agr (hg : g.Ok) {b k : Int} (hb : g.hw b) (hk : g.hw (b + 1 + k)) : Agr (g.pa S s b k) (g.pa2 S s b k) := by
  unfold Gd.pa Gd.pa2
  split
  · exact Gd.lst_agr hg hb hk
  · exact Agr.of (by omega)
theorem po_agr (hg : g.Ok) : ∀ b : Nat, (b : Int) ≤ g.nw → Agr (g.po S s b) (g.po2 S s b) := by
  intro b
  induction b with
  | zero => intro _; show Agr 0 0; exact Agr.of (by omega)
  | succ b ih => intro h; exact mx_agr (ih (by omega)) _ (fun k h0 h1 => pa_agr hg ⟨by omega, by omega⟩ ⟨by omega, by omega⟩)
theorem pm_agr (hg : g.Ok) (b k : Nat) (h : (b : Int) + 1 + k ≤ g.nw) : Agr (mx (g.pa S s b) (g.po S s b) k) (mx (g.pa2 S s b) (g.po2 S s b) k) :=
  mx_agr (po_agr hg b (by omega)) k (fun k h0 h1 => pa_agr hg ⟨by omega, by omega⟩ ⟨by omega, by omega⟩)
theorem po_mono (b : Nat) : ∀ k : Nat, g.po S s b ≤ g.po S s (b + k) := by
  intro k
  induction k with
  | zero => exact Int.le_refl _
  | succ k ih =>
    have := mx_mono (a := g.pa S s ((b + k : Nat) : Int)) (c := g.po S s (b + k)) 0 (g.nw.toNat - (b + k + 1))
    rw [Nat.zero_add] at this
    exact Int.le_trans ih this
noncomputable def Gd.own (g : Gd) (S : Int → Int → Int → Int → Bool) (s : Int32) : Int := if g.po S s g.nw.toNat = 2147483647 then -1 else g.po S s g.nw.toNat
theorem own_eq (hg : g.Ok) : g.own S s = if g.po2 S s g.nw.toNat = 2000000000 then -1 else g.po2 S s g.nw.toNat := (po_agr hg _ (by have := hg.nw; omega)).none
theorem sp_own23 {k4 : (Nat → Int32) → Int32 → Int32 → (Nat → Int32) → (Nat → Int32) → Int32 → Int32 → Int32 → Prop} {post : Int32 → ((Nat → Int32) × Int32 × Int32 × (Nat → Int32) × (Nat → Int32)) → Prop} {b : Nat} (hg : g.Ok) (hc : CG g xs ys cs ws nw nl) (hS : SH1 g S nl xs ys ws sz os) (hb : (b : Int) < g.nw)
    (hp : ∀ z, post (zI (g.own S s)) z)
    (hk : g.po S s (b + 1) < 2147483647 → ∀ f8 r0 c0 f11 f12, k4 f8 r0 c0 f11 f12 s (zI (g.po S s (b + 1))) (zI (b + 1))) :
    ∀ (j k : Nat) (f8 : Nat → Int32) (r0 c0 : Int32) (f11 f12 : Nat → Int32), (b : Int) + 1 + k + j = g.nw → mx (g.pa S s b) (g.po S s b) k < 2147483647 → wpX10_greatestOfPairs_23 k4 post nw nl cs xs ys ws sz os (j + 1) f8 r0 c0 f11 f12 s (zI (mx (g.pa S s b) (g.po S s b) k)) (zI b) (zI (b + 1 + k)) := by
  have e0 := hg.nw
  rw [hc.nw]
  intro j
  induction j with
  | zero =>
    intro k f8 r0 c0 f11 f12 hj hlt
    have e : g.po S s (b + 1) = mx (g.pa S s b) (g.po S s b) k := by
      show mx (g.pa S s b) (g.po S s b) (g.nw.toNat - (b + 1)) = _
      rw [show g.nw.toNat - (b + 1) = k by omega]
    rw [e] at hk
    unfold wpX10_greatestOfPairs_23
    simp (disch := omega) only [zI_lit, zI_add, zI_sub, zI_mul, zI_neg, zI_le, zI_lt, zI_eq, zI_nat, zI_max, zI_min, zI_abs, forall_eq, Int.reduceNeg, Int.reduceAdd, Int.reduceMul, Int.reduceSub, Int.add_zero, Int.zero_add, Int.zero_mul, Int.toNat_zero]
    exact ⟨fun _ => hk hlt _ _ _ _ _, fun h => absurd h (by omega)⟩
  | succ j ih =>
    intro k f8 r0 c0 f11 f12 hj hlt
    have mb := (pm_agr (S := S) (s := s) hg b k (by omega)).bd.1
    have e : mx (g.pa S s b) (g.po S s b) (k + 1) = max (mx (g.pa S s b) (g.po S s b) k) (g.pa S s b k) := rfl
    have skip : ¬ (inS s b = true ∧ inS s (b + 1 + k) = true) → ∀ f8 r0 c0 f11 f12, wpX10_greatestOfPairs_82 (fun y0 y1 y2 y3 y4 y5 y6 y7 y8 => wpX10_greatestOfPairs_23 k4 post (zI g.nw) nl cs xs ys ws sz os (j + 1) y0 y1 y2 y3 y4 y5 y6 y7 y8) k4 post (zI g.nw) nl cs xs ys ws sz os f8 r0 c0 f11 f12 s (zI (mx (g.pa S s b) (g.po S s b) k)) (zI b) (zI (b + 1 + k)) := by
      intro h f8 r0 c0 f11 f12
      have en : g.pa S s b k = 0 := by unfold Gd.pa; rw [if_neg h]
      rw [en, show max (mx (g.pa S s b) (g.po S s b) k) 0 = mx (g.pa S s b) (g.po S s b) k by omega] at e
      have i := ih (k + 1) f8 r0 c0 f11 f12 (by omega) (by omega)
      rw [e] at i
      unfold wpX10_greatestOfPairs_82
      simp (disch := omega) only [zI_lit, zI_add, zI_sub, zI_mul, zI_neg, zI_le, zI_lt, zI_eq, zI_nat, zI_max, zI_min, zI_abs, forall_eq, Int.reduceNeg, Int.reduceAdd, Int.reduceMul, Int.reduceSub, Int.add_zero, Int.zero_add, Int.zero_mul, Int.toNat_zero]
      exact i
    unfold wpX10_greatestOfPairs_23
    rw [zI_le (by omega)]
    refine ⟨fun h => absurd h (by omega), fun _ => sp_isIn (fun hs => ⟨fun h => absurd h (by decide), fun _ => sp_isIn (fun hs2 => ⟨fun _ => ?_, fun h => absurd h (by decide)⟩) (fun hs2 => ⟨fun h => absurd rfl h, fun _ => skip (by rw [hs2]; rintro ⟨_, h⟩; exact absurd h (by decide)) _ _ _ _ _⟩)⟩) (fun hs => ⟨fun _ => skip (by rw [hs]; rintro ⟨h, _⟩; exact absurd h (by decide)) _ _ _ _ _, fun h => absurd rfl h⟩)⟩
    have hw : g.hw b := ⟨by omega, by omega⟩
    have ho : g.hw (b + 1 + k) := ⟨by omega, by omega⟩
    have en : g.pa S s b k = g.lst S b (b + 1 + k) := by unfold Gd.pa; rw [if_pos ⟨hs, hs2⟩]
    have lb := (lst_bd (S := S) hg hw ho).1
    have eb := least_bd (S := S) hg hw ho
    rw [en] at e
    refine sp_shortest hg hc hS hw ho (fun fp fb sn _ _ => ?_)
    rw [show (-1 : Int32) = zI (-1) from rfl, zI_eq (by omega)]
    have el : g.least S b (b + 1 + k) = if g.lst S b (b + 1 + k) = 2147483647 then -1 else g.lst S b (b + 1 + k) := rfl
    refine ⟨fun h1 => ?_, fun h1 => ?_⟩
    · have hl : g.lst S b (b + 1 + k) ≠ 2147483647 := by
        intro h3
        rw [if_pos h3] at el
        exact h1 el
      rw [if_neg hl] at el
      rw [el]
      have i := ih (k + 1) sn (zI (g.cn b)) (zI (g.cn (b + 1 + k))) fp fb (by omega) (by omega)
      rw [e] at i
      unfold wpX10_greatestOfPairs_82
      simp (disch := omega) only [zI_lit, zI_add, zI_sub, zI_mul, zI_neg, zI_le, zI_lt, zI_eq, zI_nat, zI_max, zI_min, zI_abs, forall_eq, Int.reduceNeg, Int.reduceAdd, Int.reduceMul, Int.reduceSub, Int.add_zero, Int.zero_add, Int.zero_mul, Int.toNat_zero]
      exact i
    · have hl : g.lst S b (b + 1 + k) = 2147483647 := by split at el <;> omega
      have tot : g.po S s g.nw.toNat = 2147483647 := by
        have m1 := mx_mono (a := g.pa S s b) (c := g.po S s b) (k + 1) (g.nw.toNat - (b + 1) - (k + 1))
        have m2 := po_mono (g := g) (S := S) (s := s) (b + 1) (g.nw.toNat - (b + 1))
        have m3 := (po_agr (S := S) (s := s) hg g.nw.toNat (by omega)).bd.1
        rw [show k + 1 + (g.nw.toNat - (b + 1) - (k + 1)) = g.nw.toNat - (b + 1) by omega] at m1
        rw [show b + 1 + (g.nw.toNat - (b + 1)) = g.nw.toNat by omega] at m2
        have m4 : g.po S s (b + 1) = mx (g.pa S s b) (g.po S s b) (g.nw.toNat - (b + 1)) := rfl
        omega
      have hp' := hp (sn, zI (g.cn b), zI (g.cn (b + 1 + k)), fp, fb)
      unfold Gd.own at hp'
      rw [if_pos tot] at hp'
      exact hp'
theorem sp_own4 {post : Int32 → ((Nat → Int32) × Int32 × Int32 × (Nat → Int32) × (Nat → Int32)) → Prop} (hg : g.Ok) (hc : CG g xs ys cs ws nw nl) (hS : SH1 g S nl xs ys ws sz os)
    (hp : ∀ z, post (zI (g.own S s)) z) :
    ∀ (j b : Nat) (f8 : Nat → Int32) (r0 c0 : Int32) (f11 f12 : Nat → Int32), (b : Int) + j = g.nw → g.po S s b < 2147483647 → wpX10_greatestOfPairs_4 post nw nl cs xs ys ws sz os (j + 1) f8 r0 c0 f11 f12 s (zI (g.po S s b)) (zI b) := by
  have e0 := hg.nw
  intro j
  induction j with
  | zero =>
    intro b f8 r0 c0 f11 f12 hb hlt
    have hp' := hp (f8, r0, c0, f11, f12)
    unfold Gd.own at hp'
    rw [show g.nw.toNat = b by omega, if_neg (by omega)] at hp'
    unfold wpX10_greatestOfPairs_4
    rw [hc.nw, zI_le (by omega)]
    exact ⟨fun _ => hp', fun h => absurd h (by omega)⟩
  | succ j ih =>
    intro b f8 r0 c0 f11 f12 hb hlt
    unfold wpX10_greatestOfPairs_4
    have nwe := hc.nw
    have := sp_own23 (k4 := fun y0 y1 y2 y3 y4 y5 y6 y7 => wpX10_greatestOfPairs_4 post nw nl cs xs ys ws sz os (j + 1) y0 y1 y2 y3 y4 y5 y6 y7) (post := post) (b := b) hg hc hS (by omega) hp (fun h f8 r0 c0 f11 f12 => ih (b + 1) f8 r0 c0 f11 f12 (by omega) h) (g.nw.toNat - (b + 1)) 0 f8 r0 c0 f11 f12 (by omega) hlt
    refine ⟨fun h => ?_, fun _ => ?_⟩
    · rw [nwe, zI_le (by omega)] at h; omega
    · simp (disch := omega) only [zI_lit, zI_add, zI_sub, zI_mul, zI_neg, zI_le, zI_lt, zI_eq, zI_nat, zI_max, zI_min, zI_abs, forall_eq, Int.reduceNeg, Int.reduceAdd, Int.reduceMul, Int.reduceSub, Int.add_zero, Int.zero_add, Int.zero_mul, Int.toNat_zero]
      refine ⟨g.nw.toNat - (b + 1) + 1, ?_⟩
      simp only [Int.ofNat_zero, Int.natCast_zero, Int.add_zero] at this
      exact this
theorem sp_own {post : Int32 → ((Nat → Int32) × Int32 × Int32 × (Nat → Int32) × (Nat → Int32)) → Prop} {f8 f11 f12 : Nat → Int32} {r0 c0 : Int32} (hg : g.Ok) (hc : CG g xs ys cs ws nw nl) (hS : SH1 g S nl xs ys ws sz os)
    (hp : ∀ z, post (zI (g.own S s)) z) : wpX10_greatestOfPairs post nw nl cs xs ys ws sz os f8 r0 c0 f11 f12 s :=
  ⟨g.nw.toNat + 1, sp_own4 hg hc hS hp g.nw.toNat 0 f8 r0 c0 f11 f12 (by have := hg.nw; omega) (by show (0 : Int) < 2147483647; omega)⟩
theorem sr_own17 {k4 : Int32 → Int32 → (Nat → Int32) → (Nat → Int32) → (Nat → Int32) → Int32 → Int32 → Int32 → Prop} {post : Int32 → (Int32 × Int32 × (Nat → Int32) × (Nat → Int32) × (Nat → Int32)) → Prop} {b : Nat} (hg : g.Ok) (hv : WG g v) (hS : SH2 g S v) (hb : (b : Int) < g.nw)
    (hk : ∀ m0 d0 f2 f3 f4, k4 m0 d0 f2 f3 f4 s (zI (g.po2 S s (b + 1))) (zI (b + 1))) :
    ∀ (j k : Nat) (m0 d0 : Int32) (f2 f3 f4 : Nat → Int32), (b : Int) + 1 + k + j = g.nw → wpX11_ownOf_17 k4 post v (j + 1) m0 d0 f2 f3 f4 s (zI (mx (g.pa2 S s b) (g.po2 S s b) k)) (zI b) (zI (b + 1 + k)) := by
  have e0 := hg.nw
  intro j
  induction j with
  | zero =>
    intro k m0 d0 f2 f3 f4 hj
    have e : g.po2 S s (b + 1) = mx (g.pa2 S s b) (g.po2 S s b) k := by
      show mx (g.pa2 S s b) (g.po2 S s b) (g.nw.toNat - (b + 1)) = _
      rw [show g.nw.toNat - (b + 1) = k by omega]
    rw [e] at hk
    unfold wpX11_ownOf_17
    refine sr_ways hv ?_
    simp (disch := omega) only [zI_lit, zI_add, zI_sub, zI_mul, zI_neg, zI_le, zI_lt, zI_eq, zI_nat, zI_max, zI_min, zI_abs, forall_eq, Int.reduceNeg, Int.reduceAdd, Int.reduceMul, Int.reduceSub, Int.add_zero, Int.zero_add, Int.zero_mul, Int.toNat_zero]
    exact ⟨fun _ => hk _ _ _ _ _, fun h => absurd h (by omega)⟩
  | succ j ih =>
    intro k m0 d0 f2 f3 f4 hj
    have mb := (pm_agr (S := S) (s := s) hg b k (by omega)).bd.2
    have e : mx (g.pa2 S s b) (g.po2 S s b) (k + 1) = max (mx (g.pa2 S s b) (g.po2 S s b) k) (g.pa2 S s b k) := rfl
    have skip : ¬ (inS s b = true ∧ inS s (b + 1 + k) = true) → ∀ m0 d0 f2 f3 f4, wpX11_ownOf_55 (fun y0 y1 y2 y3 y4 y5 y6 y7 y8 => wpX11_ownOf_17 k4 post v (j + 1) y0 y1 y2 y3 y4 y5 y6 y7 y8) k4 post v m0 d0 f2 f3 f4 s (zI (mx (g.pa2 S s b) (g.po2 S s b) k)) (zI b) (zI (b + 1 + k)) := by
      intro h m0 d0 f2 f3 f4
      have en : g.pa2 S s b k = 0 := by unfold Gd.pa2; rw [if_neg h]
      rw [en, show max (mx (g.pa2 S s b) (g.po2 S s b) k) 0 = mx (g.pa2 S s b) (g.po2 S s b) k by omega] at e
      have i := ih (k + 1) m0 d0 f2 f3 f4 (by omega)
      rw [e] at i
      unfold wpX11_ownOf_55
      simp (disch := omega) only [zI_lit, zI_add, zI_sub, zI_mul, zI_neg, zI_le, zI_lt, zI_eq, zI_nat, zI_max, zI_min, zI_abs, forall_eq, Int.reduceNeg, Int.reduceAdd, Int.reduceMul, Int.reduceSub, Int.add_zero, Int.zero_add, Int.zero_mul, Int.toNat_zero]
      exact i
    unfold wpX11_ownOf_17
    refine sr_ways hv ?_
    rw [zI_le (by omega)]
    refine ⟨fun h => absurd h (by omega), fun _ => sr_has (fun hs => ⟨fun h => absurd h (by decide), fun _ => sr_has (fun hs2 => ⟨fun h => absurd h (by decide), fun _ => ?_⟩) (fun hs2 => ⟨fun _ => skip (by rw [hs2]; rintro ⟨_, h⟩; exact absurd h (by decide)) _ _ _ _ _, fun h => absurd rfl h⟩)⟩) (fun hs => ⟨fun _ => skip (by rw [hs]; rintro ⟨h, _⟩; exact absurd h (by decide)) _ _ _ _ _, fun h => absurd rfl h⟩)⟩
    have hw : g.hw b := ⟨by omega, by omega⟩
    have ho : g.hw (b + 1 + k) := ⟨by omega, by omega⟩
    have en : g.pa2 S s b k = g.lst2 S b (b + 1 + k) := by unfold Gd.pa2; rw [if_pos ⟨hs, hs2⟩]
    have lb := (lst_bd (S := S) hg hw ho).2
    rw [en] at e
    refine sr_leastOf hg hv hS hw ho (fun sn ff fl _ _ => ?_)
    have i := ih (k + 1) (zI (g.cn b)) (zI (g.cn (b + 1 + k))) sn ff fl (by omega)
    rw [e] at i
    unfold wpX11_ownOf_55
    simp (disch := omega) only [zI_lit, zI_add, zI_sub, zI_mul, zI_neg, zI_le, zI_lt, zI_eq, zI_nat, zI_max, zI_min, zI_abs, forall_eq, Int.reduceNeg, Int.reduceAdd, Int.reduceMul, Int.reduceSub, Int.add_zero, Int.zero_add, Int.zero_mul, Int.toNat_zero]
    exact i
theorem sr_own4 {post : Int32 → (Int32 × Int32 × (Nat → Int32) × (Nat → Int32) × (Nat → Int32)) → Prop} (hg : g.Ok) (hv : WG g v) (hS : SH2 g S v)
    (hp : ∀ z, post (zI (g.own S s)) z) :
    ∀ (j b : Nat) (m0 d0 : Int32) (f2 f3 f4 : Nat → Int32), (b : Int) + j = g.nw → wpX11_ownOf_4 post v (j + 1) m0 d0 f2 f3 f4 s (zI (g.po2 S s b)) (zI b) := by
  have e0 := hg.nw
  intro j
  induction j with
  | zero =>
    intro b m0 d0 f2 f3 f4 hb
    have hp' := hp (m0, d0, f2, f3, f4)
    rw [own_eq hg, show g.nw.toNat = b by omega] at hp'
    have pb := (po_agr (S := S) (s := s) hg b (by omega)).bd.2
    unfold wpX11_ownOf_4
    refine sr_ways hv ?_
    rw [zI_le (by omega)]
    exact ⟨fun _ => sr_orNone pb hp', fun h => absurd h (by omega)⟩
  | succ j ih =>
    intro b m0 d0 f2 f3 f4 hb
    unfold wpX11_ownOf_4
    refine sr_ways hv ?_
    have := sr_own17 (k4 := fun y0 y1 y2 y3 y4 y5 y6 y7 => wpX11_ownOf_4 post v (j + 1) y0 y1 y2 y3 y4 y5 y6 y7) (post := post) (b := b) hg hv hS (by omega) (fun m0 d0 f2 f3 f4 => ih (b + 1) m0 d0 f2 f3 f4 (by omega)) (g.nw.toNat - (b + 1)) 0 m0 d0 f2 f3 f4 (by omega)
    rw [zI_le (by omega)]
    refine ⟨fun h => by omega, fun _ => ?_⟩
    simp (disch := omega) only [zI_lit, zI_add, zI_sub, zI_mul, zI_neg, zI_le, zI_lt, zI_eq, zI_nat, zI_max, zI_min, zI_abs, forall_eq, Int.reduceNeg, Int.reduceAdd, Int.reduceMul, Int.reduceSub, Int.add_zero, Int.zero_add, Int.zero_mul, Int.toNat_zero]
    refine ⟨g.nw.toNat - (b + 1) + 1, ?_⟩
    simp only [Int.ofNat_zero, Int.natCast_zero, Int.add_zero] at this
    exact this
theorem sr_ownOf {post : Int32 → (Int32 × Int32 × (Nat → Int32) × (Nat → Int32) × (Nat → Int32)) → Prop} {m0 d0 : Int32} {f2 f3 f4 : Nat → Int32} (hg : g.Ok) (hv : WG g v) (hS : SH2 g S v)
    (hp : ∀ z, post (zI (g.own S s)) z) : wpX11_ownOf post v m0 d0 f2 f3 f4 s :=
  ⟨g.nw.toNat + 1, sr_own4 hg hv hS hp g.nw.toNat 0 m0 d0 f2 f3 f4 (by have := hg.nw; omega)⟩
noncomputable def Gd.forged (g : Gd) (S : Int → Int → Int → Int → Bool) (s : Int32) (w : Int) : Prop := g.own S s = -1 ∨ g.near S s w = -1 ∨ g.own S s < g.lst S w (g.near S s w)
theorem near_bd (hg : g.Ok) (hw : g.hw w) : -1 ≤ g.near S s w ∧ g.near S s w < g.nw := by
  have e0 := hg.nw
  have := (am_bd (a := g.na S s w) (F := 2147483647) (by omega) g.nw.toNat (fun b h0 h1 => (na_agr hg hw ⟨h0, by omega⟩).bd.1)).2
  unfold Gd.near
  omega
theorem near_lst (hg : g.Ok) (hw : g.hw w) (h : g.near S s w ≠ -1) : g.hw (g.near S s w) ∧ g.lst S w (g.near S s w) < 2147483647 := by
  have nb := near_bd (S := S) (s := s) hg hw
  refine ⟨⟨by omega, by omega⟩, ?_⟩
  rcases am_at (a := g.na S s w) (F := 2147483647) g.nw.toNat with h1 | h1
  · exact absurd h1 h
  · have h2 := h1.2
    rw [← h1.1] at h2
    have h3 : g.na S s w (g.near S s w) < 2147483647 := h2
    unfold Gd.na at h3
    split at h3
    · omega
    · exact h3
theorem own_bd (hg : g.Ok) : -1 ≤ g.own S s ∧ g.own S s < 2147483647 := by
  have := (po_agr (S := S) (s := s) hg g.nw.toNat (by have := hg.nw; omega)).bd.1
  unfold Gd.own
  split <;> omega
theorem sp_forged {post : Int32 → ((Nat → Int32) × Int32 × Int32 × (Nat → Int32) × (Nat → Int32)) → Prop} {postX : String → ((Nat → Int32) × Int32 × Int32 × (Nat → Int32) × (Nat → Int32)) → Prop} {f8 f11 f12 : Nat → Int32} {r0 c0 : Int32} (hg : g.Ok) (hc : CG g xs ys cs ws nw nl) (hS : SH1 g S nl xs ys ws sz os) (hw : -2147483648 ≤ w ∧ w < 2147483648)
    (hx : ¬ g.hw w → postX "java/lang/IndexOutOfBoundsException" (f8, r0, c0, f11, f12))
    (hy : g.hw w → g.forged S s w → ∀ z, post 1 z) (hn : g.hw w → ¬ g.forged S s w → ∀ z, post 0 z) : wpX10_forged post postX nw nl cs xs ys ws sz os f8 r0 c0 f11 f12 (zI w) s := by
  unfold wpX10_forged
  refine sp_needWay hg hc hw (fun h1 => ?_) hx
  have e0 := hg.nw
  have nb := near_bd (S := S) (s := s) hg h1
  have ob := own_bd (S := S) (s := s) hg
  have hy' := hy h1
  have hn' := hn h1
  unfold Gd.forged at hy' hn'
  refine sp_own hg hc hS (fun z => ?_)
  refine sp_nearestOf hg hc hS h1 (fun z => ?_)
  rw [show (-1 : Int32) = zI (-1) from rfl, zI_eq (by omega), zI_eq (by omega)]
  refine ⟨fun h => hy' (Or.inl h) _, fun h2 => ⟨fun h => hy' (Or.inr (Or.inl h)) _, fun h3 => ?_⟩⟩
  have nl := near_lst hg h1 h3
  have lb := (lst_bd (S := S) hg h1 nl.1).1
  refine sp_shortest hg hc hS h1 nl.1 (fun fp fb sn _ _ => ?_)
  rw [show g.least S w (g.near S s w) = g.lst S w (g.near S s w) by unfold Gd.least; rw [if_neg (by omega)], zI_le (by omega)]
  exact ⟨fun h => hn' (by rintro (h' | h' | h') <;> omega) _, fun h => hy' (Or.inr (Or.inr (by omega))) _⟩
theorem sr_forged {post : Int32 → (Int32 × Int32 × Int32 × (Nat → Int32) × (Nat → Int32) × (Nat → Int32)) → Prop} {th m0 d0 : Int32} {f2 f3 f4 : Nat → Int32} (hg : g.Ok) (hv : WG g v) (hS : SH2 g S v) (hw : -2147483648 ≤ w ∧ w < 2147483648)
    (hx : ¬ g.hw w → ∀ r z, z.1 = 1 → post r z)
    (hy : g.hw w → g.forged S s w → ∀ z, z.1 = 0 → post 1 z) (hn : g.hw w → ¬ g.forged S s w → ∀ z, z.1 = 0 → post 0 z) : wpX11_forged post v th m0 d0 f2 f3 f4 (zI w) s := by
  unfold wpX11_forged
  refine sr_noWay hg hv hw (fun h1 => ?_) (fun h1 => ?_)
  · refine sr_throwsIf (fun _ => ⟨fun _ => ?_, fun h => absurd rfl h⟩) (fun h => absurd h (by decide)) (Or.inl rfl)
    have e0 := hg.nw
    have nb := near_bd (S := S) (s := s) hg h1
    have ob := own_bd (S := S) (s := s) hg
    have hy' := hy h1
    have hn' := hn h1
    unfold Gd.forged at hy' hn'
    refine sr_nearestOf hg hv hS h1 (fun z => ?_)
    refine sr_ownOf hg hv hS (fun z => ?_)
    rw [show (0 : Int32) = zI 0 from rfl, zI_lt (by omega), zI_lt (by omega)]
    refine ⟨fun h => hy' (Or.inr (Or.inl (by omega))) _ rfl, fun h2 => ⟨fun h => hy' (Or.inl (by omega)) _ rfl, fun h3 => ?_⟩⟩
    have nl := near_lst (S := S) (s := s) hg h1 (by omega)
    have lb := lst_bd (S := S) hg h1 nl.1
    have la := Gd.lst_agr (S := S) hg h1 nl.1
    unfold Agr at la
    refine sr_leastOf hg hv hS h1 nl.1 (fun sn ff fl _ _ => ?_)
    rw [zI_le (by omega)]
    exact ⟨fun h => hn' (by rintro (h' | h' | h') <;> omega) _ rfl, fun h => hy' (Or.inr (Or.inr (by omega))) _ rfl⟩
  · exact sr_throwsIf (fun h => absurd h (by decide)) (fun _ => ⟨fun h => absurd h (by decide), fun _ => hx h1 _ _ rfl⟩) (Or.inr rfl)
end
