section
variable {q : Int → Int → Int} {M D : Int}
theorem sr_leadAt {post : Int32 → Unit → Prop} {m d a b : Int} {f : Nat → Int32} (hM : M ≤ 30) (hD : D ≤ 30) (h : Laid2 (Fw q 2000000000) D m d f) (ha : -1 ≤ a ∧ a < M) (hb : -1 ≤ b ∧ b < D) (hl : 0 ≤ a → 0 ≤ b → a < m ∨ a = m ∧ b < d) (hp : post (zI (Fw q 2000000000 a b)) ()) : wpX11_leadAt post f (zI a) (zI b) := by
  unfold wpX11_leadAt
  simp (disch := omega) only [zI_lit, zI_add, zI_sub, zI_mul, zI_neg, zI_le, zI_lt, zI_eq, zI_nat, zI_max, zI_min, zI_abs, forall_eq, Int.reduceNeg, Int.reduceAdd, Int.reduceMul, Int.reduceSub, Int.add_zero, Int.zero_add, Int.zero_mul, Int.toNat_zero]
  refine ⟨fun h1 => ?_, fun h1 => ⟨fun h2 => ⟨zI_in (by omega), ?_⟩, fun h2 => ?_⟩⟩
  · rwa [Fw_out (by omega)] at hp
  · rwa [h a b (by omega) h2 (by omega) (hl (by omega) h2)]
  · rwa [Fw_out (by omega)] at hp
theorem sr_leastLead12 {k2 : (Nat → Int32) → Int32 → Prop} {post : Int32 → (Nat → Int32) → Prop} {m : Int} {f1 : Nat → Int32} (hM : 1 ≤ M ∧ M ≤ 30) (hD : 1 ≤ D ∧ D ≤ 30)
    (hq : ∀ m d, 0 ≤ m → m < M → 0 ≤ d → d < D → 0 ≤ q m d ∧ q m d ≤ 2000000000) (hm : 0 ≤ m ∧ m < M) (hf : Laid2 q D M 0 f1)
    (hk : ∀ f, Laid2 (Fw q 2000000000) D (m + 1) 0 f → k2 f (zI (m + 1))) :
    ∀ (k : Nat) (d : Int) (f : Nat → Int32), d + k = D → 0 ≤ d → Laid2 (Fw q 2000000000) D m d f → wpX11_leastLead_12 k2 post (zI M) (zI D) f1 (k + 1) f (zI m) (zI d) := by
  intro k
  induction k with
  | zero =>
    intro d f h0 h1 a
    unfold wpX11_leastLead_12
    simp (disch := omega) only [zI_lit, zI_add, zI_sub, zI_mul, zI_neg, zI_le, zI_lt, zI_eq, zI_nat, zI_max, zI_min, zI_abs, forall_eq, Int.reduceNeg, Int.reduceAdd, Int.reduceMul, Int.reduceSub, Int.add_zero, Int.zero_add, Int.zero_mul, Int.toNat_zero]
    refine ⟨fun _ => hk f ?_, fun h => absurd h (by omega)⟩
    rw [show d = D by omega] at a
    exact a.line
  | succ k ih =>
    intro d f h0 h1 a
    have hqd := hq m d hm.1 hm.2 h1 (by omega)
    have hfd := hf m d hm.1 h1 (by omega) (by omega)
    have b1 := Fw_bd (F := 2000000000) (by omega) hq _ (m - 1) (d - 1) rfl (by omega) (by omega)
    have b2 := Fw_bd (F := 2000000000) (by omega) hq _ (m - 1) d rfl (by omega) (by omega)
    have b3 := Fw_bd (F := 2000000000) (by omega) hq _ m (d - 1) rfl (by omega) (by omega)
    have l32 : ¬ (m = 0 ∧ d = 0) → wpX11_leastLead_32 (fun y0 y1 y2 => wpX11_leastLead_12 k2 post (zI M) (zI D) f1 (k + 1) y0 y1 y2) k2 post (zI M) (zI D) f1 f (zI m) (zI d) := by
      intro hn
      have e := Fw_in (q := q) (F := 2000000000) hm.1 h1 hn
      unfold wpX11_leastLead_32
      simp (disch := omega) only [zI_lit, zI_add, zI_sub, zI_mul, zI_neg, zI_le, zI_lt, zI_eq, zI_nat, zI_max, zI_min, zI_abs, forall_eq, Int.reduceNeg, Int.reduceAdd, Int.reduceMul, Int.reduceSub, Int.add_zero, Int.zero_add, Int.zero_mul, Int.toNat_zero]
      refine sr_leadAt hM.2 hD.2 a (by omega) (by omega) (by omega) ?_
      refine sr_leadAt hM.2 hD.2 a (by omega) (by omega) (by omega) ?_
      refine sr_leadAt hM.2 hD.2 a (by omega) (by omega) (by omega) ?_
      unfold wpX11_leastLead_64
      simp (disch := omega) only [zI_lit, zI_add, zI_sub, zI_mul, zI_neg, zI_le, zI_lt, zI_eq, zI_nat, zI_max, zI_min, zI_abs, forall_eq, Int.reduceNeg, Int.reduceAdd, Int.reduceMul, Int.reduceSub, Int.add_zero, Int.zero_add, Int.zero_mul, Int.toNat_zero]
      rw [hfd]
      simp (disch := omega) only [zI_lit, zI_add, zI_sub, zI_mul, zI_neg, zI_le, zI_lt, zI_eq, zI_nat, zI_max, zI_min, zI_abs, forall_eq, Int.reduceNeg, Int.reduceAdd, Int.reduceMul, Int.reduceSub, Int.add_zero, Int.zero_add, Int.zero_mul, Int.toNat_zero]
      rw [← e]
      exact ⟨zI_in (by omega), zI_in (by omega), ih (d + 1) _ (by omega) (by omega) (a.next hm.1 h1 (by omega) hD.2)⟩
    unfold wpX11_leastLead_12
    simp (disch := omega) only [zI_lit, zI_add, zI_sub, zI_mul, zI_neg, zI_le, zI_lt, zI_eq, zI_nat, zI_max, zI_min, zI_abs, forall_eq, Int.reduceNeg, Int.reduceAdd, Int.reduceMul, Int.reduceSub, Int.add_zero, Int.zero_add, Int.zero_mul, Int.toNat_zero]
    refine ⟨fun h => absurd h (by omega), fun _ => ⟨fun h => l32 (by omega), fun h => ⟨fun h' => l32 (by omega), fun h' => ?_⟩⟩⟩
    unfold wpX11_leastLead_64
    simp (disch := omega) only [zI_lit, zI_add, zI_sub, zI_mul, zI_neg, zI_le, zI_lt, zI_eq, zI_nat, zI_max, zI_min, zI_abs, forall_eq, Int.reduceNeg, Int.reduceAdd, Int.reduceMul, Int.reduceSub, Int.add_zero, Int.zero_add, Int.zero_mul, Int.toNat_zero]
    rw [hfd]
    simp (disch := omega) only [zI_lit, zI_add, zI_sub, zI_mul, zI_neg, zI_le, zI_lt, zI_eq, zI_nat, zI_max, zI_min, zI_abs, forall_eq, Int.reduceNeg, Int.reduceAdd, Int.reduceMul, Int.reduceSub, Int.add_zero, Int.zero_add, Int.zero_mul, Int.toNat_zero]
    refine ⟨zI_in (by omega), zI_in (by omega), ih (d + 1) _ (by omega) (by omega) ?_⟩
    have := a.next hm.1 h1 (by omega) hD.2
    subst h; subst h'
    rwa [Fw_zero] at this
theorem sr_leastLead2 {post : Int32 → (Nat → Int32) → Prop} {f1 : Nat → Int32} (hM : 1 ≤ M ∧ M ≤ 30) (hD : 1 ≤ D ∧ D ≤ 30)
    (hq : ∀ m d, 0 ≤ m → m < M → 0 ≤ d → d < D → 0 ≤ q m d ∧ q m d ≤ 2000000000) (hf : Laid2 q D M 0 f1)
    (hp : ∀ f, Laid2 (Fw q 2000000000) D M 0 f → post (zI (Fw q 2000000000 (M - 1) (D - 1))) f) :
    ∀ (k : Nat) (m : Int) (f : Nat → Int32), m + k = M → 0 ≤ m → Laid2 (Fw q 2000000000) D m 0 f → wpX11_leastLead_2 post (zI M) (zI D) f1 (k + 1) f (zI m) := by
  intro k
  induction k with
  | zero =>
    intro m f h0 h1 a
    rw [show m = M by omega] at a ⊢
    unfold wpX11_leastLead_2
    simp (disch := omega) only [zI_lit, zI_add, zI_sub, zI_mul, zI_neg, zI_le, zI_lt, zI_eq, zI_nat, zI_max, zI_min, zI_abs, forall_eq, Int.reduceNeg, Int.reduceAdd, Int.reduceMul, Int.reduceSub, Int.add_zero, Int.zero_add, Int.zero_mul, Int.toNat_zero]
    refine ⟨fun _ => ?_, fun h => absurd h (by omega)⟩
    exact sr_leadAt hM.2 hD.2 a (by omega) (by omega) (by omega) (hp f a)
  | succ k ih =>
    intro m f h0 h1 a
    unfold wpX11_leastLead_2
    simp (disch := omega) only [zI_lit, zI_add, zI_sub, zI_mul, zI_neg, zI_le, zI_lt, zI_eq, zI_nat, zI_max, zI_min, zI_abs, forall_eq, Int.reduceNeg, Int.reduceAdd, Int.reduceMul, Int.reduceSub, Int.add_zero, Int.zero_add, Int.zero_mul, Int.toNat_zero]
    refine ⟨fun h => absurd h (by omega), fun _ => ⟨D.toNat + 1, ?_⟩⟩
    exact sr_leastLead12 hM hD hq ⟨h1, by omega⟩ hf (fun f' a' => ih (m + 1) f' (by omega) (by omega) a') D.toNat 0 f (by omega) (by omega) a
theorem sr_leastLead {post : Int32 → (Nat → Int32) → Prop} {f1 : Nat → Int32} (f : Nat → Int32) (hM : 1 ≤ M ∧ M ≤ 30) (hD : 1 ≤ D ∧ D ≤ 30)
    (hq : ∀ m d, 0 ≤ m → m < M → 0 ≤ d → d < D → 0 ≤ q m d ∧ q m d ≤ 2000000000) (hf : Laid2 q D M 0 f1)
    (hp : ∀ f, Laid2 (Fw q 2000000000) D M 0 f → post (zI (Fw q 2000000000 (M - 1) (D - 1))) f) : wpX11_leastLead post (zI M) (zI D) f1 f := by
  unfold wpX11_leastLead
  simp (disch := omega) only [zI_lit, zI_add, zI_sub, zI_mul, zI_neg, zI_le, zI_lt, zI_eq, zI_nat, zI_max, zI_min, zI_abs, forall_eq, Int.reduceNeg, Int.reduceAdd, Int.reduceMul, Int.reduceSub, Int.add_zero, Int.zero_add, Int.zero_mul, Int.toNat_zero]
  exact ⟨M.toNat + 1, sr_leastLead2 hM hD hq hf hp M.toNat 0 f (by omega) (by omega) (fun m' d' a b c e => by omega)⟩
end
section
variable {g : Gd} {S : Int → Int → Int → Int → Bool} {xs ys cs ws os v : Nat → Int32} {nw nl sz : Int32} {w o : Int}
theorem Gd.pr_bd (hg : g.Ok) {F : Int} (hF : 1996002 ≤ F) (hw : g.hw w) (ho : g.hw o) : ∀ m d, 0 ≤ m → m < g.cn w → 0 ≤ d → d < g.cn o → 0 ≤ g.pr S F w o m d ∧ g.pr S F w o m d ≤ F := by
  intro m d a b c e
  have := Gd.far_le hg (w := w) (m := m) (o := o) (d := d) ⟨hw, a, b⟩ ⟨ho, c, e⟩
  unfold Gd.pr
  split <;> omega
noncomputable def Gd.lst (g : Gd) (S : Int → Int → Int → Int → Bool) (w o : Int) : Int := Bk (g.pr S 2147483647 w o) 2147483647 (g.cn w) (g.cn o) 0 0
noncomputable def Gd.lst2 (g : Gd) (S : Int → Int → Int → Int → Bool) (w o : Int) : Int := Fw (g.pr S 2000000000 w o) 2000000000 (g.cn w - 1) (g.cn o - 1)
theorem Gd.lst_agr (hg : g.Ok) (hw : g.hw w) (ho : g.hw o) : Agr (g.lst S w o) (g.lst2 S w o) := by
  have e1 := hg.cn w hw.1 hw.2
  have e2 := hg.cn o ho.1 ho.2
  exact Bk_Fw (by omega) (by omega) (fun m d a b c e => pr_agr hg ⟨hw, a, b⟩ ⟨ho, c, e⟩)
theorem sp_laySettle {post : Int32 → (Nat → Int32) → Prop} (f fp : Nat → Int32) (hg : g.Ok) (hw : g.hw w) (ho : g.hw o) (hL : Laid (g.pr S 2147483647 w o) (g.cn o) (g.cn w) 0 fp)
    (hp : ∀ f, Bst (g.pr S 2147483647 w o) (g.cn w) (g.cn o) (-1) (g.cn o - 1) f → post (zI (g.lst S w o)) f) : wpX0_settle post (zI (g.cn w)) (zI (g.cn o)) fp f (zI (g.cn w)) (zI (g.cn o)) 0 := by
  have e1 := hg.cn w hw.1 hw.2
  have e2 := hg.cn o ho.1 ho.2
  rw [show (0 : Int32) = zI 0 from rfl]
  refine sp_settle f (by omega) (by omega) (by omega) (by omega) (by omega) (by omega) (by omega) (Gd.pr_bd hg (by omega) hw ho) (fun m d a b c e => ?_) hp
  rw [if_pos b, if_pos (by omega), Int.add_zero]
  exact hL m d a c e (by omega)
theorem sp_orNone {post : Int32 → Unit → Prop} {x : Int} (hx : 0 ≤ x ∧ x ≤ 2147483647) (hp : post (zI (if x = 2147483647 then -1 else x)) ()) : wpX10_orNone post (zI x) := by
  unfold wpX10_orNone
  simp (disch := omega) only [zI_lit, zI_add, zI_sub, zI_mul, zI_neg, zI_le, zI_lt, zI_eq, zI_nat, zI_max, zI_min, zI_abs, forall_eq, Int.reduceNeg, Int.reduceAdd, Int.reduceMul, Int.reduceSub, Int.add_zero, Int.zero_add, Int.zero_mul, Int.toNat_zero]
  refine ⟨fun h => ?_, fun h => ?_⟩
  · rwa [if_neg h] at hp
  · rwa [if_pos h] at hp
theorem sr_orNone {post : Int32 → Unit → Prop} {x : Int} (hx : 0 ≤ x ∧ x ≤ 2000000000) (hp : post (zI (if x = 2000000000 then -1 else x)) ()) : wpX11_orNone post (zI x) := by
  unfold wpX11_orNone
  simp (disch := omega) only [zI_lit, zI_add, zI_sub, zI_mul, zI_neg, zI_le, zI_lt, zI_eq, zI_nat, zI_max, zI_min, zI_abs, forall_eq, Int.reduceNeg, Int.reduceAdd, Int.reduceMul, Int.reduceSub, Int.add_zero, Int.zero_add, Int.zero_mul, Int.toNat_zero]
  refine ⟨fun h => ?_, fun h => ?_⟩
  · rwa [if_neg h] at hp
  · rwa [if_pos h] at hp
theorem Agr.none {x y : Int} (h : Agr x y) : (if x = 2147483647 then -1 else x) = (if y = 2000000000 then (-1 : Int) else y) := by
  unfold Agr at h
  split <;> split <;> omega
theorem Agr.bd {x y : Int} (h : Agr x y) : (0 ≤ x ∧ x ≤ 2147483647) ∧ 0 ≤ y ∧ y ≤ 2000000000 := by
  unfold Agr at h; omega
noncomputable def Gd.least (g : Gd) (S : Int → Int → Int → Int → Bool) (w o : Int) : Int := if g.lst S w o = 2147483647 then -1 else g.lst S w o
theorem Gd.least_eq (hg : g.Ok) (hw : g.hw w) (ho : g.hw o) : g.least S w o = if g.lst2 S w o = 2000000000 then -1 else g.lst2 S w o := (Gd.lst_agr hg hw ho).none
theorem sp_shortest {post : Int32 → (Int32 × Int32 × (Nat → Int32) × (Nat → Int32) × (Nat → Int32)) → Prop} {r0 c0 : Int32} {f2 f3 f11 : Nat → Int32}
    (hg : g.Ok) (hc : CG g xs ys cs ws nw nl) (hS : SH1 g S nl xs ys ws sz os) (hw : g.hw w) (ho : g.hw o)
    (hp : ∀ fp fb sn, Laid (g.pr S 2147483647 w o) (g.cn o) (g.cn w) 0 fp → Bst (g.pr S 2147483647 w o) (g.cn w) (g.cn o) (-1) (g.cn o - 1) fb → post (zI (g.least S w o)) (zI (g.cn w), zI (g.cn o), fp, fb, sn)) :
    wpX10_shortest post nl cs xs ys ws sz os r0 c0 f2 f3 f11 (zI w) (zI o) := by
  unfold wpX10_shortest
  refine sp_lay hg hc hS hw ho (fun fp sn hL => ?_)
  refine sp_laySettle f3 fp hg hw ho hL (fun fb hB => ?_)
  exact sp_orNone (Gd.lst_agr hg hw ho).bd.1 (hp fp fb sn hL hB)
theorem sr_leastOf {post : Int32 → (Int32 × Int32 × (Nat → Int32) × (Nat → Int32) × (Nat → Int32)) → Prop} {r0 c0 : Int32} {f2 f3 f4 : Nat → Int32}
    (hg : g.Ok) (hv : WG g v) (hS : SH2 g S v) (hw : g.hw w) (ho : g.hw o)
    (hp : ∀ sn ff fl, Laid2 (g.pr S 2000000000 w o) (g.cn o) (g.cn w) 0 ff → Laid2 (Fw (g.pr S 2000000000 w o) 2000000000) (g.cn o) (g.cn w) 0 fl → post (zI (g.lst2 S w o)) (zI (g.cn w), zI (g.cn o), sn, ff, fl)) :
    wpX11_leastOf post v r0 c0 f2 f3 f4 (zI w) (zI o) := by
  have e1 := hg.cn w hw.1 hw.2
  have e2 := hg.cn o ho.1 ho.2
  unfold wpX11_leastOf
  refine sr_lays hg hv hS hw ho (fun ff sn hL => ?_)
  exact sr_leastLead f4 (by omega) (by omega) (Gd.pr_bd hg (by omega) hw ho) hL (fun fl hl => hp sn ff fl hL hl)
end
