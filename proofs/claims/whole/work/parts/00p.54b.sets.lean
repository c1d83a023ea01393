def inS (s : Int32) (k : Int) : Bool := decide (((s >>> (zI k &&& 31)) &&& 1) = 1)
theorem sp_isIn {post : Int32 → Unit → Prop} {s : Int32} {k : Int} (h1 : inS s k = true → post 1 ()) (h0 : inS s k = false → post 0 ()) : wpX10_isIn post s (zI k) :=
  ⟨fun h => h0 (decide_eq_false h), fun h => h1 (decide_eq_true h)⟩
theorem sr_has {post : Int32 → Unit → Prop} {s : Int32} {k : Int} (h1 : inS s k = true → post 1 ()) (h0 : inS s k = false → post 0 ()) : wpX11_has post s (zI k) :=
  ⟨fun h => h0 (decide_eq_false h), fun h => h1 (decide_eq_true h)⟩
theorem am_at {a : Int → Int} {F : Int} : ∀ n : Nat, (am a F n).2 = -1 ∨ (a (am a F n).2 = (am a F n).1 ∧ (am a F n).1 < F) := by
  intro n
  have key : (am a F n).1 ≤ F ∧ ((am a F n).2 = -1 ∨ (a (am a F n).2 = (am a F n).1 ∧ (am a F n).1 < F)) := by
    induction n with
    | zero => exact ⟨Int.le_refl _, Or.inl rfl⟩
    | succ n ih =>
      simp only [am]
      split
      · rename_i h
        exact ⟨by simp only []; omega, Or.inr ⟨rfl, by simp only []; omega⟩⟩
      · exact ih
  exact key.2
noncomputable def mx (a : Int → Int) (c : Int) : Nat → Int
  | 0 => c
  | k + 1 => max (mx a c k) (a k)
theorem mx_agr {a c : Int → Int} {x y : Int} (h0 : Agr x y) : ∀ n : Nat, (∀ b : Int, 0 ≤ b → b < n → Agr (a b) (c b)) → Agr (mx a x n) (mx c y n) := by
  intro n
  induction n with
  | zero => intro _; exact h0
  | succ n ih => intro h; exact (ih (fun b h0 h1 => h b h0 (by omega))).max (h n (by omega) (by omega))
theorem mx_mono {a : Int → Int} {c : Int} (n : Nat) : ∀ k : Nat, mx a c n ≤ mx a c (n + k) := by
  intro k
  induction k with
  | zero => exact Int.le_refl _
  | succ k ih => show mx a c n ≤ max (mx a c (n + k)) (a ((n + k : Nat) : Int)); omega
section
variable {g : Gd} {S : Int → Int → Int → Int → Bool} {xs ys cs ws os v : Nat → Int32} {nw nl sz : Int32} {w o : Int} {s : Int32}
theorem lst_bd (hg : g.Ok) (hw : g.hw w) (ho : g.hw o) : (0 ≤ g.lst S w o ∧ g.lst S w o ≤ 2147483647) ∧ 0 ≤ g.lst2 S w o ∧ g.lst2 S w o ≤ 2000000000 := (Gd.lst_agr hg hw ho).bd
theorem least_bd (hg : g.Ok) (hw : g.hw w) (ho : g.hw o) : -1 ≤ g.least S w o ∧ g.least S w o < 2147483648 := by
  have := (lst_bd (S := S) hg hw ho).1
  unfold Gd.least
  split <;> omega
noncomputable def Gd.na (g : Gd) (S : Int → Int → Int → Int → Bool) (s : Int32) (w o : Int) : Int := if o = w ∨ inS s o = false then 2147483647 else g.lst S w o
noncomputable def Gd.na2 (g : Gd) (S : Int → Int → Int → Int → Bool) (s : Int32) (w o : Int) : Int := if o = w ∨ inS s o = false then 2000000000 else g.lst2 S w o
noncomputable def Gd.near (g : Gd) (S : Int → Int → Int → Int → Bool) (s : Int32) (w : Int) : Int := (am (g.na S s w) 2147483647 g.nw.toNat).2
theorem na_agr (hg : g.Ok) (hw : g.hw w) (ho : g.hw o) : Agr (g.na S s w o) (g.na2 S s w o) := by
  unfold Gd.na Gd.na2
  split
  · exact Agr.far
  · exact Gd.lst_agr hg hw ho
theorem sp_near9 {post : Int32 → ((Nat → Int32) × Int32 × Int32 × (Nat → Int32) × (Nat → Int32)) → Prop} (hg : g.Ok) (hc : CG g xs ys cs ws nw nl) (hS : SH1 g S nl xs ys ws sz os) (hw : g.hw w)
    (hp : ∀ z, post (zI (g.near S s w)) z) :
    ∀ (j b : Nat) (f8 : Nat → Int32) (r0 c0 : Int32) (f11 f12 : Nat → Int32), (b : Int) + j = g.nw → wpX10_nearestOf_9 post nw nl cs xs ys ws sz os (j + 1) f8 r0 c0 f11 f12 (zI w) s (zI (am (g.na S s w) 2147483647 b).2) (zI (am (g.na S s w) 2147483647 b).1) (zI b) := by
  have e0 := hg.nw
  have bd : ∀ b : Int, 0 ≤ b → b < g.nw → 0 ≤ g.na S s w b ∧ g.na S s w b ≤ 2147483647 := fun b h0 h1 => (na_agr hg hw ⟨h0, h1⟩).bd.1
  have hw' := hw
  unfold Gd.hw at hw'
  rw [hc.nw]
  intro j
  induction j with
  | zero =>
    intro b f8 r0 c0 f11 f12 hb
    have hp' := hp (f8, r0, c0, f11, f12)
    unfold Gd.near at hp'
    rw [show g.nw.toNat = b by omega] at hp'
    unfold wpX10_nearestOf_9
    rw [zI_le (by omega)]
    exact ⟨fun _ => hp', fun h => absurd h (by omega)⟩
  | succ j ih =>
    intro b f8 r0 c0 f11 f12 hb
    have ab := am_bd (F := 2147483647) (by omega) b (fun b' h0 h1 => bd b' h0 (by omega))
    have e : am (g.na S s w) 2147483647 (b + 1) = if g.na S s w b < (am (g.na S s w) 2147483647 b).1 then (g.na S s w b, (b : Int)) else am (g.na S s w) 2147483647 b := rfl
    have skip : ¬ g.na S s w b < (am (g.na S s w) 2147483647 b).1 → ∀ f8 r0 c0 f11 f12, wpX10_nearestOf_71 (fun y0 y1 y2 y3 y4 y5 y6 y7 y8 y9 => wpX10_nearestOf_9 post (zI g.nw) nl cs xs ys ws sz os (j + 1) y0 y1 y2 y3 y4 y5 y6 y7 y8 y9) post (zI g.nw) nl cs xs ys ws sz os f8 r0 c0 f11 f12 (zI w) s (zI (am (g.na S s w) 2147483647 b).2) (zI (am (g.na S s w) 2147483647 b).1) (zI b) := by
      intro h f8 r0 c0 f11 f12
      have i := ih (b + 1) f8 r0 c0 f11 f12 (by omega)
      rw [e, if_neg h] at i
      unfold wpX10_nearestOf_71
      simp (disch := omega) only [zI_lit, zI_add, zI_sub, zI_mul, zI_neg, zI_le, zI_lt, zI_eq, zI_nat, zI_max, zI_min, zI_abs, forall_eq, Int.reduceNeg, Int.reduceAdd, Int.reduceMul, Int.reduceSub, Int.add_zero, Int.zero_add, Int.zero_mul, Int.toNat_zero]
      exact i
    unfold wpX10_nearestOf_9
    rw [zI_le (by omega), zI_eq (by omega)]
    refine ⟨fun h => absurd h (by omega), fun _ => ⟨fun h => skip ?_ _ _ _ _ _, fun h => sp_isIn (fun hs => ⟨fun _ => ?_, fun h => absurd h (by decide)⟩) (fun hs => ⟨fun h => absurd rfl h, fun _ => skip ?_ _ _ _ _ _⟩)⟩⟩
    · have en : g.na S s w b = 2147483647 := by unfold Gd.na; rw [if_pos (Or.inl h)]
      omega
    · have ho : g.hw b := ⟨by omega, by omega⟩
      have en : g.na S s w b = g.lst S w b := by unfold Gd.na; rw [if_neg (by rw [hs]; rintro (h' | h') <;> first | exact h h' | exact absurd h' (by decide))]
      have lb := (lst_bd (S := S) hg hw ho).1
      have eb := least_bd (S := S) hg hw ho
      refine sp_shortest hg hc hS hw ho (fun fp fb sn _ _ => ?_)
      rw [show (-1 : Int32) = zI (-1) from rfl, zI_eq (by omega), zI_le (by omega)]
      have el : g.least S w b = if g.lst S w b = 2147483647 then -1 else g.lst S w b := rfl
      refine ⟨fun h1 => skip (by rw [en]; split at el <;> omega) _ _ _ _ _, fun h1 => ⟨fun h2 => skip (by rw [en]; split at el <;> omega) _ _ _ _ _, fun h2 => ?_⟩⟩
      rw [if_neg (by intro h3; rw [if_pos h3] at el; exact h1 el)] at el
      have i := ih (b + 1) sn (zI (g.cn w)) (zI (g.cn b)) fp fb (by omega)
      rw [e, en, if_pos (by omega), ← el] at i
      unfold wpX10_nearestOf_71
      simp (disch := omega) only [zI_lit, zI_add, zI_sub, zI_mul, zI_neg, zI_le, zI_lt, zI_eq, zI_nat, zI_max, zI_min, zI_abs, forall_eq, Int.reduceNeg, Int.reduceAdd, Int.reduceMul, Int.reduceSub, Int.add_zero, Int.zero_add, Int.zero_mul, Int.toNat_zero]
      exact i
    · have en : g.na S s w b = 2147483647 := by unfold Gd.na; rw [if_pos (Or.inr hs)]
      omega
theorem sp_nearestOf {post : Int32 → ((Nat → Int32) × Int32 × Int32 × (Nat → Int32) × (Nat → Int32)) → Prop} {f8 f11 f12 : Nat → Int32} {r0 c0 : Int32} (hg : g.Ok) (hc : CG g xs ys cs ws nw nl) (hS : SH1 g S nl xs ys ws sz os) (hw : g.hw w)
    (hp : ∀ z, post (zI (g.near S s w)) z) : wpX10_nearestOf post nw nl cs xs ys ws sz os f8 r0 c0 f11 f12 (zI w) s :=
  ⟨g.nw.toNat + 1, sp_near9 hg hc hS hw hp g.nw.toNat 0 f8 r0 c0 f11 f12 (by have := hg.nw; omega)⟩
theorem near_eq (hg : g.Ok) (hw : g.hw w) : g.near S s w = (am (g.na2 S s w) 2000000000 g.nw.toNat).2 :=
  (am_agr g.nw.toNat (fun b h0 h1 => na_agr hg hw ⟨h0, by omega⟩)).2
theorem sr_near10 {post : Int32 → (Int32 × Int32 × (Nat → Int32) × (Nat → Int32) × (Nat → Int32)) → Prop} (hg : g.Ok) (hv : WG g v) (hS : SH2 g S v) (hw : g.hw w)
    (hp : ∀ z, post (zI (g.near S s w)) z) :
    ∀ (j b : Nat) (m0 d0 : Int32) (f2 f3 f4 : Nat → Int32), (b : Int) + j = g.nw → wpX11_nearestOf_10 post v (j + 1) m0 d0 f2 f3 f4 (zI w) s (zI (am (g.na2 S s w) 2000000000 b).2) (zI (am (g.na2 S s w) 2000000000 b).1) (zI b) := by
  have e0 := hg.nw
  have bd : ∀ b : Int, 0 ≤ b → b < g.nw → 0 ≤ g.na2 S s w b ∧ g.na2 S s w b ≤ 2000000000 := fun b h0 h1 => (na_agr hg hw ⟨h0, h1⟩).bd.2
  have hw' := hw
  unfold Gd.hw at hw'
  intro j
  induction j with
  | zero =>
    intro b m0 d0 f2 f3 f4 hb
    have hp' := hp (m0, d0, f2, f3, f4)
    rw [near_eq hg hw, show g.nw.toNat = b by omega] at hp'
    unfold wpX11_nearestOf_10
    refine sr_ways hv ?_
    rw [zI_le (by omega)]
    exact ⟨fun _ => hp', fun h => absurd h (by omega)⟩
  | succ j ih =>
    intro b m0 d0 f2 f3 f4 hb
    have ab := am_bd (F := 2000000000) (by omega) b (fun b' h0 h1 => bd b' h0 (by omega))
    have bb := bd b (by omega) (by omega)
    have e : am (g.na2 S s w) 2000000000 (b + 1) = if g.na2 S s w b < (am (g.na2 S s w) 2000000000 b).1 then (g.na2 S s w b, (b : Int)) else am (g.na2 S s w) 2000000000 b := rfl
    have go : ∀ m0 d0 f2 f3 f4, wpX11_nearestOf_47 (fun y0 y1 y2 y3 y4 y5 y6 y7 y8 y9 => wpX11_nearestOf_10 post v (j + 1) y0 y1 y2 y3 y4 y5 y6 y7 y8 y9) post v m0 d0 f2 f3 f4 (zI w) s (zI (am (g.na2 S s w) 2000000000 b).2) (zI (am (g.na2 S s w) 2000000000 b).1) (zI b) (zI (g.na2 S s w b)) := by
      intro m0 d0 f2 f3 f4
      have i := ih (b + 1) m0 d0 f2 f3 f4 (by omega)
      rw [e] at i
      unfold wpX11_nearestOf_47 wpX11_nearestOf_66
      simp (disch := omega) only [zI_lit, zI_add, zI_sub, zI_mul, zI_neg, zI_le, zI_lt, zI_eq, zI_nat, zI_max, zI_min, zI_abs, forall_eq, Int.reduceNeg, Int.reduceAdd, Int.reduceMul, Int.reduceSub, Int.add_zero, Int.zero_add, Int.zero_mul, Int.toNat_zero]
      refine ⟨fun h => ?_, fun h => ?_⟩
      · rw [if_pos h] at i; exact i
      · rw [if_neg h] at i; exact i
    have skip : (b = w ∨ inS s b = false) → ∀ m0 d0 f2 f3 f4, wpX11_nearestOf_34 (fun y0 y1 y2 y3 y4 y5 y6 y7 y8 y9 => wpX11_nearestOf_10 post v (j + 1) y0 y1 y2 y3 y4 y5 y6 y7 y8 y9) post v m0 d0 f2 f3 f4 (zI w) s (zI (am (g.na2 S s w) 2000000000 b).2) (zI (am (g.na2 S s w) 2000000000 b).1) (zI b) := by
      intro h m0 d0 f2 f3 f4
      have := go m0 d0 f2 f3 f4
      unfold Gd.na2 at this
      rw [if_pos h] at this
      exact this
    unfold wpX11_nearestOf_10
    refine sr_ways hv ?_
    rw [zI_le (by omega), zI_eq (by omega)]
    refine ⟨fun h => absurd h (by omega), fun _ => ⟨fun h => skip (Or.inl h) _ _ _ _ _, fun h => sr_has (fun hs => ⟨fun _ => ?_, fun h => absurd h (by decide)⟩) (fun hs => ⟨fun h => absurd rfl h, fun _ => skip (Or.inr hs) _ _ _ _ _⟩)⟩⟩
    have ho : g.hw b := ⟨by omega, by omega⟩
    have en : g.na2 S s w b = g.lst2 S w b := by unfold Gd.na2; rw [if_neg (by rw [hs]; rintro (h' | h') <;> first | exact h h' | exact absurd h' (by decide))]
    refine sr_leastOf hg hv hS hw ho (fun sn ff fl _ _ => ?_)
    have := go (zI (g.cn w)) (zI (g.cn b)) sn ff fl
    rw [en] at this
    exact this
theorem sr_nearestOf {post : Int32 → (Int32 × Int32 × (Nat → Int32) × (Nat → Int32) × (Nat → Int32)) → Prop} {m0 d0 : Int32} {f2 f3 f4 : Nat → Int32} (hg : g.Ok) (hv : WG g v) (hS : SH2 g S v) (hw : g.hw w)
    (hp : ∀ z, post (zI (g.near S s w)) z) : wpX11_nearestOf post v m0 d0 f2 f3 f4 (zI w) s :=
  ⟨g.nw.toNat + 1, sr_near10 hg hv hS hw hp g.nw.toNat 0 m0 d0 f2 f3 f4 (by have := hg.nw; omega)⟩
theorem sp_nearest {post : Int32 → ((Nat → Int32) × Int32 × Int32 × (Nat → Int32) × (Nat → Int32)) → Prop} {postX : String → ((Nat → Int32) × Int32 × Int32 × (Nat → Int32) × (Nat → Int32)) → Prop} {f8 f11 f12 : Nat → Int32} {r0 c0 : Int32} (hg : g.Ok) (hc : CG g xs ys cs ws nw nl) (hS : SH1 g S nl xs ys ws sz os) (hw : -2147483648 ≤ w ∧ w < 2147483648)
    (hx : ¬ g.hw w → postX "java/lang/IndexOutOfBoundsException" (f8, r0, c0, f11, f12))
    (hp : g.hw w → ∀ z, post (zI (g.near S s w)) z) : wpX10_nearest post postX nw nl cs xs ys ws sz os f8 r0 c0 f11 f12 (zI w) s := by
  unfold wpX10_nearest
  refine sp_needWay hg hc hw (fun h1 => ?_) hx
  exact sp_nearestOf hg hc hS h1 (fun z => hp h1 _)
theorem sr_nearest {post : Int32 → (Int32 × Int32 × Int32 × (Nat → Int32) × (Nat → Int32) × (Nat → Int32)) → Prop} {th m0 d0 : Int32} {f2 f3 f4 : Nat → Int32} (hg : g.Ok) (hv : WG g v) (hS : SH2 g S v) (hw : -2147483648 ≤ w ∧ w < 2147483648)
    (hx : ¬ g.hw w → ∀ r z, z.1 = 1 → post r z)
    (hp : g.hw w → ∀ z, z.1 = 0 → post (zI (g.near S s w)) z) : wpX11_nearest post v th m0 d0 f2 f3 f4 (zI w) s := by
  unfold wpX11_nearest
  refine sr_noWay hg hv hw (fun h1 => ?_) (fun h1 => ?_)
  · refine sr_throwsIf (fun _ => ⟨fun _ => ?_, fun h => absurd rfl h⟩) (fun h => absurd h (by decide)) (Or.inl rfl)
    exact sr_nearestOf hg hv hS h1 (fun z => hp h1 _ rfl)
  · exact sr_throwsIf (fun h => absurd h (by decide)) (fun _ => ⟨fun h => absurd h (by decide), fun _ => hx h1 _ _ rfl⟩) (Or.inr rfl)
end
