theorem ix30 (c a : Nat) : (30 * zI (c : Int)) + zI (a : Int) = zI ((30 * c + a : Nat) : Int) := by
  rw [show (30 : Int32) = zI 30 from rfl, zI_mul, zI_add]; congr 1
theorem z0_le {b : Int} (h : -2147483648 ≤ b ∧ b < 2147483648) : ((0 : Int32) ≤ zI b) = (0 ≤ b) := zI_le (a := 0) (b := b) ⟨by omega, h⟩
theorem and_0 (x y : Int32) : (x &&& y = 0) ↔ ∀ j, ¬ (hBit x j ∧ hBit y j) := by
  constructor
  · intro h j q
    have := (hBit_and x y j).2 q
    rw [h] at this
    exact hBit_zero j this
  · intro h
    apply hBit_ext
    intro j
    rw [hBit_and]
    exact ⟨fun q => absurd q (h j), fun q => absurd q (hBit_zero j)⟩
theorem sr_has0 {post : Int32 → Unit → Prop} {x : Int32} (h1 : hBit x 0 → post 1 ()) (h0 : ¬ hBit x 0 → post 0 ()) : wpX11_has post x 0 := by
  have e := hBit_at x (j := 0) (by decide)
  unfold wpX11_has
  exact ⟨fun h => h0 (fun q => h (cast e.symm q)), fun h => h1 (cast e h)⟩
section
variable {g : Gd} {v : Nat → Int32} {w l : Int} {n c : Nat} {th : Int32} {N : Nat → Nat → Prop}
theorem sr_f63 {k46 : Int32 → (Nat → Int32) → (Nat → Int32) → Int32 → Int32 → Int32 → Int32 → Prop} {post : Int32 → (Int32 × (Nat → Int32) × (Nat → Int32)) → Prop} {fr f0 : Nat → Int32} (hg : g.Ok) (hv : WG g v) (hw : g.hw w) (hn : g.cn w = (n : Int)) (hl : -2147483648 ≤ l ∧ l < 2147483648) (hc : c < n)
    (hk : ∀ f' : Nat → Int32, (∀ j, hBit (f' c) j ↔ nbr n (g.nr w l) c j) → (∀ i, i ≠ c → f' i = f0 i) → k46 th f' fr (zI w) (zI l) (zI (n : Int)) (zI ((c + 1 : Nat) : Int))) :
    ∀ (k b : Nat) (f : Nat → Int32), b + k = n → (∀ j, hBit (f c) j ↔ (j < b ∧ g.nr w l c j)) → (∀ i, i ≠ c → f i = f0 i) → wpX11_fewer_63 k46 post v (k + 1) th f fr (zI w) (zI l) (zI (n : Int)) (zI (c : Int)) (zI (b : Int)) := by
  have h30 := hg.cn w hw.1 hw.2
  intro k
  induction k with
  | zero =>
    intro b f hb h1 h2
    unfold wpX11_fewer_63
    rw [zN_le (by omega)]
    refine ⟨fun _ v1 e1 => ?_, fun q => absurd (show n ≤ b by omega) q⟩
    rw [e1, zS]
    refine hk f (fun j => ?_) h2
    rw [h1 j, show b = n by omega]
    exact Iff.rfl
  | succ k ih =>
    intro b f hb h1 h2
    have n99 : ∀ s : Int32, (∀ j, hBit s j ↔ (j = b ∧ g.nr w l c j)) → wpX11_fewer_99 (fun y0 y1 y2 y3 y4 y5 y6 y7 => wpX11_fewer_63 k46 post v (k + 1) y0 y1 y2 y3 y4 y5 y6 y7) k46 post v th f fr (zI w) (zI l) (zI (n : Int)) (zI (c : Int)) (zI (b : Int)) (zI (c : Int)) (f (zI (c : Int)).toNatClampNeg) s := by
      intro s hs
      unfold wpX11_fewer_99
      rw [zN (by omega)]
      refine ⟨zN_in (by omega), fun v1 e1 => ?_⟩
      rw [e1, zS]
      refine ih (b + 1) _ (by omega) (fun j => ?_) (fun i hi => ?_)
      · rw [upd_eq, if_pos rfl, hBit_or, h1 j, hs j]
        constructor
        · rintro (q | q)
          · exact ⟨by omega, q.2⟩
          · exact ⟨by omega, q.2⟩
        · rintro ⟨q1, q2⟩
          by_cases e : j = b
          · exact Or.inr ⟨e, q2⟩
          · exact Or.inl ⟨by omega, q2⟩
      · rw [upd_eq, if_neg hi]; exact h2 i hi
    have hfar := Gd.far_le hg (w := w) (m := (c : Int)) (o := w) (d := (b : Int)) ⟨hw, by omega, by omega⟩ ⟨hw, by omega, by omega⟩
    unfold wpX11_fewer_63
    rw [zN_le (by omega)]
    refine ⟨fun q => absurd q (by omega), fun _ => ⟨zN_in (by omega), ?_⟩⟩
    refine sr_farAt hg hv ⟨hw, by omega, by omega⟩ ⟨hw, by omega, by omega⟩ ?_
    rw [zI_lt (by omega)]
    refine ⟨fun q => n99 0 (fun j => ⟨fun p => absurd p (hBit_zero j), fun p => ?_⟩), fun q => n99 _ (fun j => ?_)⟩
    · obtain ⟨p1, p2⟩ := p
      subst p1
      unfold Gd.nr at p2
      omega
    · rw [hBit_one (by omega)]
      refine ⟨fun p => ⟨p, ?_⟩, fun p => p.1⟩
      subst p
      unfold Gd.nr
      omega
theorem sr_f46 {post : Int32 → (Int32 × (Nat → Int32) × (Nat → Int32)) → Prop} {fr : Nat → Int32} (hg : g.Ok) (hv : WG g v) (hw : g.hw w) (hn : g.cn w = (n : Int)) (hl : -2147483648 ≤ l ∧ l < 2147483648)
    (hk1 : n = 1 → ∀ f' : Nat → Int32, post 1 (th, f', fr))
    (hk : ¬ n = 1 → ∀ f' : Nat → Int32, (∀ c, c < n → ∀ j, hBit (f' c) j ↔ nbr n (g.nr w l) c j) → ∃ n_123 : Nat, wpX11_fewer_123 post v n_123 th f' fr (zI (n : Int)) 0) :
    ∀ (k b : Nat) (f : Nat → Int32), b + k = n → (∀ c, c < b → ∀ j, hBit (f c) j ↔ nbr n (g.nr w l) c j) → wpX11_fewer_46 post v (k + 1) th f fr (zI w) (zI l) (zI (n : Int)) (zI (b : Int)) := by
  have h30 := hg.cn w hw.1 hw.2
  intro k
  induction k with
  | zero =>
    intro b f hb h1
    unfold wpX11_fewer_46
    have e1 : (zI (n : Int) = 1) = (n = 1) := zN_eq (p := n) (q := 1) (by omega)
    rw [zN_le (by omega), e1]
    exact ⟨fun _ => ⟨fun q => hk q f (fun c q' => h1 c (by omega)), fun q => hk1 q f⟩, fun q => absurd (show n ≤ b by omega) q⟩
  | succ k ih =>
    intro b f hb h1
    unfold wpX11_fewer_46
    rw [zN_le (by omega), zN (by omega)]
    refine ⟨fun q => absurd q (by omega), fun _ => ⟨zN_in (by omega), n + 1, ?_⟩⟩
    refine sr_f63 (f0 := f) hg hv hw hn hl (by omega) (fun f' q1 q2 => ih (b + 1) f' (by omega) (fun c q => ?_)) n 0 _ (by omega) (fun j => ?_) (fun i hi => ?_)
    · by_cases e : c = b
      · subst e; exact q1
      · rw [q2 c e]; exact h1 c (by omega)
    · rw [upd_eq, if_pos rfl]
      exact ⟨fun q => absurd q (hBit_zero j), fun q => absurd q.1 (Nat.not_lt_zero j)⟩
    · rw [upd_eq, if_neg hi]
theorem sr_f123 {post : Int32 → (Int32 × (Nat → Int32) × (Nat → Int32)) → Prop} {nr : Nat → Int32} (h2 : 2 ≤ n) (h30 : n ≤ 30) (hnr : ∀ c, c < n → ∀ j, hBit (nr c) j ↔ nbr n N c j)
    (hk : ∀ fr : Nat → Int32, (∀ c, c < n → ∀ j, hBit (fr c) j ↔ Fro n N 0 c j) → ∃ n_168 : Nat, wpX11_fewer_168 post v n_168 th nr fr (zI (n : Int)) 0) :
    ∀ (k b : Nat) (fr : Nat → Int32), b + k = n → (∀ c, c < b → ∀ j, hBit (fr c) j ↔ Fro n N 0 c j) → wpX11_fewer_123 post v (k + 1) th nr fr (zI (n : Int)) (zI (b : Int)) := by
  intro k
  induction k with
  | zero =>
    intro b fr hb h1
    unfold wpX11_fewer_123
    rw [zN_le (by omega)]
    exact ⟨fun _ => hk fr (fun c q => h1 c (by omega)), fun q => absurd (show n ≤ b by omega) q⟩
  | succ k ih =>
    intro b fr hb h1
    have n158 : ∀ s : Int32, (∀ j, hBit s j ↔ Fro n N 0 b j) → wpX11_fewer_158 (fun y0 y1 y2 y3 y4 => wpX11_fewer_123 post v (k + 1) y0 y1 y2 y3 y4) post v th nr fr (zI (n : Int)) (zI (b : Int)) (zI (b : Int)) s := by
      intro s hs
      unfold wpX11_fewer_158
      rw [zN (by omega)]
      refine ⟨zN_in (by omega), fun v1 e1 => ?_⟩
      rw [e1, zS]
      refine ih (b + 1) _ (by omega) (fun c q => ?_)
      rw [upd_eq]
      by_cases e : c = b
      · rw [if_pos e, e]; exact hs
      · rw [if_neg e]; exact h1 c (by omega)
    unfold wpX11_fewer_123
    rw [zN_le (by omega), zN_sub1 (by omega), zN_eq (by omega)]
    refine ⟨fun q => absurd q (by omega), fun _ => ⟨fun q => n158 0 (fun j => ⟨fun p => absurd p (hBit_zero j), fun p => ?_⟩), fun q => ?_⟩⟩
    · have := p.1
      omega
    · refine sr_backwards (by omega) (fun j p => ?_) (fun r hr => n158 r (fun j => ?_))
      · have := ((hnr b (by omega) j).1 p).1
        omega
      · rw [hr j, DnA_ext (fun j => hBit_one (by omega) j) (hnr b (by omega)) j]
        constructor
        · rintro ⟨s, q1, q2, q3⟩
          subst q2
          exact ⟨by omega, by omega, fun i t1 t2 => (q3 i t1 (by omega)).2⟩
        · rintro ⟨q1, q2, q3⟩
          exact ⟨n - 1, by omega, rfl, fun i t1 t2 => ⟨by omega, q3 i t1 (by omega)⟩⟩
theorem Fr_succ {m c j : Nat} : Fro n N (m + 1) c j ↔ ∃ c', c < c' ∧ c' < n ∧ DnA (fun j => Fro n N m c' j ∨ Fro n N m c' (j + 1)) (nbr n N c) j := by
  constructor
  · rintro ⟨b, h1, h2, h3, c', h4, h5, h6⟩
    exact ⟨c', h4, h5, b, h1, h6, fun i t1 t2 => ⟨by omega, h3 i t1 t2⟩⟩
  · rintro ⟨c', h4, h5, b, h1, h6, h3⟩
    exact ⟨b, h1, (h3 b h1 (Nat.le_refl b)).1, fun i t1 t2 => (h3 i t1 t2).2, c', h4, h5, h6⟩
theorem sr_f211 {k196 : Int32 → (Nat → Int32) → (Nat → Int32) → Int32 → Int32 → Int32 → Prop} {k168 : Int32 → (Nat → Int32) → (Nat → Int32) → Int32 → Int32 → Prop} {post : Int32 → (Int32 × (Nat → Int32) × (Nat → Int32)) → Prop} {nr fr : Nat → Int32} {m : Nat} (hm : m + 1 < n) (h30 : n ≤ 30) (hc : c < n) (hnr : ∀ c, c < n → ∀ j, hBit (nr c) j ↔ nbr n N c j)
    (hT : ∀ c, c < n → ∀ j, hBit (fr (30 * m + c)) j ↔ Fro n N m c j)
    (hk : ∀ s : Int32, (∀ j, hBit s j ↔ Fro n N (m + 1) c j) → k196 th nr (upd fr (30 * (m + 1) + c) s) (zI (n : Int)) (zI ((m + 1 : Nat) : Int)) (zI ((c + 1 : Nat) : Int))) :
    ∀ (k b : Nat) (s : Int32), b + k = n → c < b → (∀ j, hBit s j ↔ ∃ c', c < c' ∧ c' < b ∧ DnA (fun j => Fro n N m c' j ∨ Fro n N m c' (j + 1)) (nbr n N c) j) → wpX11_fewer_211 k196 k168 post v (k + 1) th nr fr (zI (n : Int)) (zI ((m + 1 : Nat) : Int)) (zI (c : Int)) s (zI (b : Int)) := by
  intro k
  induction k with
  | zero =>
    intro b s hb hcb h1
    unfold wpX11_fewer_211
    rw [zN_le (by omega), ix30, zN (by omega)]
    refine ⟨fun _ => ⟨zN_in (by omega), fun v1 e1 => ?_⟩, fun q => absurd (show n ≤ b by omega) q⟩
    rw [e1, zS]
    refine hk s (fun j => ?_)
    rw [h1 j, Fr_succ, show b = n by omega]
  | succ k ih =>
    intro b s hb hcb h1
    unfold wpX11_fewer_211
    rw [zN_le (by omega), zN_sub1 (by omega), Nat.add_sub_cancel, ix30 m b, zN (p := 30 * m + b) (by omega)]
    refine ⟨fun q => absurd q (by omega), fun _ => ⟨zN_in (by omega), ?_⟩⟩
    refine sr_leadsTo (by omega) (fun j p => ?_) (fun p => ?_) (fun r hr => ?_)
    · have := ((hnr c hc j).1 p).1
      omega
    · have := (Fr_in ((hT b (by omega) 31).1 p)).2.1
      omega
    · intro v4 e4 v5 e5
      rw [e5, zS]
      refine ih (b + 1) v4 (by omega) (by omega) (fun j => ?_)
      rw [e4, hBit_or, h1 j, hr j, DnA_ext (fun j => or_congr (hT b (by omega) j) (hT b (by omega) (j + 1))) (hnr c hc) j]
      constructor
      · rintro (⟨c', q1, q2, q3⟩ | q)
        · exact ⟨c', q1, by omega, q3⟩
        · exact ⟨b, hcb, by omega, q⟩
      · rintro ⟨c', q1, q2, q3⟩
        by_cases e : c' = b
        · subst e; exact Or.inr q3
        · exact Or.inl ⟨c', q1, by omega, q3⟩
theorem sr_f196 {k168 : Int32 → (Nat → Int32) → (Nat → Int32) → Int32 → Int32 → Prop} {post : Int32 → (Int32 × (Nat → Int32) × (Nat → Int32)) → Prop} {nr : Nat → Int32} {m : Nat} (hm : m + 1 < n) (h30 : n ≤ 30) (hnr : ∀ c, c < n → ∀ j, hBit (nr c) j ↔ nbr n N c j)
    (hk : ∀ fr : Nat → Int32, (∀ k, k ≤ m + 1 → ∀ c, c < n → ∀ j, hBit (fr (30 * k + c)) j ↔ Fro n N k c j) → k168 th nr fr (zI (n : Int)) (zI ((m + 1 : Nat) : Int))) :
    ∀ (k b : Nat) (fr : Nat → Int32), b + k = n → (∀ k, k ≤ m → ∀ c, c < n → ∀ j, hBit (fr (30 * k + c)) j ↔ Fro n N k c j) → (∀ c, c < b → ∀ j, hBit (fr (30 * (m + 1) + c)) j ↔ Fro n N (m + 1) c j) → wpX11_fewer_196 k168 post v (k + 1) th nr fr (zI (n : Int)) (zI ((m + 1 : Nat) : Int)) (zI (b : Int)) := by
  intro k
  induction k with
  | zero =>
    intro b fr hb h1 h2
    unfold wpX11_fewer_196
    rw [zN_le (by omega)]
    refine ⟨fun _ => hk fr (fun k q c hc => ?_), fun q => absurd (show n ≤ b by omega) q⟩
    by_cases e : k = m + 1
    · subst e; exact h2 c (by omega)
    · exact h1 k (by omega) c hc
  | succ k ih =>
    intro b fr hb h1 h2
    unfold wpX11_fewer_196
    rw [zN_le (by omega)]
    refine ⟨fun q => absurd q (by omega), fun _ v1 e1 => ⟨n - (b + 1) + 1, ?_⟩⟩
    rw [e1, zS]
    refine sr_f211 hm h30 (by omega) hnr (h1 m (Nat.le_refl m)) (fun s hs => ih (b + 1) _ (by omega) (fun k q c hc => ?_) (fun c q => ?_)) (n - (b + 1)) (b + 1) 0 (by omega) (by omega) (fun j => ⟨fun q => absurd q (hBit_zero j), ?_⟩)
    · rw [upd_eq, if_neg (by omega)]; exact h1 k q c hc
    · rw [upd_eq]
      by_cases e : c = b
      · subst e; rw [if_pos rfl]; exact hs
      · rw [if_neg (by omega)]; exact h2 c (by omega)
    · rintro ⟨c', q1, q2, _⟩
      omega
theorem sr_f293 {post : Int32 → (Int32 × (Nat → Int32) × (Nat → Int32)) → Prop} {nr fr : Nat → Int32} {m : Nat} (hm : m < n) (h30 : n ≤ 30) (hnr : ∀ c, c < n → ∀ j, hBit (nr c) j ↔ nbr n N c j) (hT : ∀ k, k ≤ m → ∀ c, c < n → ∀ j, hBit (fr (30 * k + c)) j ↔ Fro n N k c j) :
    ∀ (lf c : Nat) (S : Nat → Prop) (bits s : Int32), lf ≤ m → c < n → Cl n N c S → (∀ j, hBit s j ↔ S j) → (∃ a, S a ∧ Fro n N lf c a) → (∀ r, Ch n N lf c S bits r → post r (th, nr, fr)) →
      wpX11_fewer_293 post v (lf + 1) th nr fr bits (zI (c : Int)) s (zI ((lf : Int) - 1)) := by
  intro lf
  induction lf with
  | zero =>
    intro c S bits s hlf hc hC hs hx hp
    unfold wpX11_fewer_293
    have z0 : zI (((0 : Nat) : Int) - 1) < 0 := by decide
    exact ⟨fun _ => hp bits rfl, fun q => absurd z0 q⟩
  | succ l ih =>
    intro c S bits s hlf hc hC hs hx hp
    obtain ⟨a0, ha0, hFa0⟩ := hx
    obtain ⟨x0, hx1, hx2, hx3⟩ := goes_ex hC ha0 hFa0
    have hs31 : ∀ j, hBit s j → j < 31 := fun j q => by
      have := (hC.1 j ((hs j).1 q)).1
      omega
    have hS : hBit s = S := funext fun j => propext (hs j)
    rw [show (((l + 1 : Nat) : Int) - 1) = (l : Int) by omega]
    unfold wpX11_fewer_293
    have z0 : ¬ zI (l : Int) < 0 := by
      rw [show (0 : Int32) = zI 0 from rfl, zI_lt (by omega)]; omega
    refine ⟨fun q => absurd q z0, fun _ v1 e1 => ⟨n - (c + 1) + 1, ?_⟩⟩
    have hup : ∀ x, x < n → ∀ r : Int32, (∀ j, hBit r j ↔ UpA (Ent (hBit s)) (hBit (nr x)) j) → ∀ j, hBit r j ↔ UpA (Ent S) (nbr n N x) j := by
      intro x hx r hr j
      rw [hr j, hS]
      exact UpA_ext (fun j => Iff.rfl) (hnr x hx) j
    have srch : ∀ (j x : Nat), x + j = n → c < x → (∀ y, c < y → y < x → ¬ ∃ e, Ent S e ∧ Fro n N l y e) → wpX11_fewer_304 (fun y0 y1 y2 y3 y4 y5 y6 => wpX11_fewer_293 post v (l + 1) y0 y1 y2 y3 y4 y5 y6) post v (j + 1) th nr fr bits s (zI (l : Int)) (zI (x : Int)) := by
      intro j
      induction j with
      | zero =>
        intro x q1 q2 q3
        exact absurd hx3 (q3 x0 hx1 (by omega))
      | succ j ihj =>
        intro x q1 q2 q3
        unfold wpX11_fewer_304
        refine sr_comes (by omega) hs31 (fun r hr => ?_)
        have hr' := hup x (by omega) r hr
        rw [ix30, zN (by omega)]
        have tst : (r &&& fr (30 * l + x) = 0) ↔ ¬ ∃ e, Ent S e ∧ Fro n N l x e := by
          rw [and_0, ← up_ex]
          constructor
          · rintro p ⟨j, p1, p2⟩
            exact p j ⟨(hr' j).2 p1, (hT l (by omega) x (by omega) j).2 p2⟩
          · intro p j p1
            exact p ⟨j, (hr' j).1 p1.1, (hT l (by omega) x (by omega) j).1 p1.2⟩
        refine ⟨zN_in (by omega), fun p => ?_, fun p v7 e7 => ?_⟩
        · have p' : ∃ e, Ent S e ∧ Fro n N l x e := Classical.byContradiction fun p' => p (tst.2 p')
          refine sr_comes (by omega) hs31 (fun r4 hr4 => ?_)
          intro v5 e5 v6 e6
          rw [e6, show (-1 : Int32) = zI (-1) from rfl, zI_add, show (l : Int) + -1 = (l : Int) - 1 by omega]
          exact ih x (UpA (Ent S) (nbr n N x)) v5 r4 (by omega) (by omega) UpA_cl (hup x (by omega) r4 hr4) (up_ex.2 p') (fun r' hr' => hp r' ⟨x, q2, by omega, p', q3, by rw [← e5]; exact hr'⟩)
        · rw [e7, zS]
          refine ihj (x + 1) (by omega) (by omega) (fun y u1 u2 => ?_)
          by_cases e : y = x
          · subst e; exact tst.1 p
          · exact q3 y u1 (by omega)
    rw [e1, zS]
    exact srch (n - (c + 1)) (c + 1) (by omega) (by omega) (fun y u1 u2 => absurd u2 (by omega))
theorem ix30z (m : Nat) : (30 : Int32) * zI (m : Int) = zI ((30 * m + 0 : Nat) : Int) := by
  rw [show (30 : Int32) = zI 30 from rfl, zI_mul]; congr 1
theorem sr_f168 {post : Int32 → (Int32 × (Nat → Int32) × (Nat → Int32)) → Prop} {nr : Nat → Int32} (h2 : 2 ≤ n) (h30 : n ≤ 30) (hN : ∀ c, c < n → N c c) (hnr : ∀ c, c < n → ∀ j, hBit (nr c) j ↔ nbr n N c j) (hp : ∀ (r : Int32) (fr : Nat → Int32), Fwr n N r → post r (th, nr, fr)) :
    ∀ (k m : Nat) (fr : Nat → Int32), m + k + 1 = n → (∀ k, k ≤ m → ∀ c, c < n → ∀ j, hBit (fr (30 * k + c)) j ↔ Fro n N k c j) → (∀ j, j < m → ¬ Fro n N j 0 0) → wpX11_fewer_168 post v (k + 1) th nr fr (zI (n : Int)) (zI (m : Int)) := by
  have fnd : ∀ (m : Nat) (fr : Nat → Int32), m < n → (∀ k, k ≤ m → ∀ c, c < n → ∀ j, hBit (fr (30 * k + c)) j ↔ Fro n N k c j) → (∀ j, j < m → ¬ Fro n N j 0 0) → Fro n N m 0 0 → wpX11_goesOn (fun (r4 : Int32) (_ : Unit) => ∀ v5 : Int32, v5 = zI (m : Int) - 1 → ∃ n_293 : Nat, wpX11_fewer_293 post v n_293 th nr fr 1 0 r4 v5) nr 1 0 := by
    intro m fr hm hT hl h
    refine sr_goesOn (c := 0) (s := 1) (by omega) (fun r4 hr4 => ?_)
    intro v5 e5
    refine ⟨m + 1, ?_⟩
    rw [e5, show (1 : Int32) = zI 1 from rfl, zI_sub]
    exact sr_f293 hm h30 hnr hT m 0 (UpA (fun j => j = 0) (nbr n N 0)) 1 r4 (Nat.le_refl m) (by omega) UpA_cl (fun j => by rw [hr4 j]; exact UpA_ext hBit_1 (hnr 0 (by omega)) j) ⟨0, ⟨0, Nat.le_refl 0, rfl, fun i t1 t2 => by rw [show i = 0 by omega]; exact ⟨by omega, hN 0 (by omega)⟩⟩, h⟩ (fun r hr => hp r fr ⟨m, h, hl, hr⟩)
  intro k
  induction k with
  | zero =>
    intro m fr hm hT hl
    have hid := Fr_id hN (n - 1) 0 (by omega)
    rw [show n - 1 = m by omega] at hid
    have z0 : ¬ zI (m : Int) = 0 := by
      rw [show (0 : Int32) = zI ((0 : Nat) : Int) from rfl, zN_eq (by omega)]; omega
    unfold wpX11_fewer_168
    rw [ix30z, zN (by omega)]
    refine ⟨fun q => absurd q z0, fun _ => ⟨zN_in (by omega), ?_⟩⟩
    exact sr_has0 (fun _ => ⟨fun _ => fnd m fr (by omega) hT hl hid, fun q => absurd q (by decide)⟩) (fun q => absurd ((hT m (Nat.le_refl m) 0 (by omega) 0).2 hid) q)
  | succ k ih =>
    intro m fr hm hT hl
    have n190 : ¬ Fro n N m 0 0 → wpX11_fewer_190 (fun y0 y1 y2 y3 y4 => wpX11_fewer_168 post v (k + 1) y0 y1 y2 y3 y4) post v th nr fr (zI (n : Int)) (zI (m : Int)) := by
      intro h
      unfold wpX11_fewer_190
      intro v1 e1
      rw [e1, zS]
      refine ⟨n + 1, sr_f196 (m := m) (by omega) h30 hnr (fun fr' hT' => ih (m + 1) fr' (by omega) hT' (fun j hj => ?_)) n 0 fr (by omega) hT (fun c q => absurd q (Nat.not_lt_zero c))⟩
      by_cases e : j = m
      · rw [e]; exact h
      · exact hl j (by omega)
    unfold wpX11_fewer_168
    rw [ix30z, zN (by omega)]
    refine ⟨fun q => n190 (fun h => ?_), fun _ => ⟨zN_in (by omega), ?_⟩⟩
    · rw [show (0 : Int32) = zI ((0 : Nat) : Int) from rfl, zN_eq (by omega)] at q
      subst q
      have := h.1
      omega
    · exact sr_has0 (fun q => ⟨fun _ => fnd m fr (by omega) hT hl ((hT m (Nat.le_refl m) 0 (by omega) 0).1 q), fun q => absurd q (by decide)⟩) (fun q => ⟨fun q' => absurd rfl q', fun _ => n190 (fun h => q ((hT m (Nat.le_refl m) 0 (by omega) 0).2 h))⟩)
theorem nr_self (hl : 0 ≤ l) (c : Nat) : g.nr w l c c := by
  unfold Gd.nr Gd.far
  rw [Int.sub_self, Int.sub_self]
  omega
theorem sr_fewer {post : Int32 → (Int32 × (Nat → Int32) × (Nat → Int32)) → Prop} {f2 f3 : Nat → Int32} (hg : g.Ok) (hv : WG g v) (hw : -2147483648 ≤ w ∧ w < 2147483648) (hl : -2147483648 ≤ l ∧ l < 2147483648)
    (hx : ¬ g.hw w → ∀ (r : Int32) (p q : Nat → Int32), post r (1, p, q)) (hx2 : g.hw w → l < 0 → ∀ (r : Int32) (p q : Nat → Int32), post r (2, p, q))
    (hp : g.hw w → 0 ≤ l → ∀ (r : Int32) (p q : Nat → Int32), Fwr (g.cn w).toNat (g.nr w l) r → post r (0, p, q)) : wpX11_fewer post v th f2 f3 (zI w) (zI l) := by
  unfold wpX11_fewer wpX11_fewer_28
  refine sr_noWay hg hv hw (fun h1 => ?_) (fun h1 => ?_)
  · have h30 := hg.cn w h1.1 h1.2
    refine sr_thr0 ⟨fun q => absurd rfl q, fun _ => ?_⟩
    rw [z0_le hl]
    refine ⟨fun h2 => ?_, fun h2 => ?_⟩
    · refine sr_thr0 ⟨fun _ => ?_, fun q => absurd rfl q⟩
      refine sr_cornersOf hg hv h1 ?_
      obtain ⟨n, hn⟩ : ∃ n : Nat, g.cn w = (n : Int) := ⟨(g.cn w).toNat, by omega⟩
      have hp' := hp h1 h2
      rw [show (g.cn w).toNat = n by omega] at hp'
      rw [hn]
      refine ⟨n + 1, sr_f46 hg hv h1 hn hl (fun e f' => ?_) (fun e f' hf => ⟨n + 1, ?_⟩) n 0 f2 (by omega) (fun c q => absurd q (Nat.not_lt_zero c))⟩
      · subst e
        refine hp' 1 f' f3 ⟨0, ⟨rfl, by omega, fun j q1 q2 => ?_⟩, fun j hj => absurd hj (Nat.not_lt_zero j), rfl⟩
        rw [show j = 0 by omega]; exact nr_self h2 0
      · refine sr_f123 (N := g.nr w l) (by omega) (by omega) hf (fun fr hfr => ⟨n - 1 + 1, ?_⟩) n 0 f3 (by omega) (fun c q => absurd q (Nat.not_lt_zero c))
        refine sr_f168 (N := g.nr w l) (by omega) (by omega) (fun c _ => nr_self h2 c) hf (fun r fr' hr => hp' r f' fr' hr) (n - 1) 0 fr (by omega) (fun k q c hc j => ?_) (fun j hj => absurd hj (Nat.not_lt_zero j))
        obtain rfl : k = 0 := by omega
        rw [Nat.mul_zero, Nat.zero_add]
        exact hfr c hc j
    · exact sr_thr1 ⟨fun q => absurd q (by decide), fun _ => hx2 h1 (by omega) _ _ _⟩
  · exact sr_thr1 ⟨fun _ => hx h1 _ _ _, fun q => absurd q (by decide)⟩
end
theorem case_fewer : caseOk Inv wpL_1605 := by
  intro L xs kk u v o i hL hi hI hk
  have i1 : vp_in (nI i + 1) L := nI_p hi hL (j := 1) (by decide)
  have i2 : vp_in (nI i + 2) L := nI_p hi hL (j := 2) (by decide)
  obtain ⟨ht, ⟨g, k, Ls, ⟨hg, hc, hnt, hv⟩, hla, hm, hsd, hst⟩, hwb, himg⟩ := id hI
  obtain ⟨a, ea, ha⟩ := zI_of (xs (nI i + 1).toNatClampNeg)
  obtain ⟨b, eb, hb⟩ := zI_of (xs (nI i + 2).toNatClampNeg)
  unfold wpL_1605 wpL_fewer wpX10_fewer
  rw [ea, eb]
  refine ⟨i1, i2, ?_⟩
  refine sp_needWay hg hc ha (fun h1 => ?_) (fun h1 => ⟨fun _ => ⟨i1, i2, ?_⟩, fun z => absurd z (by decide), Or.inl rfl⟩)
  · have h30 := hg.cn a h1.1 h1.2
    rw [z0_le hb]
    refine ⟨fun h2 => ?_, fun h2 => ⟨fun z => absurd z (by decide), fun _ => ⟨i1, i2, ?_⟩, Or.inr rfl⟩⟩
    · obtain ⟨n, hn⟩ : ∃ n : Nat, g.cn a = (n : Int) := ⟨(g.cn a).toNat, by omega⟩
      refine sp_fewestCorners hg hc h1 hn hb (fun F L' hF => sp_firstChoice (by omega) (by omega) (fun c _ => nr_self h2 c) hF (fun r hr => ⟨vin (by decide), i1, i2, ?_⟩))
      refine sr_fewer hg hv ha hb (fun z => absurd h1 z) (fun _ z => absurd h2 (by omega)) (fun _ _ r' p q hr' => ?_)
      rw [show (g.cn a).toNat = n by omega] at hr'
      rw [Fwr_un hr' hr]
      exact tl_val rfl (lgs o _) (tl_6 (hk _ _ _ hI))
    · exact sr_fewer hg hv ha hb (fun z => absurd h1 z) (fun _ _ r p q => tl_thr rfl (by decide) (tl_6 (hk _ _ _ hI))) (fun _ z => absurd z h2)
  · exact sr_fewer hg hv ha hb (fun _ r p q => tl_thr rfl (by decide) (tl_6 (hk _ _ _ hI))) (fun z => absurd z h1) (fun z => absurd z h1)
