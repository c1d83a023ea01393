section
variable {g : Gd} {S : Int → Int → Int → Int → Bool} {xs ys cs ws os v f2 tk : Nat → Int32} {nw nl sz th : Int32} {w o l : Int}
theorem sp_undo {post : Int32 → (Int32 × Int32 × Int32 × Int32 × Int32) → Prop} {m d n r : Int} {grt : Int32} {st ga tk : Nat → Int32} (hn : 0 ≤ n ∧ n ≤ 58) (hm : 0 ≤ m ∧ m ≤ 29) (hd : 0 ≤ d ∧ d ≤ 29) (hR : Rem g w o m d n r st ga tk)
    (h0 : r = 0 → post (-1) (zI m, zI d, zI n, grt, zI r))
    (hp : 0 < r → ∀ e, (e = 1 ∨ e = 2 ∨ e = 3) → st (n - 1).toNat = zI e → post (zI e) (zI (m - mv e), zI (d - dv e), zI (n - 1), ga (n - 1).toNat, zI (r - 1))) : wpX10_undo post 1 st ga (zI m) (zI d) (zI n) grt (zI r) := by
  have rb := hR.1
  unfold wpX10_undo wpX7_takeBack
  refine ⟨fun h => absurd h (by decide), fun _ => ?_⟩
  simp (disch := omega) only [zI_lit, zI_add, zI_sub, zI_mul, zI_neg, zI_le, zI_lt, zI_eq, zI_nat, zI_max, zI_min, zI_abs, forall_eq, Int.reduceNeg, Int.reduceAdd, Int.reduceMul, Int.reduceSub, Int.add_zero, Int.zero_add, Int.zero_mul, Int.toNat_zero]
  refine ⟨fun h => h0 h, fun h => ⟨fun h' => ⟨zI_in (by omega), ?_⟩, fun h' => by omega⟩⟩
  obtain ⟨e, b1, b2, b3, b4, b5, b6⟩ := hR.back (by omega)
  have mb := mvdv b1
  rw [b2]
  refine sp_manMoves b1 ?_
  simp (disch := omega) only [zI_lit, zI_add, zI_sub, zI_mul, zI_neg, zI_le, zI_lt, zI_eq, zI_nat, zI_max, zI_min, zI_abs, forall_eq, Int.reduceNeg, Int.reduceAdd, Int.reduceMul, Int.reduceSub, Int.add_zero, Int.zero_add, Int.zero_mul, Int.toNat_zero]
  refine sp_dogMoves b1 ?_
  simp (disch := omega) only [zI_lit, zI_add, zI_sub, zI_mul, zI_neg, zI_le, zI_lt, zI_eq, zI_nat, zI_max, zI_min, zI_abs, forall_eq, Int.reduceNeg, Int.reduceAdd, Int.reduceMul, Int.reduceSub, Int.add_zero, Int.zero_add, Int.zero_mul, Int.toNat_zero]
  exact ⟨zI_in (by omega), hp (by omega) e b1 b2⟩
theorem sr_undo {post : Int32 → (Int32 × Int32 × (Nat → Int32)) → Prop} {z : Lv} (hz : LvOk g w o z) (hg : g.Ok) (hw : WkR g w o l v v z tk)
    (h0 : z.r = 0 → post (-1) (0, zI z.r, v))
    (hp : 0 < z.r → ∀ e v' (z' : Lv), (e = 1 ∨ e = 2 ∨ e = 3) → z.st (z.n - 1).toNat = zI e → z' = (z.m - mv e, z.d - dv e, z.n - 1, z.ga (z.n - 1).toNat, z.r - 1, z.st, z.ga, z.sd) → LvOk g w o z' → WkR g w o l v v' z' tk → post (zI e) (0, zI (z.r - 1), v')) : wpX11_undo post tk th (zI z.r) v := by
  obtain ⟨a1, a2, a3, ⟨b6, b7, b8, b9, b10, b11, b12⟩, a5, a6, a7⟩ := id hw
  have zb := hz.2.2
  unfold wpX11_undo
  simp only [show (10 : Int32).toNatClampNeg = 10 from rfl, show (11 : Int32).toNatClampNeg = 11 from rfl, show (12 : Int32).toNatClampNeg = 12 from rfl, show (13 : Int32).toNatClampNeg = 13 from rfl, upd_eq, Nat.reduceEqDiff, if_true, if_false, b10, b11, b12]
  simp (disch := omega) only [zI_lit, zI_add, zI_sub, zI_mul, zI_neg, zI_le, zI_lt, zI_eq, zI_nat, zI_max, zI_min, zI_abs, forall_eq, Int.reduceNeg, Int.reduceAdd, Int.reduceMul, Int.reduceSub, Int.add_zero, Int.zero_add, Int.zero_mul, Int.toNat_zero]
  refine ⟨fun h => ⟨zI_in (by omega), zI_in (by omega), zI_in (by omega), zI_in (by omega), ?_⟩, fun h => h0 h⟩
  obtain ⟨e, c1, c2, c3, c4, c5, c6⟩ := a7.back (by omega)
  have mb := mvdv c1
  rw [c3]
  refine sr_manBy c1 ?_
  simp (disch := omega) only [zI_lit, zI_add, zI_sub, zI_mul, zI_neg, zI_le, zI_lt, zI_eq, zI_nat, zI_max, zI_min, zI_abs, forall_eq, Int.reduceNeg, Int.reduceAdd, Int.reduceMul, Int.reduceSub, Int.add_zero, Int.zero_add, Int.zero_mul, Int.toNat_zero]
  refine ⟨zI_in (by omega), zI_in (by omega), ?_⟩
  refine sr_dogBy c1 ?_
  simp (disch := omega) only [zI_lit, zI_add, zI_sub, zI_mul, zI_neg, zI_le, zI_lt, zI_eq, zI_nat, zI_max, zI_min, zI_abs, forall_eq, Int.reduceNeg, Int.reduceAdd, Int.reduceMul, Int.reduceSub, Int.add_zero, Int.zero_add, Int.zero_mul, Int.toNat_zero]
  refine ⟨zI_in (by omega), zI_in (by omega), zI_in (by omega), ?_⟩
  rw [c4]
  refine hp (by omega) e _ (z.m - mv e, z.d - dv e, z.n - 1, z.ga (z.n - 1).toNat, z.r - 1, z.st, z.ga, z.sd) c1 c2 rfl ⟨c5.1, c5.2.1, ⟨by have := a7.1; show 0 ≤ z.n - 1; omega, c5.2.2⟩, by show 0 ≤ z.r - 1; omega, by show z.r - 1 ≤ 40; omega⟩ ?_
  refine ⟨(((Fx.upd (by decide)).trans (Fx.upd (by decide))).trans (Fx.upd (by decide))).trans (Fx.upd (by decide)), rfl, fun k hk => ?_, ⟨b6, b7, b8, b9, rfl, rfl, rfl⟩, rfl, a6, c6⟩
  simp only [upd_eq]
  rw [if_neg (by omega), if_neg (by omega), if_neg (by omega), if_neg (by omega)]
theorem sp_on {post : Int32 → Unit → Prop} {postX : String → Unit → Prop} {x m d n r : Int} {grt : Int32} (hg : g.Ok) (hc : CG g xs ys cs ws nw nl) (hx : -2147483648 ≤ x ∧ x < 2147483648) (h1 : g.hc w m) (h2 : g.hc o d)
    (hX : ¬ (0 ≤ x ∧ x ≤ 6) → postX "java/util/NoSuchElementException" ())
    (hp : 0 ≤ x ∧ x ≤ 6 → post (if x = 0 then zI m else if x = 1 then zI d else if x = 2 then zI n else if x = 3 then grt else if x = 4 then (if m = g.cn w - 1 ∧ d = g.cn o - 1 then 1 else 0) else if x = 5 then zI r else zI l) ()) :
    wpX10_on post postX 1 (zI w) (zI o) (zI l) (zI m) (zI d) (zI n) grt (zI r) nw cs (zI x) := by
  have e0 := hg.nw
  have e1 := hg.cn w h1.1.1 h1.1.2
  have e2 := hg.cn o h2.1.1 h2.1.2
  have h1' := h1
  have h2' := h2
  unfold Gd.hc at h1' h2'
  unfold wpX10_on wpX10_on_10
  rw [show ((zI x : Int32) < 0) = (x < 0) from zI_lt (b := 0) (by omega), show ((zI x : Int32) ≤ 6) = (x ≤ 6) from zI_le (b := 6) (by omega)]
  refine ⟨fun h => hX (by omega), fun h => ⟨fun h' => ⟨fun h => absurd h (by decide), fun _ => ?_⟩, fun h' => hX (by omega)⟩⟩
  have hp' := hp (by omega)
  have eq : ∀ j : Int, 0 ≤ j ∧ j ≤ 6 → ((zI x : Int32) = zI j) = (x = j) := fun j hj => zI_eq (by omega)
  unfold wpX10_toldOfStroll
  refine ⟨fun h => ?_, fun h => ?_, fun h => ?_, fun h => ?_, fun h => ?_, fun h => ?_, fun h => ?_⟩
  · have h : x = 0 := (eq 0 (by omega)).mp h
    subst h; exact hp'
  · have h : x = 1 := (eq 1 (by omega)).mp h
    subst h; exact hp'
  · have h : x = 2 := (eq 2 (by omega)).mp h
    subst h; exact hp'
  · have h : x = 3 := (eq 3 (by omega)).mp h
    subst h; exact hp'
  · have h : x = 4 := (eq 4 (by omega)).mp h
    subst h
    have hp4 : post (if m = g.cn w - 1 ∧ d = g.cn o - 1 then 1 else 0) () := hp'
    unfold wpX6_isStrollOver
    rw [show (1 : Int32) = zI 1 from rfl, zI_add, zI_add]
    refine sp_hasCorner hg hc (by omega) (by omega) (fun k1 => ⟨fun _ => ⟨fun _ => ?_, fun h => absurd rfl h⟩, fun h => absurd h (by decide)⟩) (fun k1 => ⟨fun h => absurd rfl h, fun _ => ?_⟩)
    · rw [if_neg (fun h => by have := k1.2; omega)] at hp4; exact hp4
    · refine sp_hasCorner hg hc (by omega) (by omega) (fun k2 => ⟨fun _ => ⟨fun _ => ?_, fun h => absurd rfl h⟩, fun h => absurd h (by decide)⟩) (fun k2 => ⟨fun h => absurd rfl h, fun _ => ⟨fun h => absurd h (by decide), fun _ => ?_⟩⟩)
      · rw [if_neg (fun h => by have := k2.2; omega)] at hp4; exact hp4
      · unfold Gd.hc at k1 k2
        rw [if_pos (by omega)] at hp4; exact hp4
  · have h : x = 5 := (eq 5 (by omega)).mp h
    subst h; exact hp'
  · have n0 : x ≠ 0 := fun e => h (Or.inl ((eq 0 (by omega)).mpr e))
    have n1 : x ≠ 1 := fun e => h (Or.inr (Or.inl ((eq 1 (by omega)).mpr e)))
    have n2 : x ≠ 2 := fun e => h (Or.inr (Or.inr (Or.inl ((eq 2 (by omega)).mpr e))))
    have n3 : x ≠ 3 := fun e => h (Or.inr (Or.inr (Or.inr (Or.inl ((eq 3 (by omega)).mpr e)))))
    have n4 : x ≠ 4 := fun e => h (Or.inr (Or.inr (Or.inr (Or.inr (Or.inl ((eq 4 (by omega)).mpr e))))))
    have n5 : x ≠ 5 := fun e => h (Or.inr (Or.inr (Or.inr (Or.inr (Or.inr ((eq 5 (by omega)).mpr e))))))
    rw [if_neg n0, if_neg n1, if_neg n2, if_neg n3, if_neg n4, if_neg n5] at hp'
    exact hp'
theorem sp_on0 {post : Int32 → Unit → Prop} {postX : String → Unit → Prop} {x : Int} {a1 a2 a3 a4 a5 a6 a7 a8 : Int32} (hx : -2147483648 ≤ x ∧ x < 2147483648)
    (hX : ¬ (0 ≤ x ∧ x ≤ 6) → postX "java/util/NoSuchElementException" ()) (hp : 0 ≤ x ∧ x ≤ 6 → post (-1) ()) : wpX10_on post postX 0 a1 a2 a3 a4 a5 a6 a7 a8 nw cs (zI x) := by
  unfold wpX10_on wpX10_on_10
  rw [show ((zI x : Int32) < 0) = (x < 0) from zI_lt (b := 0) (by omega), show ((zI x : Int32) ≤ 6) = (x ≤ 6) from zI_le (b := 6) (by omega)]
  exact ⟨fun h => hX (by omega), fun h => ⟨fun h' => ⟨fun _ => hp (by omega), fun h => absurd rfl h⟩, fun h' => hX (by omega)⟩⟩
theorem sr_on {post : Int32 → Int32 → Prop} {x : Int} {z : Lv} (hg : g.Ok) (hv : WG g v) (hx : -2147483648 ≤ x ∧ x < 2147483648) (hz : LvOk g w o z) (hw : WkR g w o l v v z tk)
    (hX : ¬ (0 ≤ x ∧ x ≤ 6) → ∀ r, post r 1)
    (hp : 0 ≤ x ∧ x ≤ 6 → post (if x = 0 then zI z.m else if x = 1 then zI z.d else if x = 2 then zI z.n else if x = 3 then z.gr else if x = 4 then (if z.m = g.cn w - 1 ∧ z.d = g.cn o - 1 then 1 else 0) else if x = 5 then zI z.r else zI l) 0) :
    wpX11_on post (zI z.r) v th (zI x) := by
  obtain ⟨a1, a2, a3, ⟨b6, b7, b8, b9, b10, b11, b12⟩, a5, a6, a7⟩ := id hw
  have e1 := hg.cn w hz.1.1.1 hz.1.1.2
  have e2 := hg.cn o hz.2.1.1.1 hz.2.1.1.2
  have h1' := hz.1
  have h2' := hz.2.1
  unfold Gd.hc at h1' h2'
  unfold wpX11_on
  rw [show (6 : Int32) = zI 6 from rfl, show (0 : Int32) = zI 0 from rfl]
  refine sr_in hx (by omega) (by omega) (fun h => ⟨fun _ => ?_, fun h => absurd h (by decide)⟩) (fun h => ⟨fun h => absurd rfl h, fun _ => ?_⟩)
  · have hp' := hp h
    have eq : ∀ j : Int, 0 ≤ j ∧ j ≤ 6 → ((zI x : Int32) = zI j) = (x = j) := fun j hj => zI_eq (by omega)
    unfold wpX11_on_21
    refine sr_throwsIf (fun _ => ⟨fun _ => ?_, fun h => absurd rfl h⟩) (fun h => absurd h (by decide)) (Or.inl rfl)
    simp only [show (6 : Int32).toNatClampNeg = 6 from rfl, show (7 : Int32).toNatClampNeg = 7 from rfl, show (8 : Int32).toNatClampNeg = 8 from rfl, show (9 : Int32).toNatClampNeg = 9 from rfl, show (10 : Int32).toNatClampNeg = 10 from rfl, show (11 : Int32).toNatClampNeg = 11 from rfl, b6, b7, b8, b9, b10, b11]
    refine ⟨by unfold vp_in; decide, fun _ => ⟨fun h4 => ?_, fun h5 => ?_, fun h6 => ?_, fun hn => ?_⟩, fun h => absurd h (by decide)⟩
    · have h4 : x = 4 := (eq 4 (by omega)).mp h4
      subst h4
      have hp4 : post (if z.m = g.cn w - 1 ∧ z.d = g.cn o - 1 then 1 else 0) 0 := hp'
      refine ⟨by unfold vp_in; decide, by unfold vp_in; decide, ?_⟩
      refine sr_cornersOf hg hv hz.1.1 ?_
      simp (disch := omega) only [zI_lit, zI_add, zI_sub, zI_mul, zI_neg, zI_le, zI_lt, zI_eq, zI_nat, zI_max, zI_min, zI_abs, forall_eq, Int.reduceNeg, Int.reduceAdd, Int.reduceMul, Int.reduceSub, Int.add_zero, Int.zero_add, Int.zero_mul, Int.toNat_zero]
      refine ⟨fun k => ?_, fun k => ⟨zI_in (by omega), zI_in (by omega), ?_⟩⟩
      · rw [if_neg (fun q => k q.1)] at hp4; exact hp4
      · refine sr_cornersOf hg hv hz.2.1.1 ?_
        simp (disch := omega) only [zI_lit, zI_add, zI_sub, zI_mul, zI_neg, zI_le, zI_lt, zI_eq, zI_nat, zI_max, zI_min, zI_abs, forall_eq, Int.reduceNeg, Int.reduceAdd, Int.reduceMul, Int.reduceSub, Int.add_zero, Int.zero_add, Int.zero_mul, Int.toNat_zero]
        refine ⟨fun k' => ?_, fun k' => ?_⟩
        · rw [if_neg (fun q => k' q.2)] at hp4; exact hp4
        · rw [if_pos ⟨k, k'⟩] at hp4; exact hp4
    · have h5 : x = 5 := (eq 5 (by omega)).mp h5
      subst h5; exact hp'
    · have h6 : x = 6 := (eq 6 (by omega)).mp h6
      subst h6; exact ⟨by unfold vp_in; decide, hp'⟩
    · have n4 : x ≠ 4 := fun e => hn (Or.inl ((eq 4 (by omega)).mpr e))
      have n5 : x ≠ 5 := fun e => hn (Or.inr (Or.inl ((eq 5 (by omega)).mpr e)))
      have n6 : x ≠ 6 := fun e => hn (Or.inr (Or.inr ((eq 6 (by omega)).mpr e)))
      simp (disch := omega) only [zI_lit, zI_add, zI_sub, zI_mul, zI_neg, zI_le, zI_lt, zI_eq, zI_nat, zI_max, zI_min, zI_abs, forall_eq, Int.reduceNeg, Int.reduceAdd, Int.reduceMul, Int.reduceSub, Int.add_zero, Int.zero_add, Int.zero_mul, Int.toNat_zero]
      refine ⟨zI_in (by omega), ?_⟩
      rcases (show x = 0 ∨ x = 1 ∨ x = 2 ∨ x = 3 by omega) with rfl | rfl | rfl | rfl
      · have hq : post (zI z.m) 0 := hp'
        rw [← b10] at hq; exact hq
      · have hq : post (zI z.d) 0 := hp'
        rw [← b11] at hq; exact hq
      · have hq : post (zI z.n) 0 := hp'
        rw [← b12] at hq; exact hq
      · have hq : post z.gr 0 := hp'
        rw [← a5] at hq; exact hq
  · unfold wpX11_on_21
    exact sr_throwsIf (fun h => absurd h (by decide)) (fun _ => ⟨fun h => absurd h (by decide), fun _ => hX h _⟩) (Or.inr rfl)
theorem sr_on0 {post : Int32 → Int32 → Prop} {x : Int} {rm : Int32} (hx : -2147483648 ≤ x ∧ x < 2147483648) (h6 : v 6 = 0)
    (hX : ¬ (0 ≤ x ∧ x ≤ 6) → ∀ r, post r 1) (hp : 0 ≤ x ∧ x ≤ 6 → post (-1) 0) : wpX11_on post rm v th (zI x) := by
  unfold wpX11_on
  rw [show (6 : Int32) = zI 6 from rfl, show (0 : Int32) = zI 0 from rfl]
  refine sr_in hx (by omega) (by omega) (fun h => ⟨fun _ => ?_, fun h => absurd h (by decide)⟩) (fun h => ⟨fun h => absurd rfl h, fun _ => ?_⟩)
  · unfold wpX11_on_21
    refine sr_throwsIf (fun _ => ⟨fun _ => ?_, fun h => absurd rfl h⟩) (fun h => absurd h (by decide)) (Or.inl rfl)
    rw [show (6 : Int32).toNatClampNeg = 6 from rfl, h6]
    exact ⟨by unfold vp_in; decide, fun h => absurd rfl h, fun _ => hp h⟩
  · unfold wpX11_on_21
    exact sr_throwsIf (fun h => absurd h (by decide)) (fun _ => ⟨fun h => absurd h (by decide), fun _ => hX h _⟩) (Or.inr rfl)
end
