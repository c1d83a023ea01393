section
variable {g : Gd} {S : Int → Int → Int → Int → Bool} {xs ys cs ws os v : Nat → Int32} {nw nl sz : Int32} {w o l m d s n r : Int}
def Rem (g : Gd) (w o m d n r : Int) (st ga tk : Nat → Int32) : Prop := (0 ≤ r ∧ r ≤ 40 ∧ r ≤ n) ∧ (∀ j, 0 ≤ j → j < r → tk (2 * j).toNat = st (n - r + j).toNat ∧ tk (2 * j + 1).toNat = ga (n - r + j).toNat) ∧ ∃ P Q : Int → Int, P n = m ∧ Q n = d ∧ (∀ t, n - r ≤ t → t ≤ n → g.hc w (P t) ∧ g.hc o (Q t) ∧ t ≤ P t + Q t) ∧ ∀ t, n - r ≤ t → t < n → ∃ e, (e = 1 ∨ e = 2 ∨ e = 3) ∧ st t.toNat = zI e ∧ P (t + 1) = P t + mv e ∧ Q (t + 1) = Q t + dv e
theorem Rem.none {st ga tk : Nat → Int32} (h1 : g.hc w m) (h2 : g.hc o d) (hn : 0 ≤ n ∧ n ≤ m + d) : Rem g w o m d n 0 st ga tk :=
  ⟨by omega, fun j a b => by omega, fun _ => m, fun _ => d, rfl, rfl, fun t a b => ⟨h1, h2, by show t ≤ m + d; omega⟩, fun t a b => by omega⟩
theorem Rem.step {st ga tk tk' : Nat → Int32} {grt : Int32} (h : Rem g w o m d n r st ga tk) (hn : 0 ≤ n) (hs : s = 1 ∨ s = 2 ∨ s = 3) (h1 : g.hc w (m + mv s)) (h2 : g.hc o (d + dv s)) (hnm : n ≤ m + d)
    (ht : ∀ j, 0 ≤ j → j < min (r + 1) 40 → (tk' (2 * j).toNat = if j = min (r + 1) 40 - 1 then zI s else tk (2 * (j + (r + 1 - min (r + 1) 40))).toNat) ∧ (tk' (2 * j + 1).toNat = if j = min (r + 1) 40 - 1 then grt else tk (2 * (j + (r + 1 - min (r + 1) 40)) + 1).toNat)) :
    Rem g w o (m + mv s) (d + dv s) (n + 1) (min (r + 1) 40) (upd st n.toNat (zI s)) (upd ga n.toNat grt) tk' := by
  obtain ⟨a1, a2, P, Q, a3, a4, a5, a6⟩ := h
  have md := mv_dv s
  refine ⟨by omega, fun j c1 c2 => ?_, fun t => if t = n + 1 then m + mv s else P t, fun t => if t = n + 1 then d + dv s else Q t, by dsimp only; rw [if_pos rfl], by dsimp only; rw [if_pos rfl], fun t c1 c2 => ?_, fun t c1 c2 => ?_⟩
  · have := ht j c1 c2
    rw [this.1, this.2, upd_eq, upd_eq]
    by_cases e : j = min (r + 1) 40 - 1
    · rw [if_pos e, if_pos e, if_pos (by omega), if_pos (by omega)]; exact ⟨rfl, rfl⟩
    · rw [if_neg e, if_neg e, if_neg (by omega), if_neg (by omega)]
      have b := a2 (j + (r + 1 - min (r + 1) 40)) (by omega) (by omega)
      rw [b.1, b.2, show n - r + (j + (r + 1 - min (r + 1) 40)) = n + 1 - min (r + 1) 40 + j by omega]
      exact ⟨rfl, rfl⟩
  · by_cases e : t = n + 1
    · simp only [if_pos e]; exact ⟨h1, h2, by omega⟩
    · simp only [if_neg e]; exact a5 t (by omega) (by omega)
  · by_cases e : t = n
    · refine ⟨s, hs, by rw [upd_eq, if_pos (by rw [e])], ?_, ?_⟩
      · dsimp only; rw [if_pos (by omega), if_neg (by omega), e, a3]
      · dsimp only; rw [if_pos (by omega), if_neg (by omega), e, a4]
    · obtain ⟨e', b1, b2, b3, b4⟩ := a6 t (by omega) (by omega)
      refine ⟨e', b1, by rw [upd_eq, if_neg (by omega)]; exact b2, ?_, ?_⟩
      · dsimp only; rw [if_neg (by omega), if_neg (by omega)]; exact b3
      · dsimp only; rw [if_neg (by omega), if_neg (by omega)]; exact b4
theorem Rem.back {st ga tk : Nat → Int32} (h : Rem g w o m d n r st ga tk) (hr : 0 < r) : ∃ e, (e = 1 ∨ e = 2 ∨ e = 3) ∧ st (n - 1).toNat = zI e ∧ tk (2 * (r - 1)).toNat = zI e ∧ tk (2 * (r - 1) + 1).toNat = ga (n - 1).toNat ∧ (g.hc w (m - mv e) ∧ g.hc o (d - dv e) ∧ n - 1 ≤ m - mv e + (d - dv e)) ∧ Rem g w o (m - mv e) (d - dv e) (n - 1) (r - 1) st ga tk := by
  obtain ⟨a1, a2, P, Q, a3, a4, a5, a6⟩ := h
  obtain ⟨e, b1, b2, b3, b4⟩ := a6 (n - 1) (by omega) (by omega)
  have c := a2 (r - 1) (by omega) (by omega)
  rw [show n - r + (r - 1) = n - 1 by omega] at c
  rw [Int.sub_add_cancel] at b3 b4
  have p := a5 (n - 1) (by omega) (by omega)
  have e1 : P (n - 1) = m - mv e := by omega
  have e2 : Q (n - 1) = d - dv e := by omega
  rw [e1, e2] at p
  refine ⟨e, b1, b2, by rw [c.1]; exact b2, c.2, p, by omega, fun j c1 c2 => ?_, P, Q, e1, e2, fun t c1 c2 => a5 t (by omega) (by omega), fun t c1 c2 => a6 t (by omega) (by omega)⟩
  rw [show n - 1 - (r - 1) + j = n - r + j by omega]
  exact a2 j c1 (by omega)
theorem sr_goes50 {post : Int32 → (Int32 × (Nat → Int32) × (Nat → Int32)) → Prop} {tk : Nat → Int32} (hg : g.Ok) (hv : WG g v) (h7 : v 7 = zI w) (h8 : v 8 = zI o) (h10 : v 10 = zI m) (h11 : v 11 = zI d) (h12 : v 12 = zI n) (h1 : g.hc w (m + mv s)) (h2 : g.hc o (d + dv s)) (hs : s = 1 ∨ s = 2 ∨ s = 3) (hr : 1 ≤ r ∧ r ≤ 40)
    (hp : ∀ v', Fx v v' → v' 4 = v 4 → v' 5 = v 5 → v' 6 = v 6 → v' 7 = v 7 → v' 8 = v 8 → v' 9 = v 9 → v' 10 = zI (m + mv s) → v' 11 = zI (d + dv s) → v' 12 = zI (n + 1) → v' 13 = iMax (v 13) (zI (g.far w (m + mv s) o (d + dv s))) → (∀ k, 778 ≤ k → v' k = v k) → post (zI (g.far w (m + mv s) o (d + dv s))) (zI r, upd (upd tk (2 * r - 2).toNat (zI s)) (2 * r - 1).toNat (v 13), v')) :
    wpX11_goes_50 post (zI r) tk v (zI s) := by
  unfold wpX11_goes_50
  simp only [show (7 : Int32).toNatClampNeg = 7 from rfl, show (8 : Int32).toNatClampNeg = 8 from rfl, show (10 : Int32).toNatClampNeg = 10 from rfl, show (11 : Int32).toNatClampNeg = 11 from rfl, show (12 : Int32).toNatClampNeg = 12 from rfl, show (13 : Int32).toNatClampNeg = 13 from rfl, upd_eq, Nat.reduceEqDiff, if_true, if_false, h10, h11, h12, h7, h8]
  simp (disch := omega) only [zI_lit, zI_add, zI_sub, zI_mul, zI_neg, zI_le, zI_lt, zI_eq, zI_nat, zI_max, zI_min, zI_abs, forall_eq, Int.reduceNeg, Int.reduceAdd, Int.reduceMul, Int.reduceSub, Int.add_zero, Int.zero_add, Int.zero_mul, Int.toNat_zero]
  refine ⟨zI_in (by omega), zI_in (by omega), zI_in (by omega), zI_in (by omega), ?_⟩
  refine sr_manBy hs ?_
  simp (disch := omega) only [zI_lit, zI_add, zI_sub, zI_mul, zI_neg, zI_le, zI_lt, zI_eq, zI_nat, zI_max, zI_min, zI_abs, forall_eq, Int.reduceNeg, Int.reduceAdd, Int.reduceMul, Int.reduceSub, Int.add_zero, Int.zero_add, Int.zero_mul, Int.toNat_zero]
  refine ⟨zI_in (by omega), zI_in (by omega), ?_⟩
  refine sr_dogBy hs ?_
  simp (disch := omega) only [zI_lit, zI_add, zI_sub, zI_mul, zI_neg, zI_le, zI_lt, zI_eq, zI_nat, zI_max, zI_min, zI_abs, forall_eq, Int.reduceNeg, Int.reduceAdd, Int.reduceMul, Int.reduceSub, Int.add_zero, Int.zero_add, Int.zero_mul, Int.toNat_zero]
  refine ⟨zI_in (by omega), zI_in (by omega), zI_in (by omega), zI_in (by omega), zI_in (by omega), zI_in (by omega), zI_in (by omega), ?_⟩
  have f1 : Fx v (upd (upd (upd v 10 (zI (m + mv s))) 11 (zI (d + dv s))) 12 (zI (n + 1))) := ((Fx.upd (by omega)).trans (Fx.upd (by omega))).trans (Fx.upd (by omega))
  refine sr_farAt hg (hv.fx hg f1) h1 h2 ?_
  refine ⟨zI_in (by omega), zI_in (by omega), ?_⟩
  refine hp _ (f1.trans (Fx.upd (by omega))) ?_ ?_ ?_ ?_ ?_ ?_ ?_ ?_ ?_ ?_ (fun k hk => ?_)
  all_goals simp only [upd_eq]
  all_goals first | rfl | (rw [if_neg (by omega), if_neg (by omega), if_neg (by omega), if_neg (by omega)])
theorem sr_goes {post : Int32 → (Int32 × (Nat → Int32) × (Nat → Int32)) → Prop} {tk : Nat → Int32} (hg : g.Ok) (hv : WG g v) (h7 : v 7 = zI w) (h8 : v 8 = zI o) (h10 : v 10 = zI m) (h11 : v 11 = zI d) (h12 : v 12 = zI n) (h1 : g.hc w (m + mv s)) (h2 : g.hc o (d + dv s)) (hs : s = 1 ∨ s = 2 ∨ s = 3) (hr : 0 ≤ r ∧ r ≤ 40)
    (hp : ∀ tk' v', Fx v v' → v' 4 = v 4 → v' 5 = v 5 → v' 6 = v 6 → v' 7 = v 7 → v' 8 = v 8 → v' 9 = v 9 → v' 10 = zI (m + mv s) → v' 11 = zI (d + dv s) → v' 12 = zI (n + 1) → v' 13 = iMax (v 13) (zI (g.far w (m + mv s) o (d + dv s))) → (∀ k, 778 ≤ k → v' k = v k) →
      (∀ j, 0 ≤ j → j < min (r + 1) 40 → (tk' (2 * j).toNat = if j = min (r + 1) 40 - 1 then zI s else tk (2 * (j + (r + 1 - min (r + 1) 40))).toNat) ∧ (tk' (2 * j + 1).toNat = if j = min (r + 1) 40 - 1 then v 13 else tk (2 * (j + (r + 1 - min (r + 1) 40)) + 1).toNat)) → post (zI (g.far w (m + mv s) o (d + dv s))) (zI (min (r + 1) 40), tk', v')) :
    wpX11_goes post (zI r) tk v (zI s) := by
  unfold wpX11_goes
  simp (disch := omega) only [zI_lit, zI_add, zI_sub, zI_mul, zI_neg, zI_le, zI_lt, zI_eq, zI_nat, zI_max, zI_min, zI_abs, forall_eq, Int.reduceNeg, Int.reduceAdd, Int.reduceMul, Int.reduceSub, Int.add_zero, Int.zero_add, Int.zero_mul, Int.toNat_zero]
  refine ⟨fun h => ?_, fun h => ?_⟩
  · refine sr_goes50 (r := r + 1) hg hv h7 h8 h10 h11 h12 h1 h2 hs (by omega) (fun v' a1 a2 a3 a4 a5 a6 a7 a8 a9 a10 a11 a12 => ?_)
    rw [show zI (r + 1) = zI (min (r + 1) 40) by rw [show min (r + 1) 40 = r + 1 by omega]]
    refine hp _ v' a1 a2 a3 a4 a5 a6 a7 a8 a9 a10 a11 a12 (fun j c1 c2 => ⟨?_, ?_⟩)
    · rw [upd_eq, upd_eq, if_neg (by omega)]
      by_cases e : j = min (r + 1) 40 - 1
      · rw [if_pos (by omega), if_pos e]
      · rw [if_neg (by omega), if_neg e, show j + (r + 1 - min (r + 1) 40) = j by omega]
    · rw [upd_eq, upd_eq]
      by_cases e : j = min (r + 1) 40 - 1
      · rw [if_pos (by omega), if_pos e]
      · rw [if_neg (by omega), if_neg (by omega), if_neg e, show j + (r + 1 - min (r + 1) 40) = j by omega]
  · have h40 : r = 40 := h
    have key : ∀ (k : Nat) (i : Int) (f : Nat → Int32), 0 ≤ i → i + k = 78 → (∀ j : Nat, (j : Int) < i → f j = tk (j + 2)) → (∀ j : Nat, i ≤ (j : Int) → f j = tk j) → wpX11_goes_11 post (k + 1) (zI r) f v (zI s) (zI i) := by
      intro k
      induction k with
      | zero =>
        intro i f h0 hk a b
        unfold wpX11_goes_11
        simp (disch := omega) only [zI_lit, zI_add, zI_sub, zI_mul, zI_neg, zI_le, zI_lt, zI_eq, zI_nat, zI_max, zI_min, zI_abs, forall_eq, Int.reduceNeg, Int.reduceAdd, Int.reduceMul, Int.reduceSub, Int.add_zero, Int.zero_add, Int.zero_mul, Int.toNat_zero]
        refine ⟨fun _ => ?_, fun h => absurd h (by omega)⟩
        refine sr_goes50 hg hv h7 h8 h10 h11 h12 h1 h2 hs (by omega) (fun v' a1 a2 a3 a4 a5 a6 a7 a8 a9 a10 a11 a12 => ?_)
        rw [show zI r = zI (min (r + 1) 40) by rw [show min (r + 1) 40 = r by omega]]
        refine hp _ v' a1 a2 a3 a4 a5 a6 a7 a8 a9 a10 a11 a12 (fun j c1 c2 => ⟨?_, ?_⟩)
        · rw [upd_eq, upd_eq, if_neg (by omega)]
          by_cases e : j = min (r + 1) 40 - 1
          · rw [if_pos (by omega), if_pos e]
          · rw [if_neg (by omega), if_neg e, a _ (by omega)]
            congr 1; omega
        · rw [upd_eq, upd_eq]
          by_cases e : j = min (r + 1) 40 - 1
          · rw [if_pos (by omega), if_pos e]
          · rw [if_neg (by omega), if_neg (by omega), if_neg e, a _ (by omega)]
            congr 1; omega
      | succ k ih =>
        intro i f h0 hk a b
        unfold wpX11_goes_11
        simp (disch := omega) only [zI_lit, zI_add, zI_sub, zI_mul, zI_neg, zI_le, zI_lt, zI_eq, zI_nat, zI_max, zI_min, zI_abs, forall_eq, Int.reduceNeg, Int.reduceAdd, Int.reduceMul, Int.reduceSub, Int.add_zero, Int.zero_add, Int.zero_mul, Int.toNat_zero]
        refine ⟨fun h => absurd h (by omega), fun _ => ⟨zI_in (by omega), zI_in (by omega), ?_⟩⟩
        refine ih (i + 1) _ (by omega) (by omega) (fun j hj => ?_) (fun j hj => ?_)
        · rw [upd_eq]
          by_cases e : j = i.toNat
          · rw [if_pos e, b _ (by omega), e]
            congr 1; omega
          · rw [if_neg e]; exact a j (by omega)
        · rw [upd_eq, if_neg (by omega)]; exact b j (by omega)
    exact ⟨79, key 78 0 tk (by omega) (by omega) (fun j hj => by omega) (fun j hj => rfl)⟩
theorem sp_begin {post : Int32 → ((Nat → Int32) × Int32 × Int32 × Int32 × Int32 × Int32 × Int32 × Int32 × Int32 × Int32) → Prop} {postX : String → ((Nat → Int32) × Int32 × Int32 × Int32 × Int32 × Int32 × Int32 × Int32 × Int32 × Int32) → Prop} {sn : Nat → Int32} {b1 b2 b3 b4 b5 b6 b7 b8 b9 : Int32} (hg : g.Ok) (hc : CG g xs ys cs ws nw nl) (hS : SH1 g S nl xs ys ws sz os) (hw : -2147483648 ≤ w ∧ w < 2147483648) (ho : -2147483648 ≤ o ∧ o < 2147483648) (hl : -2147483648 ≤ l ∧ l < 2147483648)
    (hx : ¬ (g.hw w ∧ g.hw o) → ∀ sn, postX "java/lang/IndexOutOfBoundsException" (sn, b1, b2, b3, b4, b5, b6, b7, b8, b9)) (hx2 : g.hw w → g.hw o → l < 0 → ∀ sn, postX "java/lang/IllegalArgumentException" (sn, b1, b2, b3, b4, b5, b6, b7, b8, b9))
    (hy : g.hw w → g.hw o → 0 ≤ l → (g.far w 0 o 0 ≤ l ∧ S w 0 o 0 = false) → ∀ sn, post 1 (sn, 1, zI w, zI o, zI l, 0, 0, 0, zI (g.far w 0 o 0), 0)) (hn : g.hw w → g.hw o → 0 ≤ l → ¬ (g.far w 0 o 0 ≤ l ∧ S w 0 o 0 = false) → ∀ sn, post 0 (sn, b1, b2, b3, b4, b5, b6, b7, b8, b9)) : wpX10_begin post postX nw nl cs xs ys ws sz os sn b1 b2 b3 b4 b5 b6 b7 b8 b9 (zI w) (zI o) (zI l) := by
  unfold wpX10_begin
  refine sp_needWay hg hc hw (fun h1 => ?_) (fun h => hx (fun h' => h h'.1) _)
  refine sp_needWay hg hc ho (fun h2 => ?_) (fun h => hx (fun h' => h h'.2) _)
  have e1 := hg.cn w h1.1 h1.2
  have e2 := hg.cn o h2.1 h2.2
  rw [show (0 : Int32) = zI 0 from rfl, zI_le (by omega)]
  refine ⟨fun h => ?_, fun h => hx2 h1 h2 (by omega) _⟩
  refine sp_allows hg hc hS hw (by omega) ho (by omega) hl (fun a1 a2 a3 a4 sn => ⟨fun _ => ?_, fun h => absurd h (by decide)⟩) (fun hnn sn => ⟨fun h => absurd rfl h, fun _ => hn h1 h2 h (fun k => hnn ⟨⟨h1, by omega, by omega⟩, ⟨h2, by omega, by omega⟩, k⟩) _⟩)
  refine sp_distance hg hc a1 a2 ?_
  exact hy h1 h2 h ⟨a3, a4⟩ sn
theorem sr_begin {post : Int32 → (Int32 × Int32 × (Nat → Int32) × (Nat → Int32)) → Prop} {th rm : Int32} {f2 : Nat → Int32} (hg : g.Ok) (hv : WG g v) (hS : SHR g S v) (hw : -2147483648 ≤ w ∧ w < 2147483648) (ho : -2147483648 ≤ o ∧ o < 2147483648) (hl : -2147483648 ≤ l ∧ l < 2147483648)
    (hx : ¬ (g.hw w ∧ g.hw o) → ∀ r sn, post r (1, rm, v, sn)) (hx2 : g.hw w → g.hw o → l < 0 → ∀ r sn, post r (2, rm, v, sn))
    (hy : g.hw w → g.hw o → 0 ≤ l → (g.far w 0 o 0 ≤ l ∧ S w 0 o 0 = false) → ∀ v' sn, Fx v v' → v' 4 = v 4 → v' 5 = v 5 → v' 6 = 1 → v' 7 = zI w → v' 8 = zI o → v' 9 = zI l → v' 10 = 0 → v' 11 = 0 → v' 12 = 0 → v' 13 = zI (g.far w 0 o 0) → (∀ k, 778 ≤ k → v' k = v k) → post 1 (0, 0, v', sn))
    (hn : g.hw w → g.hw o → 0 ≤ l → ¬ (g.far w 0 o 0 ≤ l ∧ S w 0 o 0 = false) → ∀ sn, post 0 (0, rm, v, sn)) : wpX11_begin post th rm v f2 (zI w) (zI o) (zI l) := by
  have c22 : ¬ (g.hw w ∧ g.hw o) → wpX11_begin_22 post 0 rm v f2 (zI w) (zI o) (zI l) := by
    intro h
    unfold wpX11_begin_22 wpX11_begin_27
    refine sr_throwsIf (fun h => absurd h (by decide)) (fun _ => ?_) (Or.inr rfl)
    exact ⟨fun _ => hx h _ _, fun h => absurd h (by decide)⟩
  unfold wpX11_begin
  refine sr_noWay hg hv hw (fun h1 => ⟨fun h => absurd rfl h, fun _ => ?_⟩) (fun h1 => ⟨fun _ => c22 (fun h => h1 h.1), fun h => absurd h (by decide)⟩)
  refine sr_noWay hg hv ho (fun h2 => ⟨fun _ => ?_, fun h => absurd rfl h⟩) (fun h2 => ⟨fun h => absurd h (by decide), fun _ => c22 (fun h => h2 h.2)⟩)
  have e1 := hg.cn w h1.1 h1.2
  have e2 := hg.cn o h2.1 h2.2
  unfold wpX11_begin_27
  refine sr_throwsIf (fun _ => ⟨fun h => absurd rfl h, fun _ => ?_⟩) (fun h => absurd h (by decide)) (Or.inl rfl)
  have c1 : g.hc w 0 := ⟨h1, by omega, by omega⟩
  have c2 : g.hc o 0 := ⟨h2, by omega, by omega⟩
  have fb := Gd.far_le hg c1 c2
  rw [show ((0 : Int32) ≤ zI l) = (0 ≤ l) from zI_le (a := 0) (by omega)]
  refine ⟨fun h => ?_, fun h => ?_⟩
  · unfold wpX11_begin_44
    refine sr_throwsIf (fun _ => ⟨fun _ => ?_, fun h => absurd rfl h⟩) (fun h => absurd h (by decide)) (Or.inl rfl)
    refine hS v (Fx.rf v) _ _ w 0 o 0 c1 c2 (fun hs sn => ⟨fun _ => hn h1 h2 h (fun k => by rw [hs] at k; exact absurd k.2 (by decide)) _, fun h => absurd h (by decide)⟩) (fun hs sn => ⟨fun h => absurd rfl h, fun _ => ?_⟩)
    refine sr_farAt (w := w) (m := 0) (o := o) (d := 0) hg hv c1 c2 ?_
    rw [zI_le (by omega)]
    refine ⟨fun hf => ⟨by unfold vp_in; decide, by unfold vp_in; decide, by unfold vp_in; decide, by unfold vp_in; decide, by unfold vp_in; decide, by unfold vp_in; decide, by unfold vp_in; decide, ?_⟩, fun hf => hn h1 h2 h (fun k => by omega) _⟩
    have f1 : Fx v (upd (upd (upd (upd (upd (upd (upd v (6 : Int32).toNatClampNeg 1) (7 : Int32).toNatClampNeg (zI w)) (8 : Int32).toNatClampNeg (zI o)) (9 : Int32).toNatClampNeg (zI l)) (10 : Int32).toNatClampNeg 0) (11 : Int32).toNatClampNeg 0) (12 : Int32).toNatClampNeg 0) :=
      ((((((Fx.upd (by decide)).trans (Fx.upd (by decide))).trans (Fx.upd (by decide))).trans (Fx.upd (by decide))).trans (Fx.upd (by decide))).trans (Fx.upd (by decide))).trans (Fx.upd (by decide))
    refine sr_farAt (w := w) (m := 0) (o := o) (d := 0) hg (hv.fx hg f1) c1 c2 ?_
    refine ⟨by unfold vp_in; decide, ?_⟩
    refine hy h1 h2 h ⟨hf, hs⟩ _ _ (f1.trans (Fx.upd (by decide))) rfl rfl rfl rfl rfl rfl rfl rfl rfl rfl (fun k hk => ?_)
    simp only [upd_eq, show (6 : Int32).toNatClampNeg = 6 from rfl, show (7 : Int32).toNatClampNeg = 7 from rfl, show (8 : Int32).toNatClampNeg = 8 from rfl, show (9 : Int32).toNatClampNeg = 9 from rfl, show (10 : Int32).toNatClampNeg = 10 from rfl, show (11 : Int32).toNatClampNeg = 11 from rfl, show (12 : Int32).toNatClampNeg = 12 from rfl, show (13 : Int32).toNatClampNeg = 13 from rfl]
    rw [if_neg (by omega), if_neg (by omega), if_neg (by omega), if_neg (by omega), if_neg (by omega), if_neg (by omega), if_neg (by omega), if_neg (by omega)]
  · unfold wpX11_begin_44
    exact sr_throwsIf (fun h => absurd h (by decide)) (fun _ => ⟨fun h => absurd h (by decide), fun _ => hx2 h1 h2 (by omega) _ _⟩) (Or.inr rfl)
end
