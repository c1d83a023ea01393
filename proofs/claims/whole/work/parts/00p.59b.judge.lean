section
variable {g : Gd} {S : Int → Int → Int → Int → Bool} {xs ys cs ws os v tb tb' f2 : Nat → Int32} {nw nl sz th : Int32} {w o l n : Int} {tp : Int → Int}
def Tb (tp : Int → Int) (n : Int) (f : Nat → Int32) : Prop := ∀ k, 0 ≤ k → k < n → f k.toNat = zI (tp k)
def tpOk (tp : Int → Int) : Prop := ∀ k, -128 ≤ tp k ∧ tp k ≤ 127
def jOk (tp : Int → Int) (n : Int) : Prop := ∀ k, 0 ≤ k → k < n → 49 ≤ tp k ∧ tp k ≤ 51
noncomputable def jr (g : Gd) (S : Int → Int → Int → Int → Bool) (w o l : Int) (tp : Int → Int) : Nat → Int → Int → Int → Int
  | 0, _, _, _ => -1
  | j + 1, k, m, d => if gokB g S w o l m d (tp k - 48) = true then jr g S w o l tp j (k + 1) (m + mv (tp k - 48)) (d + dv (tp k - 48)) else k
theorem sp_stepAt {post : Int32 → Unit → Prop} {k : Int} (hn : n ≤ 400) (ht : Tb tp n tb) (hk : 0 ≤ k ∧ k < n) (hp : post (zI (tp k - 48)) ()) : wpX8_stepAt post tb (zI k) := by
  unfold wpX8_stepAt
  simp (disch := omega) only [zI_lit, zI_add, zI_sub, zI_mul, zI_neg, zI_le, zI_lt, zI_eq, zI_nat, zI_max, zI_min, zI_abs, forall_eq, Int.reduceNeg, Int.reduceAdd, Int.reduceMul, Int.reduceSub, Int.add_zero, Int.zero_add, Int.zero_mul, Int.toNat_zero]
  rw [ht k hk.1 hk.2]
  simp (disch := omega) only [zI_lit, zI_add, zI_sub, zI_mul, zI_neg, zI_le, zI_lt, zI_eq, zI_nat, zI_max, zI_min, zI_abs, forall_eq, Int.reduceNeg, Int.reduceAdd, Int.reduceMul, Int.reduceSub, Int.add_zero, Int.zero_add, Int.zero_mul, Int.toNat_zero]
  exact ⟨zI_in (by omega), hp⟩
theorem sp_holds {post : Int32 → Unit → Prop} (hn : 0 ≤ n ∧ n ≤ 400) (htp : tpOk tp) (ht : Tb tp n tb) (h1 : jOk tp n → post 1 ()) (h0 : ¬ jOk tp n → post 0 ()) : wpX8_holdsStepsUpTo post tb (zI n) := by
  have key : ∀ (j : Nat) (k : Int), 0 ≤ k → k + j = n → (∀ i, 0 ≤ i → i < k → 49 ≤ tp i ∧ tp i ≤ 51) → wpX8_holdsStepsUpTo_2 post tb (j + 1) (zI n) (zI k) := by
    intro j
    induction j with
    | zero =>
      intro k hk0 hk ha
      unfold wpX8_holdsStepsUpTo_2
      simp (disch := omega) only [zI_lit, zI_add, zI_sub, zI_mul, zI_neg, zI_le, zI_lt, zI_eq, zI_nat, zI_max, zI_min, zI_abs, forall_eq, Int.reduceNeg, Int.reduceAdd, Int.reduceMul, Int.reduceSub, Int.add_zero, Int.zero_add, Int.zero_mul, Int.toNat_zero]
      exact ⟨fun _ => h1 (fun i a b => ha i a (by omega)), fun h => absurd h (by omega)⟩
    | succ j ih =>
      intro k hk0 hk ha
      have tb' := htp k
      unfold wpX8_holdsStepsUpTo_2
      simp (disch := omega) only [zI_lit, zI_add, zI_sub, zI_mul, zI_neg, zI_le, zI_lt, zI_eq, zI_nat, zI_max, zI_min, zI_abs, forall_eq, Int.reduceNeg, Int.reduceAdd, Int.reduceMul, Int.reduceSub, Int.add_zero, Int.zero_add, Int.zero_mul, Int.toNat_zero]
      refine ⟨fun h => absurd h (by omega), fun _ => ⟨fun h => absurd h (by omega), fun _ => ?_⟩⟩
      refine sp_stepAt hn.2 ht ⟨hk0, by omega⟩ ?_
      rw [zI_lt (by omega)]
      refine ⟨fun h => h0 (fun hj => by have := hj k hk0 (by omega); omega), fun h => ?_⟩
      refine sp_stepAt hn.2 ht ⟨hk0, by omega⟩ ?_
      rw [zI_le (by omega)]
      refine ⟨fun h' => ?_, fun h' => h0 (fun hj => by have := hj k hk0 (by omega); omega)⟩
      refine ih (k + 1) (by omega) (by omega) (fun i a b => ?_)
      by_cases e : i = k
      · rw [e]; omega
      · exact ha i a (by omega)
  exact ⟨n.toNat + 1, key n.toNat 0 (by omega) (by omega) (fun i a b => by omega)⟩
theorem sp_judge80 {post : Int32 → (Int32 × (Nat → Int32)) → Prop} {postX : String → (Int32 × (Nat → Int32)) → Prop} {g1 : Int32} (hg : g.Ok) (hc : CG g xs ys cs ws nw nl) (hS : SH1 g S nl xs ys ws sz os) (hl : -2147483648 ≤ l ∧ l < 2147483648) (hn : n ≤ 400) (ht : Tb tp n tb) (hj : jOk tp n) :
    ∀ (j : Nat) (k m d : Int) (sn : Nat → Int32), 0 ≤ k → k + j = n → g.hc w m → g.hc o d → (∀ sn, post (zI (jr g S w o l tp j k m d)) (g1, sn)) → wpX10_judge_80 post postX tb nw nl cs xs ys ws sz os (j + 1) g1 sn (zI w) (zI o) (zI l) (zI n) (zI m) (zI d) (zI k) := by
  have e0 := hg.nw
  intro j
  induction j with
  | zero =>
    intro k m d sn h0 h1 hm hd hp
    unfold wpX10_judge_80
    rw [zI_le (by omega)]
    exact ⟨fun _ => hp sn, fun h => absurd h (by omega)⟩
  | succ j ih =>
    intro k m d sn h0 h1 hm hd hp
    have jk := hj k h0 (by omega)
    have hs : tp k - 48 = 1 ∨ tp k - 48 = 2 ∨ tp k - 48 = 3 := by omega
    have mb := mvdv hs
    have e1 := hg.cn w hm.1.1 hm.1.2
    have e2 := hg.cn o hd.1.1 hd.1.2
    have hm' := hm
    have hd' := hd
    unfold Gd.hc at hm' hd'
    unfold jr at hp
    unfold wpX10_judge_80
    rw [zI_le (by omega)]
    refine ⟨fun h => absurd h (by omega), fun _ => ?_⟩
    refine sp_stepAt hn ht ⟨h0, by omega⟩ ?_
    refine sp_manMoves hs ?_
    simp (disch := omega) only [zI_lit, zI_add, zI_sub, zI_mul, zI_neg, zI_le, zI_lt, zI_eq, zI_nat, zI_max, zI_min, zI_abs, forall_eq, Int.reduceNeg, Int.reduceAdd, Int.reduceMul, Int.reduceSub, Int.add_zero, Int.zero_add, Int.zero_mul, Int.toNat_zero]
    refine sp_dogMoves hs ?_
    simp (disch := omega) only [zI_lit, zI_add, zI_sub, zI_mul, zI_neg, zI_le, zI_lt, zI_eq, zI_nat, zI_max, zI_min, zI_abs, forall_eq, Int.reduceNeg, Int.reduceAdd, Int.reduceMul, Int.reduceSub, Int.add_zero, Int.zero_add, Int.zero_mul, Int.toNat_zero]
    refine sp_allows hg hc hS (by omega) (by omega) (by omega) (by omega) hl (fun a1 a2 a3 a4 sn => ⟨fun _ => ?_, fun h => absurd h (by decide)⟩) (fun hno sn => ⟨fun h => absurd rfl h, fun _ => ?_⟩)
    · have gk : gokB g S w o l m d (tp k - 48) = true := gokB_t.2 ⟨⟨a1.2.2, a2.2.2⟩, a3, a4⟩
      rw [if_pos gk] at hp
      exact ih (k + 1) _ _ sn (by omega) (by omega) a1 a2 hp
    · have gk : ¬ gokB g S w o l m d (tp k - 48) = true := fun h => by
        have q := gokB_t.1 h
        exact hno ⟨⟨hm.1, by omega, q.1.1⟩, ⟨hd.1, by omega, q.1.2⟩, q.2⟩
      rw [if_neg gk] at hp
      exact hp sn
noncomputable def judged (g : Gd) (S : Int → Int → Int → Int → Bool) (w o l : Int) (tp : Int → Int) (n : Int) : Int := if g.far w 0 o 0 ≤ l ∧ S w 0 o 0 = false then jr g S w o l tp n.toNat 0 0 0 else -2
theorem sp_judge {post : Int32 → (Int32 × (Nat → Int32)) → Prop} {postX : String → (Int32 × (Nat → Int32)) → Prop} {sn : Nat → Int32} (hg : g.Ok) (hc : CG g xs ys cs ws nw nl) (hS : SH1 g S nl xs ys ws sz os) (hw : -2147483648 ≤ w ∧ w < 2147483648) (ho : -2147483648 ≤ o ∧ o < 2147483648) (hl : -2147483648 ≤ l ∧ l < 2147483648) (hn : 0 ≤ n ∧ n ≤ 400) (htp : tpOk tp) (ht : Tb tp n tb)
    (hx : ¬ (g.hw w ∧ g.hw o) → ∀ sn, postX "java/lang/IndexOutOfBoundsException" (0, sn)) (hx2 : g.hw w → g.hw o → ¬ (0 ≤ l ∧ jOk tp n) → ∀ sn, postX "java/lang/IllegalArgumentException" (0, sn))
    (hp : g.hw w → g.hw o → 0 ≤ l ∧ jOk tp n → ∀ sn, post (zI (judged g S w o l tp n)) (0, sn)) : wpX10_judge post postX tb nw nl cs xs ys ws sz os (zI n) sn (zI w) (zI o) (zI l) := by
  unfold wpX10_judge wpX10_judge_43
  refine sp_needWay hg hc hw (fun h1 => ?_) (fun h => hx (fun h' => h h'.1) _)
  refine sp_needWay hg hc ho (fun h2 => ?_) (fun h => hx (fun h' => h h'.2) _)
  have e1 := hg.cn w h1.1 h1.2
  have e2 := hg.cn o h2.1 h2.2
  rw [show ((zI l : Int32) < 0) = (l < 0) from zI_lt (b := 0) (by omega)]
  refine ⟨fun h => hx2 h1 h2 (fun k => by omega) _, fun h => ?_⟩
  refine sp_holds hn htp ht (fun hj => ⟨fun _ => ?_, fun h => absurd h (by decide)⟩) (fun hj => ⟨fun h => absurd rfl h, fun _ => hx2 h1 h2 (fun k => hj k.2) _⟩)
  have hp' := hp h1 h2 ⟨by omega, hj⟩
  unfold judged at hp'
  have c1 : g.hc w 0 := ⟨h1, by omega, by omega⟩
  have c2 : g.hc o 0 := ⟨h2, by omega, by omega⟩
  refine sp_allows (m := 0) (d := 0) hg hc hS hw (by omega) ho (by omega) hl (fun a1 a2 a3 a4 sn => ⟨fun _ => ⟨n.toNat + 1, ?_⟩, fun h => absurd h (by decide)⟩) (fun hno sn => ⟨fun h => absurd rfl h, fun _ => ?_⟩)
  · rw [if_pos ⟨a3, a4⟩] at hp'
    exact sp_judge80 hg hc hS hl hn.2 ht hj n.toNat 0 0 0 sn (by omega) (by omega) c1 c2 hp'
  · rw [if_neg (fun k => hno ⟨c1, c2, k⟩)] at hp'
    exact hp' sn
theorem sr_judge148 {post : Int32 → (Int32 × Int32 × Int32 × Int32 × (Nat → Int32)) → Prop} {a1 a2 : Int32} (hg : g.Ok) (hv : WG g v) (hS : SHR g S v) (hl : -2147483648 ≤ l ∧ l < 2147483648) (hn : n ≤ 400) (ht : Tb tp n tb) (hj : jOk tp n) :
    ∀ (j : Nat) (k m d : Int) (sn : Nat → Int32), 0 ≤ k → k + j = n → g.hc w m → g.hc o d → (∀ sn, post (zI (jr g S w o l tp j k m d)) (th, a1, a2, zI n, sn)) → wpX11_judge_148 post v tb (j + 1) th a1 a2 (zI n) sn (zI w) (zI o) (zI l) (zI m) (zI d) (zI k) := by
  intro j
  induction j with
  | zero =>
    intro k m d sn h0 h1 hm hd hp
    unfold wpX11_judge_148
    rw [zI_le (by omega)]
    exact ⟨fun _ => hp sn, fun h => absurd h (by omega)⟩
  | succ j ih =>
    intro k m d sn h0 h1 hm hd hp
    have jk := hj k h0 (by omega)
    have hs : tp k - 48 = 1 ∨ tp k - 48 = 2 ∨ tp k - 48 = 3 := by omega
    have mb := mvdv hs
    have e1 := hg.cn w hm.1.1 hm.1.2
    have e2 := hg.cn o hd.1.1 hd.1.2
    have hm' := hm
    have hd' := hd
    unfold Gd.hc at hm' hd'
    unfold jr at hp
    have no : ¬ gok g S w o l m d (tp k - 48) → ∀ sn, post (zI k) (th, a1, a2, zI n, sn) := by
      intro h sn
      have := hp sn
      rw [if_neg (fun q => h (gokB_t.1 q))] at this
      exact this
    unfold wpX11_judge_148
    simp (disch := omega) only [zI_lit, zI_add, zI_sub, zI_mul, zI_neg, zI_le, zI_lt, zI_eq, zI_nat, zI_max, zI_min, zI_abs, forall_eq, Int.reduceNeg, Int.reduceAdd, Int.reduceMul, Int.reduceSub, Int.add_zero, Int.zero_add, Int.zero_mul, Int.toNat_zero]
    rw [ht k h0 (by omega)]
    simp (disch := omega) only [zI_lit, zI_add, zI_sub, zI_mul, zI_neg, zI_le, zI_lt, zI_eq, zI_nat, zI_max, zI_min, zI_abs, forall_eq, Int.reduceNeg, Int.reduceAdd, Int.reduceMul, Int.reduceSub, Int.add_zero, Int.zero_add, Int.zero_mul, Int.toNat_zero]
    refine ⟨fun h => absurd h (by omega), fun _ => ⟨zI_in (by omega), ?_⟩⟩
    refine sr_manBy hs ?_
    simp (disch := omega) only [zI_lit, zI_add, zI_sub, zI_mul, zI_neg, zI_le, zI_lt, zI_eq, zI_nat, zI_max, zI_min, zI_abs, forall_eq, Int.reduceNeg, Int.reduceAdd, Int.reduceMul, Int.reduceSub, Int.add_zero, Int.zero_add, Int.zero_mul, Int.toNat_zero]
    refine ⟨zI_in (by omega), ?_⟩
    refine sr_dogBy hs ?_
    simp (disch := omega) only [zI_lit, zI_add, zI_sub, zI_mul, zI_neg, zI_le, zI_lt, zI_eq, zI_nat, zI_max, zI_min, zI_abs, forall_eq, Int.reduceNeg, Int.reduceAdd, Int.reduceMul, Int.reduceSub, Int.add_zero, Int.zero_add, Int.zero_mul, Int.toNat_zero]
    refine sr_cornersOf hg hv hm.1 ?_
    simp (disch := omega) only [zI_lit, zI_add, zI_sub, zI_mul, zI_neg, zI_le, zI_lt, zI_eq, zI_nat, zI_max, zI_min, zI_abs, forall_eq, Int.reduceNeg, Int.reduceAdd, Int.reduceMul, Int.reduceSub, Int.add_zero, Int.zero_add, Int.zero_mul, Int.toNat_zero]
    refine ⟨fun h => no (fun q => by have := q.1; omega) _, fun n1 => ?_⟩
    refine sr_cornersOf hg hv hd.1 ?_
    simp (disch := omega) only [zI_lit, zI_add, zI_sub, zI_mul, zI_neg, zI_le, zI_lt, zI_eq, zI_nat, zI_max, zI_min, zI_abs, forall_eq, Int.reduceNeg, Int.reduceAdd, Int.reduceMul, Int.reduceSub, Int.add_zero, Int.zero_add, Int.zero_mul, Int.toNat_zero]
    refine ⟨fun h => no (fun q => by have := q.1; omega) _, fun n2 => ?_⟩
    have c1 : g.hc w (m + mv (tp k - 48)) := ⟨hm.1, by omega, by omega⟩
    have c2 : g.hc o (d + dv (tp k - 48)) := ⟨hd.1, by omega, by omega⟩
    have fb := Gd.far_le hg c1 c2
    refine hS v (Fx.rf v) _ _ w _ o _ c1 c2 (fun hs' sn => ⟨fun _ => no (fun q => absurd (hs'.symm.trans q.2.2) (by decide)) _, fun h => absurd h (by decide)⟩) (fun hs' sn => ⟨fun h => absurd rfl h, fun _ => ?_⟩)
    refine sr_farAt hg hv c1 c2 ?_
    rw [zI_le (by omega)]
    refine ⟨fun hf => ?_, fun hf => no (fun q => by have := q.2.1; omega) _⟩
    have gk : gokB g S w o l m d (tp k - 48) = true := gokB_t.2 ⟨⟨c1.2.2, c2.2.2⟩, hf, hs'⟩
    rw [if_pos gk] at hp
    exact ih (k + 1) _ _ sn (by omega) (by omega) c1 c2 hp
theorem sr_judge {post : Int32 → (Int32 × Int32 × Int32 × Int32 × (Nat → Int32)) → Prop} {pt ed : Int32} {sn : Nat → Int32} (hg : g.Ok) (hv : WG g v) (hS : SHR g S v) (hw : -2147483648 ≤ w ∧ w < 2147483648) (ho : -2147483648 ≤ o ∧ o < 2147483648) (hl : -2147483648 ≤ l ∧ l < 2147483648) (hn : 0 ≤ n ∧ n ≤ 400) (htp : tpOk tp) (ht : Tb tp n tb)
    (hx : ¬ (g.hw w ∧ g.hw o) → ∀ r pt ed sn, post r (1, 0, pt, ed, sn)) (hx2 : g.hw w → g.hw o → ¬ (0 ≤ l ∧ jOk tp n) → ∀ r pt ed sn, post r (2, 0, pt, ed, sn))
    (hp : g.hw w → g.hw o → 0 ≤ l ∧ jOk tp n → ∀ pt ed sn, post (zI (judged g S w o l tp n)) (0, 0, pt, ed, sn)) : wpX11_judge post v tb th (zI n) pt ed sn (zI w) (zI o) (zI l) := by
  have c22 : ¬ (g.hw w ∧ g.hw o) → wpX11_judge_21 post v tb 0 0 0 (zI n) sn (zI w) (zI o) (zI l) := by
    intro h
    unfold wpX11_judge_21 wpX11_judge_26
    refine sr_throwsIf (fun h => absurd h (by decide)) (fun _ => ?_) (Or.inr rfl)
    exact ⟨fun h => absurd h (by decide), fun _ => hx h _ _ _ _⟩
  unfold wpX11_judge wpX11_uses
  refine sr_noWay hg hv hw (fun h1 => ⟨fun h => absurd rfl h, fun _ => ?_⟩) (fun h1 => ⟨fun _ => c22 (fun h => h1 h.1), fun h => absurd h (by decide)⟩)
  refine sr_noWay hg hv ho (fun h2 => ⟨fun _ => ?_, fun h => absurd rfl h⟩) (fun h2 => ⟨fun h => absurd h (by decide), fun _ => c22 (fun h => h2 h.2)⟩)
  have e1 := hg.cn w h1.1 h1.2
  have e2 := hg.cn o h2.1 h2.2
  have c1 : g.hc w 0 := ⟨h1, by omega, by omega⟩
  have c2 : g.hc o 0 := ⟨h2, by omega, by omega⟩
  have fb := Gd.far_le hg c1 c2
  have yes : 0 ≤ l ∧ jOk tp n → wpX11_judge_104 post v tb 0 0 0 (zI n) sn (zI w) (zI o) (zI l) 0 := by
    intro hy
    have hp' := hp h1 h2 hy
    unfold judged at hp'
    have no : ¬ (g.far w 0 o 0 ≤ l ∧ S w 0 o 0 = false) → ∀ pt ed sn, post (zI (-2)) (0, 0, pt, ed, sn) := by
      intro h
      rw [if_neg h] at hp'
      exact hp'
    unfold wpX11_judge_104
    refine sr_throwsIf (fun _ => ⟨fun _ => ?_, fun h => absurd rfl h⟩) (fun h => absurd h (by decide)) (Or.inl rfl)
    refine hS v (Fx.rf v) _ _ w 0 o 0 c1 c2 (fun hs sn => ⟨fun _ => no (fun k => by rw [hs] at k; exact absurd k.2 (by decide)) _ _ _, fun h => absurd h (by decide)⟩) (fun hs sn => ⟨fun h => absurd rfl h, fun _ => ?_⟩)
    refine sr_farAt (w := w) (m := 0) (o := o) (d := 0) hg hv c1 c2 ?_
    rw [zI_le (by omega)]
    refine ⟨fun hf => ⟨n.toNat + 1, ?_⟩, fun hf => no (fun k => by omega) _ _ _⟩
    rw [if_pos ⟨hf, hs⟩] at hp'
    exact sr_judge148 hg hv hS hl hn.2 ht hy.2 n.toNat 0 0 0 sn (by omega) (by omega) c1 c2 (fun sn => hp' _ _ sn)
  have nope : ¬ (0 ≤ l ∧ jOk tp n) → wpX11_judge_104 post v tb 0 0 0 (zI n) sn (zI w) (zI o) (zI l) 1 := by
    intro hn
    unfold wpX11_judge_104
    exact sr_throwsIf (fun h => absurd h (by decide)) (fun _ => ⟨fun h => absurd h (by decide), fun _ => hx2 h1 h2 hn _ _ _ _⟩) (Or.inr rfl)
  have key : ∀ (j : Nat) (k : Int) (is : Int32), 0 ≤ k → k + j = n → (is = 0 ∨ is = 1) → (is = 1 ↔ 0 ≤ l ∧ ∀ i, 0 ≤ i → i < k → 49 ≤ tp i ∧ tp i ≤ 51) → wpX11_judge_49 post v tb (j + 1) 0 0 0 (zI n) sn (zI w) (zI o) (zI l) is (zI k) := by
    intro j
    induction j with
    | zero =>
      intro k is h0 h1' hi hq
      unfold wpX11_judge_49
      rw [zI_le (by omega)]
      refine ⟨fun _ => ⟨fun h => ?_, fun h => ?_⟩, fun h => absurd h (by omega)⟩
      · have q := hq.1 (by rcases hi with h' | h' <;> first | exact absurd h' h | exact h')
        exact yes ⟨q.1, fun i a b => q.2 i a (by omega)⟩
      · refine nope (fun q => ?_)
        have := hq.2 ⟨q.1, fun i a b => q.2 i a (by omega)⟩
        rw [h] at this
        exact absurd this (by decide)
    | succ j ih =>
      intro k is h0 h1' hi hq
      have tk := htp k
      have g84 : is = 0 ∨ ¬ (49 ≤ tp k ∧ tp k ≤ 51) → wpX11_judge_84 (fun y0 y1 y2 y3 y4 y5 y6 y7 y8 y9 => wpX11_judge_49 post v tb (j + 1) y0 y1 y2 y3 y4 y5 y6 y7 y8 y9) post v tb 0 0 0 (zI n) sn (zI w) (zI o) (zI l) (zI k) := by
        intro h
        unfold wpX11_judge_84 wpX11_judge_85
        intro v1 e1'
        subst e1'
        rw [show (1 : Int32) = zI 1 from rfl, zI_add]
        refine ih (k + 1) 0 (by omega) (by omega) (Or.inl rfl) ⟨fun q => absurd q (by decide), fun q => ?_⟩
        rcases h with h | h
        · have := hq.2 ⟨q.1, fun i a b => q.2 i a (by omega)⟩
          rw [h] at this
          exact this
        · exact absurd (q.2 k h0 (by omega)) h
      unfold wpX11_judge_49
      rw [zI_le (by omega), zI_nat (by omega), ht k h0 (by omega)]
      refine ⟨fun h => absurd h (by omega), fun _ => ⟨fun h => g84 (Or.inl h), fun h => ⟨zI_in (by omega), ?_⟩⟩⟩
      rw [show (49 : Int32) = zI 49 from rfl, show (51 : Int32) = zI 51 from rfl]
      refine sr_in (by omega) (by omega) (by omega) (fun hy => ⟨fun h => absurd h (by decide), fun _ => ?_⟩) (fun hy => ⟨fun _ => g84 (Or.inr hy), fun h => absurd rfl h⟩)
      unfold wpX11_judge_85
      intro v1 e1'
      subst e1'
      have q := hq.1 (by rcases hi with h' | h' <;> first | exact absurd h' h | exact h')
      rw [show (1 : Int32) = zI 1 from rfl, zI_add]
      refine ih (k + 1) (zI 1) (by omega) (by omega) (Or.inr rfl) ⟨fun _ => ⟨q.1, fun i a b => ?_⟩, fun _ => rfl⟩
      by_cases e : i = k
      · rw [e]; exact hy
      · exact q.2 i a (by omega)
  unfold wpX11_judge_26
  refine sr_throwsIf (fun _ => ⟨fun _ => ?_, fun h => absurd rfl h⟩) (fun h => absurd h (by decide)) (Or.inl rfl)
  rw [show ((zI l : Int32) < 0) = (l < 0) from zI_lt (b := 0) (by omega)]
  refine ⟨fun h => ⟨n.toNat + 1, ?_⟩, fun h => ⟨n.toNat + 1, ?_⟩⟩
  · exact key n.toNat 0 0 (by omega) (by omega) (Or.inl rfl) ⟨fun q => absurd q (by decide), fun q => by omega⟩
  · exact key n.toNat 0 1 (by omega) (by omega) (Or.inr rfl) ⟨fun _ => ⟨by omega, fun i a b => by omega⟩, fun _ => rfl⟩
end
