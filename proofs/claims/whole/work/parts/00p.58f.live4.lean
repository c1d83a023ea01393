section
variable {g : Gd} {S : Int → Int → Int → Int → Bool} {xs ys cs ws os v v0 f2 tk : Nat → Int32} {nw nl sz th : Int32} {w o l : Int}
def WkR (g : Gd) (w o l : Int) (v0 v : Nat → Int32) (z : Lv) (tk : Nat → Int32) : Prop := Fx v0 v ∧ v 4 = v0 4 ∧ (∀ k, 778 ≤ k → v k = v0 k) ∧ Wk v w o l z.m z.d z.n ∧ v 13 = z.gr ∧ v 5 = z.sd ∧ Rem g w o z.m z.d z.n z.r z.st z.ga tk
theorem sr_live32 {post : Int32 → (Int32 × Int32 × (Nat → Int32) × (Nat → Int32) × (Nat → Int32)) → Prop} {x1 : Int} (hg : g.Ok) (hv : WG g v0) (hS : SHR g S v0) (hl : -2147483648 ≤ l ∧ l < 2147483648) :
    ∀ (j : Nat) (z : Lv) (c : Int) (v sn tk : Nat → Int32), LvOk g w o z → WkR g w o l v0 v z tk → 0 ≤ c → c + j = x1 → x1 ≤ 60 →
      (∀ v' sn tk', LvOk g w o (lvS g S w o l j z).2 → WkR g w o l v0 v' (lvS g S w o l j z).2 tk' → post (zI (c + (lvS g S w o l j z).1)) (th, zI (lvS g S w o l j z).2.r, v', sn, tk')) →
      wpX11_live_32 post (j + 1) th (zI z.r) v sn tk (zI x1) (zI c) := by
  intro j
  induction j with
  | zero =>
    intro z c v sn tk hz hw h0 h1 h2 hp
    unfold wpX11_live_32
    rw [zI_le (by omega)]
    refine ⟨fun _ => ?_, fun h => absurd h (by omega)⟩
    have := hp v sn tk hz hw
    unfold lvS at this
    rw [Int.add_zero] at this
    exact this
  | succ j ih =>
    intro z c v sn tk hz hw h0 h1 h2 hp
    obtain ⟨a1, a2, a3, ⟨b6, b7, b8, b9, b10, b11, b12⟩, a5, a6, a7⟩ := hw
    unfold wpX11_live_32
    rw [zI_le (by omega)]
    refine ⟨fun h => absurd h (by omega), fun _ => ?_⟩
    unfold lvS at hp
    refine sr_live42 (A := gokB g S w o l z.m z.d) (fun v' s post' sn hv' hs hy hn => ?_) (fun hm sn => ?_) (fun hm k hk ek sn => ?_)
    · have fx : Fx v0 v' := by
        rcases hv' with rfl | rfl
        · exact a1
        · exact a1.trans (Fx.upd (by decide))
      have same : ∀ i : Nat, i ≠ 5 → v' i = v i := by
        intro i hi
        rcases hv' with rfl | rfl
        · rfl
        · rw [upd_eq, if_neg hi]
      exact sr_canGo hg (hv.fx hg fx) (hS.fx fx) (by rw [same 6 (by decide)]; exact b6) (by rw [same 7 (by decide)]; exact b7) (by rw [same 8 (by decide)]; exact b8) (by rw [same 9 (by decide)]; exact b9) (by rw [same 10 (by decide)]; exact b10) (by rw [same 11 (by decide)]; exact b11) hz.1 hz.2.1 hl hs (fun h => hy (gokB_t.2 h)) (fun h => hn (gokB_f.2 h))
    · have := hp v sn tk
      rw [if_pos hm] at this
      simp only [Int.add_zero] at this
      exact this hz ⟨a1, a2, a3, ⟨b6, b7, b8, b9, b10, b11, b12⟩, a5, a6, a7⟩
    · rw [a6] at ek
      have mb : many (gokB g S w o l z.m z.d) ≤ 3 := by unfold many; split <;> split <;> split <;> omega
      have nx := lv_next hg hz hk (lvK_eq (by omega) ek)
      have fx : Fx v0 (upd v 5 (1103515245 * v 5 + 12345)) := a1.trans (Fx.upd (by decide))
      have same : ∀ i : Nat, i ≠ 5 → (upd v 5 (1103515245 * v 5 + 12345)) i = v i := fun i hi => by rw [upd_eq, if_neg hi]
      have okn := nx.2.2.1
      rw [nx.2.2.2] at okn
      refine sr_goes (w := w) (o := o) (m := z.m) (d := z.d) (n := z.n) (r := z.r) hg (hv.fx hg fx) (by rw [same 7 (by decide)]; exact b7) (by rw [same 8 (by decide)]; exact b8) (by rw [same 10 (by decide)]; exact b10) (by rw [same 11 (by decide)]; exact b11) (by rw [same 12 (by decide)]; exact b12) okn.1 okn.2.1 nx.2.1 hz.2.2.2 (fun tk' v' c1 c2 c3 c4 c5 c6 c7 c8 c9 c10 c11 c12 c13 => ?_)
      intro v5 e5
      subst e5
      simp (disch := omega) only [zI_lit, zI_add, zI_sub, zI_mul, zI_neg, zI_le, zI_lt, zI_eq, zI_nat, zI_max, zI_min, zI_abs, forall_eq, Int.reduceNeg, Int.reduceAdd, Int.reduceMul, Int.reduceSub, Int.add_zero, Int.zero_add, Int.zero_mul, Int.toNat_zero]
      have i := ih (lvN g S w o l z) (c + 1) v' sn tk' nx.2.2.1 ?_ (by omega) (by omega) h2 (fun v' sn tk' q1 q2 => ?_)
      · rw [nx.2.2.2] at i; exact i
      · rw [nx.2.2.2]
        rw [same 13 (by decide), a5] at c11 c13
        refine ⟨fx.trans c1, by rw [c2, same 4 (by decide)]; exact a2, fun k hk => by rw [c12 k hk, same k (by omega)]; exact a3 k hk, ⟨by rw [c4, same 6 (by decide)]; exact b6, by rw [c5, same 7 (by decide)]; exact b7, by rw [c6, same 8 (by decide)]; exact b8, by rw [c7, same 9 (by decide)]; exact b9, c8, c9, c10⟩, c11, by rw [c3, upd_eq, if_pos rfl, a6]; rfl, ?_⟩
        exact a7.step hz.2.2.1.1 nx.2.1 okn.1 okn.2.1 hz.2.2.1.2 c13
      · have := hp v' sn tk'
        rw [if_neg hm] at this
        rw [show c + 1 + (lvS g S w o l j (lvN g S w o l z)).1 = c + ((lvS g S w o l j (lvN g S w o l z)).1 + 1) by omega]
        exact this q1 q2
theorem sr_live {post : Int32 → (Int32 × Int32 × (Nat → Int32) × (Nat → Int32) × (Nat → Int32)) → Prop} {x : Int} {z : Lv} (hg : g.Ok) (hv : WG g v) (hS : SHR g S v) (hl : -2147483648 ≤ l ∧ l < 2147483648) (hx : -2147483648 ≤ x ∧ x < 2147483648) (hz : LvOk g w o z) (hw : WkR g w o l v v z tk)
    (hX : ¬ (1 ≤ x ∧ x ≤ 60) → ∀ r, post r (1, zI z.r, v, f2, tk))
    (hp : 1 ≤ x ∧ x ≤ 60 → ∀ v' sn tk', LvOk g w o (lvS g S w o l x.toNat z).2 → WkR g w o l v v' (lvS g S w o l x.toNat z).2 tk' → post (zI (lvS g S w o l x.toNat z).1) (0, zI (lvS g S w o l x.toNat z).2.r, v', sn, tk')) :
    wpX11_live post th (zI z.r) v f2 tk (zI x) := by
  unfold wpX11_live
  rw [show (60 : Int32) = zI 60 from rfl, show (1 : Int32) = zI 1 from rfl]
  refine sr_in hx (by omega) (by omega) (fun h => ⟨fun _ => ?_, fun h => absurd h (by decide)⟩) (fun h => ⟨fun h => absurd rfl h, fun _ => ?_⟩)
  · unfold wpX11_live_21
    refine sr_throwsIf (fun _ => ⟨fun _ => ⟨x.toNat + 1, ?_⟩, fun h => absurd rfl h⟩) (fun h => absurd h (by decide)) (Or.inl rfl)
    refine sr_live32 hg hv hS hl x.toNat z 0 v f2 tk hz hw (by omega) (by omega) (by omega) (fun v' sn tk' q1 q2 => ?_)
    rw [Int.zero_add]
    exact hp h v' sn tk' q1 q2
  · unfold wpX11_live_21
    exact sr_throwsIf (fun h => absurd h (by decide)) (fun _ => ⟨fun h => absurd h (by decide), fun _ => hX h _⟩) (Or.inr rfl)
theorem sr_live0 {post : Int32 → (Int32 × Int32 × (Nat → Int32) × (Nat → Int32) × (Nat → Int32)) → Prop} {x : Int} {rm : Int32} (hx : -2147483648 ≤ x ∧ x < 2147483648) (h6 : v 6 = 0)
    (hX : ¬ (1 ≤ x ∧ x ≤ 60) → ∀ r, post r (1, rm, v, f2, tk))
    (hp : 1 ≤ x ∧ x ≤ 60 → ∀ sn, post 0 (0, rm, v, sn, tk)) : wpX11_live post th rm v f2 tk (zI x) := by
  unfold wpX11_live
  rw [show (60 : Int32) = zI 60 from rfl, show (1 : Int32) = zI 1 from rfl]
  refine sr_in hx (by omega) (by omega) (fun h => ⟨fun _ => ?_, fun h => absurd h (by decide)⟩) (fun h => ⟨fun h => absurd rfl h, fun _ => ?_⟩)
  · unfold wpX11_live_21
    refine sr_throwsIf (fun _ => ⟨fun _ => ⟨1, ?_⟩, fun h => absurd rfl h⟩) (fun h => absurd h (by decide)) (Or.inl rfl)
    unfold wpX11_live_32
    rw [show ((zI x : Int32) ≤ 0) = (x ≤ 0) from zI_le (b := 0) (by omega)]
    refine ⟨fun h => absurd h (by omega), fun _ => ?_⟩
    refine sr_live42 (A := fun _ => false) (fun v' s post' sn hv' hs hy hn => ?_) (fun hm sn => hp h sn) (fun hm => absurd rfl hm)
    have e6 : v' (6 : Int32).toNatClampNeg = 0 := by
      rcases hv' with rfl | rfl
      · exact h6
      · exact h6
    unfold wpX11_canGo
    rw [e6]
    exact ⟨by unfold vp_in; decide, fun h => absurd rfl h, fun _ => hn rfl sn⟩
  · unfold wpX11_live_21
    exact sr_throwsIf (fun h => absurd h (by decide)) (fun _ => ⟨fun h => absurd h (by decide), fun _ => hX h _⟩) (Or.inr rfl)
theorem sp_step {post : Int32 → (Int32 × Int32 × Int32 × Int32 × Int32 × (Nat → Int32) × (Nat → Int32) × (Nat → Int32)) → Prop} {postX : String → (Int32 × Int32 × Int32 × Int32 × Int32 × (Nat → Int32) × (Nat → Int32) × (Nat → Int32)) → Prop} {s m d n r : Int} {grt : Int32} {f3 f4 sn : Nat → Int32} (hg : g.Ok) (hc : CG g xs ys cs ws nw nl) (hS : SH1 g S nl xs ys ws sz os) (hl : -2147483648 ≤ l ∧ l < 2147483648) (hs : -2147483648 ≤ s ∧ s < 2147483648) (h1 : g.hc w m) (h2 : g.hc o d) (hn : 0 ≤ n ∧ n ≤ m + d) (hr : 0 ≤ r ∧ r ≤ 40)
    (hX : ¬ (1 ≤ s ∧ s ≤ 3) → postX "java/lang/IllegalArgumentException" (zI m, zI d, zI n, grt, zI r, f3, f4, sn))
    (hy : 1 ≤ s ∧ s ≤ 3 → gok g S w o l m d s → ∀ sn, post (zI (g.far w (m + mv s) o (d + dv s))) (zI (m + mv s), zI (d + dv s), zI (n + 1), iMax grt (zI (g.far w (m + mv s) o (d + dv s))), zI (min (r + 1) 40), upd f3 n.toNat (zI s), upd f4 n.toNat grt, sn))
    (hno : 1 ≤ s ∧ s ≤ 3 → ¬ gok g S w o l m d s → ∀ sn, post (-1) (zI m, zI d, zI n, grt, zI r, f3, f4, sn)) :
    wpX10_step post postX 1 (zI w) (zI o) (zI l) nw nl cs xs ys ws sz os (zI m) (zI d) (zI n) grt (zI r) f3 f4 sn (zI s) := by
  unfold wpX10_step wpX10_step_10
  rw [show ((zI s : Int32) < 1) = (s < 1) from zI_lt (b := 1) (by omega), show ((zI s : Int32) ≤ 3) = (s ≤ 3) from zI_le (b := 3) (by omega)]
  refine ⟨fun h => hX (by omega), fun h => ⟨fun h' => ?_, fun h' => hX (by omega)⟩⟩
  have hs3 : s = 1 ∨ s = 2 ∨ s = 3 := by omega
  refine sp_canGo hg hc hS rfl h1 h2 hl hs3 (fun gk sn => ⟨fun _ => ?_, fun h => absurd h (by decide)⟩) (fun gk sn => ⟨fun h => absurd rfl h, fun _ => hno (by omega) gk sn⟩)
  exact sp_go (S := S) (l := l) (r := r) hg hc h1 h2 hs3 gk hn rfl hr (fun _ => hy (by omega) gk sn)
theorem sp_step0 {post : Int32 → (Int32 × Int32 × Int32 × Int32 × Int32 × (Nat → Int32) × (Nat → Int32) × (Nat → Int32)) → Prop} {postX : String → (Int32 × Int32 × Int32 × Int32 × Int32 × (Nat → Int32) × (Nat → Int32) × (Nat → Int32)) → Prop} {s : Int} {a1 a2 a3 b1 b2 b3 b4 b5 : Int32} {f3 f4 sn : Nat → Int32} (hs : -2147483648 ≤ s ∧ s < 2147483648)
    (hX : ¬ (1 ≤ s ∧ s ≤ 3) → postX "java/lang/IllegalArgumentException" (b1, b2, b3, b4, b5, f3, f4, sn))
    (hno : 1 ≤ s ∧ s ≤ 3 → ∀ sn, post (-1) (b1, b2, b3, b4, b5, f3, f4, sn)) : wpX10_step post postX 0 a1 a2 a3 nw nl cs xs ys ws sz os b1 b2 b3 b4 b5 f3 f4 sn (zI s) := by
  unfold wpX10_step wpX10_step_10 wpX6_canGo
  rw [show ((zI s : Int32) < 1) = (s < 1) from zI_lt (b := 1) (by omega), show ((zI s : Int32) ≤ 3) = (s ≤ 3) from zI_le (b := 3) (by omega)]
  exact ⟨fun h => hX (by omega), fun h => ⟨fun h' => ⟨fun _ => ⟨fun h => absurd rfl h, fun _ => hno (by omega) sn⟩, fun h => absurd rfl h⟩, fun h' => hX (by omega)⟩⟩
theorem sr_step {post : Int32 → (Int32 × Int32 × (Nat → Int32) × (Nat → Int32) × (Nat → Int32)) → Prop} {s : Int} {z : Lv} (hg : g.Ok) (hv : WG g v) (hS : SHR g S v) (hl : -2147483648 ≤ l ∧ l < 2147483648) (hs : -2147483648 ≤ s ∧ s < 2147483648) (hz : LvOk g w o z) (hw : WkR g w o l v v z tk)
    (hX : ¬ (1 ≤ s ∧ s ≤ 3) → ∀ r, post r (1, zI z.r, v, f2, tk))
    (hy : 1 ≤ s ∧ s ≤ 3 → gok g S w o l z.m z.d s → ∀ v' sn tk' (z' : Lv), z' = (z.m + mv s, z.d + dv s, z.n + 1, iMax z.gr (zI (g.far w (z.m + mv s) o (z.d + dv s))), min (z.r + 1) 40, upd z.st z.n.toNat (zI s), upd z.ga z.n.toNat z.gr, z.sd) → LvOk g w o z' → WkR g w o l v v' z' tk' → post (zI (g.far w (z.m + mv s) o (z.d + dv s))) (0, zI (min (z.r + 1) 40), v', sn, tk'))
    (hno : 1 ≤ s ∧ s ≤ 3 → ¬ gok g S w o l z.m z.d s → ∀ sn, post (-1) (0, zI z.r, v, sn, tk)) : wpX11_step post th (zI z.r) v f2 tk (zI s) := by
  unfold wpX11_step
  rw [show (3 : Int32) = zI 3 from rfl, show (1 : Int32) = zI 1 from rfl]
  refine sr_in hs (by omega) (by omega) (fun h => ⟨fun _ => ?_, fun h => absurd h (by decide)⟩) (fun h => ⟨fun h => absurd rfl h, fun _ => ?_⟩)
  · have hs3 : s = 1 ∨ s = 2 ∨ s = 3 := by omega
    have md := mv_dv s
    obtain ⟨a1, a2, a3, ⟨b6, b7, b8, b9, b10, b11, b12⟩, a5, a6, a7⟩ := id hw
    unfold wpX11_step_20
    refine sr_throwsIf (fun _ => ⟨fun _ => ?_, fun h => absurd rfl h⟩) (fun h => absurd h (by decide)) (Or.inl rfl)
    refine sr_canGo hg hv hS b6 b7 b8 b9 b10 b11 hz.1 hz.2.1 hl hs3 (fun gk sn => ⟨fun h => absurd h (by decide), fun _ => ?_⟩) (fun gk sn => ⟨fun _ => hno h gk sn, fun h => absurd rfl h⟩)
    have h1' := hz.1
    have h2' := hz.2.1
    unfold Gd.hc at h1' h2'
    have gk1 := gk.1
    have c1 : g.hc w (z.m + mv s) := ⟨hz.1.1, by omega, gk1.1⟩
    have c2 : g.hc o (z.d + dv s) := ⟨hz.2.1.1, by omega, gk1.2⟩
    have zb := hz.2.2
    refine sr_goes (w := w) (o := o) (m := z.m) (d := z.d) (n := z.n) (r := z.r) hg hv b7 b8 b10 b11 b12 c1 c2 hs3 hz.2.2.2 (fun tk' v' e1 e2 e3 e4 e5 e6 e7 e8 e9 e10 e11 e12 e13 => ?_)
    refine hy h gk v' sn tk' _ rfl ⟨c1, c2, ⟨by show 0 ≤ z.n + 1; omega, by show z.n + 1 ≤ z.m + mv s + (z.d + dv s); omega⟩, by show 0 ≤ min (z.r + 1) 40; omega, by show min (z.r + 1) 40 ≤ 40; omega⟩ ?_
    rw [a5] at e11 e13
    exact ⟨e1, e2, e12, ⟨by rw [e4]; exact b6, by rw [e5]; exact b7, by rw [e6]; exact b8, by rw [e7]; exact b9, e8, e9, e10⟩, e11, by rw [e3]; exact a6, a7.step zb.1.1 hs3 c1 c2 zb.1.2 e13⟩
  · unfold wpX11_step_20
    exact sr_throwsIf (fun h => absurd h (by decide)) (fun _ => ⟨fun h => absurd h (by decide), fun _ => hX h _⟩) (Or.inr rfl)
theorem sr_step0 {post : Int32 → (Int32 × Int32 × (Nat → Int32) × (Nat → Int32) × (Nat → Int32)) → Prop} {s : Int} {rm : Int32} (hs : -2147483648 ≤ s ∧ s < 2147483648) (h6 : v 6 = 0)
    (hX : ¬ (1 ≤ s ∧ s ≤ 3) → ∀ r, post r (1, rm, v, f2, tk))
    (hno : 1 ≤ s ∧ s ≤ 3 → ∀ sn, post (-1) (0, rm, v, sn, tk)) : wpX11_step post th rm v f2 tk (zI s) := by
  unfold wpX11_step
  rw [show (3 : Int32) = zI 3 from rfl, show (1 : Int32) = zI 1 from rfl]
  refine sr_in hs (by omega) (by omega) (fun h => ⟨fun _ => ?_, fun h => absurd h (by decide)⟩) (fun h => ⟨fun h => absurd rfl h, fun _ => ?_⟩)
  · unfold wpX11_step_20 wpX11_canGo
    refine sr_throwsIf (fun _ => ⟨fun _ => ?_, fun h => absurd rfl h⟩) (fun h => absurd h (by decide)) (Or.inl rfl)
    rw [show (6 : Int32).toNatClampNeg = 6 from rfl, h6]
    exact ⟨by unfold vp_in; decide, fun h => absurd rfl h, fun _ => ⟨fun _ => hno h f2, fun h => absurd rfl h⟩⟩
  · unfold wpX11_step_20
    exact sr_throwsIf (fun h => absurd h (by decide)) (fun _ => ⟨fun h => absurd h (by decide), fun _ => hX h _⟩) (Or.inr rfl)
end
