noncomputable def gokB (g : Gd) (S : Int → Int → Int → Int → Bool) (w o l m d s : Int) : Bool := @decide (gok g S w o l m d s) (Classical.propDecidable _)
theorem gokB_t {g : Gd} {S : Int → Int → Int → Int → Bool} {w o l m d s : Int} : gokB g S w o l m d s = true ↔ gok g S w o l m d s := by unfold gokB; exact @decide_eq_true_iff _ (Classical.propDecidable _)
theorem gokB_f {g : Gd} {S : Int → Int → Int → Int → Bool} {w o l m d s : Int} : gokB g S w o l m d s = false ↔ ¬ gok g S w o l m d s := by unfold gokB; exact @decide_eq_false_iff_not _ (Classical.propDecidable _)
def Lv : Type := Int × Int × Int × Int32 × Int × (Nat → Int32) × (Nat → Int32) × Int32
def Lv.m (z : Lv) : Int := z.1
def Lv.d (z : Lv) : Int := z.2.1
def Lv.n (z : Lv) : Int := z.2.2.1
def Lv.gr (z : Lv) : Int32 := z.2.2.2.1
def Lv.r (z : Lv) : Int := z.2.2.2.2.1
def Lv.st (z : Lv) : Nat → Int32 := z.2.2.2.2.2.1
def Lv.ga (z : Lv) : Nat → Int32 := z.2.2.2.2.2.2.1
def Lv.sd (z : Lv) : Int32 := z.2.2.2.2.2.2.2
def lvK (sd : Int32) (c : Int) : Int := ((((1103515245 * sd + 12345) >>> ((16 : Int32) &&& 31)) &&& 32767) - (((1103515245 * sd + 12345) >>> ((16 : Int32) &&& 31)) &&& 32767) / zI c * zI c).toInt
noncomputable def lvN (g : Gd) (S : Int → Int → Int → Int → Bool) (w o l : Int) (z : Lv) : Lv :=
  let e := pick (gokB g S w o l z.m z.d) (lvK z.sd (many (gokB g S w o l z.m z.d)))
  (z.m + mv e, z.d + dv e, z.n + 1, iMax z.gr (zI (g.far w (z.m + mv e) o (z.d + dv e))), min (z.r + 1) 40, upd z.st z.n.toNat (zI e), upd z.ga z.n.toNat z.gr, 1103515245 * z.sd + 12345)
noncomputable def lvS (g : Gd) (S : Int → Int → Int → Int → Bool) (w o l : Int) : Nat → Lv → Int × Lv
  | 0, z => (0, z)
  | j + 1, z => if many (gokB g S w o l z.m z.d) = 0 then (0, z) else ((lvS g S w o l j (lvN g S w o l z)).1 + 1, (lvS g S w o l j (lvN g S w o l z)).2)
def LvOk (g : Gd) (w o : Int) (z : Lv) : Prop := g.hc w z.m ∧ g.hc o z.d ∧ (0 ≤ z.n ∧ z.n ≤ z.m + z.d) ∧ 0 ≤ z.r ∧ z.r ≤ 40
section
variable {g : Gd} {S : Int → Int → Int → Int → Bool} {xs ys cs ws os v : Nat → Int32} {nw nl sz : Int32} {w o l : Int}
theorem lvK_eq {sd : Int32} {c k : Int} (hk : 0 ≤ k ∧ k ≤ 3) (h : (((1103515245 * sd + 12345) >>> ((16 : Int32) &&& 31)) &&& 32767) - (((1103515245 * sd + 12345) >>> ((16 : Int32) &&& 31)) &&& 32767) / zI c * zI c = zI k) : lvK sd c = k := by
  unfold lvK
  rw [h, zI_toInt (by omega)]
theorem lv_next {z : Lv} {k : Int} (hg : g.Ok) (hz : LvOk g w o z) (hk : 0 ≤ k ∧ k < many (gokB g S w o l z.m z.d)) (ek : lvK z.sd (many (gokB g S w o l z.m z.d)) = k) :
    gok g S w o l z.m z.d (pick (gokB g S w o l z.m z.d) k) ∧ (pick (gokB g S w o l z.m z.d) k = 1 ∨ pick (gokB g S w o l z.m z.d) k = 2 ∨ pick (gokB g S w o l z.m z.d) k = 3) ∧ LvOk g w o (lvN g S w o l z) ∧
    lvN g S w o l z = (z.m + mv (pick (gokB g S w o l z.m z.d) k), z.d + dv (pick (gokB g S w o l z.m z.d) k), z.n + 1, iMax z.gr (zI (g.far w (z.m + mv (pick (gokB g S w o l z.m z.d) k)) o (z.d + dv (pick (gokB g S w o l z.m z.d) k)))), min (z.r + 1) 40, upd z.st z.n.toNat (zI (pick (gokB g S w o l z.m z.d) k)), upd z.ga z.n.toNat z.gr, 1103515245 * z.sd + 12345) := by
  have p := pick_ok hk
  have e : lvN g S w o l z = (z.m + mv (pick (gokB g S w o l z.m z.d) k), z.d + dv (pick (gokB g S w o l z.m z.d) k), z.n + 1, iMax z.gr (zI (g.far w (z.m + mv (pick (gokB g S w o l z.m z.d) k)) o (z.d + dv (pick (gokB g S w o l z.m z.d) k)))), min (z.r + 1) 40, upd z.st z.n.toNat (zI (pick (gokB g S w o l z.m z.d) k)), upd z.ga z.n.toNat z.gr, 1103515245 * z.sd + 12345) := by
    unfold lvN
    rw [ek]
  have gk := gokB_t.1 p.1
  have md := mv_dv (pick (gokB g S w o l z.m z.d) k)
  refine ⟨gk, p.2, ?_, e⟩
  obtain ⟨h1, h2, h3, h4⟩ := hz
  rw [e]
  have h1' := h1
  have h2' := h2
  unfold Gd.hc at h1' h2'
  have g1 := gk.1
  exact ⟨⟨h1.1, by show 0 ≤ z.m + _; omega, g1.1⟩, ⟨h2.1, by show 0 ≤ z.d + _; omega, g1.2⟩, ⟨by show 0 ≤ z.n + 1; omega, by show z.n + 1 ≤ z.m + _ + (z.d + _); omega⟩, by show 0 ≤ min (z.r + 1) 40; omega, by show min (z.r + 1) 40 ≤ 40; omega⟩
theorem sp_live26 {post : Int32 → (Int32 × Int32 × Int32 × Int32 × Int32 × Int32 × (Nat → Int32) × (Nat → Int32) × (Nat → Int32)) → Prop} {postX : String → (Int32 × Int32 × Int32 × Int32 × Int32 × Int32 × (Nat → Int32) × (Nat → Int32) × (Nat → Int32)) → Prop} {x1 : Int} (hg : g.Ok) (hc : CG g xs ys cs ws nw nl) (hS : SH1 g S nl xs ys ws sz os) (hl : -2147483648 ≤ l ∧ l < 2147483648) :
    ∀ (j : Nat) (z : Lv) (c : Int) (sn : Nat → Int32), LvOk g w o z → 0 ≤ c → c + j = x1 → x1 ≤ 60 →
      (∀ sn, post (zI (c + (lvS g S w o l j z).1)) ((lvS g S w o l j z).2.sd, zI (lvS g S w o l j z).2.m, zI (lvS g S w o l j z).2.d, zI (lvS g S w o l j z).2.n, (lvS g S w o l j z).2.gr, zI (lvS g S w o l j z).2.r, (lvS g S w o l j z).2.st, (lvS g S w o l j z).2.ga, sn)) →
      wpX10_live_26 post postX 1 (zI w) (zI o) (zI l) nw nl cs xs ys ws sz os (j + 1) z.sd (zI z.m) (zI z.d) (zI z.n) z.gr (zI z.r) z.st z.ga sn (zI x1) (zI c) (zI c) := by
  intro j
  induction j with
  | zero =>
    intro z c sn hz h0 h1 h2 hp
    unfold wpX10_live_26
    rw [zI_le (by omega)]
    refine ⟨fun _ => ?_, fun h => absurd h (by omega)⟩
    have := hp sn
    unfold lvS at this
    rw [Int.add_zero] at this
    exact this
  | succ j ih =>
    intro z c sn hz h0 h1 h2 hp
    unfold wpX10_live_26
    rw [zI_le (by omega)]
    refine ⟨fun h => absurd h (by omega), fun _ => ?_⟩
    unfold lvS at hp
    refine sp_draw (A := gokB g S w o l z.m z.d) (fun s post' sn hs hy hn => sp_canGo hg hc hS rfl hz.1 hz.2.1 hl hs (fun h => hy (gokB_t.2 h)) (fun h => hn (gokB_f.2 h))) (fun hm sn => ?_) (fun hm k hk ek sn => ?_)
    · refine ⟨fun h => absurd rfl h, fun _ => ?_⟩
      have := hp sn
      rw [if_pos hm] at this
      simp only [Int.add_zero] at this
      exact this
    · have mb : many (gokB g S w o l z.m z.d) ≤ 3 := by unfold many; split <;> split <;> split <;> omega
      have nx := lv_next hg hz hk (lvK_eq (by omega) ek)
      refine ⟨fun _ => ?_, fun h => ?_⟩
      · refine sp_go (S := S) (l := l) (r := z.r) hg hc hz.1 hz.2.1 nx.2.1 nx.1 hz.2.2.1 rfl hz.2.2.2 (fun _ => ?_)
        simp (disch := omega) only [zI_lit, zI_add, zI_sub, zI_mul, zI_neg, zI_le, zI_lt, zI_eq, zI_nat, zI_max, zI_min, zI_abs, forall_eq, Int.reduceNeg, Int.reduceAdd, Int.reduceMul, Int.reduceSub, Int.add_zero, Int.zero_add, Int.zero_mul, Int.toNat_zero]
        have i := ih (lvN g S w o l z) (c + 1) sn nx.2.2.1 (by omega) (by omega) h2 (fun sn => ?_)
        · rw [nx.2.2.2] at i; exact i
        · have := hp sn
          rw [if_neg hm] at this
          rw [show c + 1 + (lvS g S w o l j (lvN g S w o l z)).1 = c + ((lvS g S w o l j (lvN g S w o l z)).1 + 1) by omega]
          exact this
      · rw [show (-1 : Int32) = zI (-1) from rfl, zI_eq (by omega)] at h
        omega
theorem sp_live {post : Int32 → (Int32 × Int32 × Int32 × Int32 × Int32 × Int32 × (Nat → Int32) × (Nat → Int32) × (Nat → Int32)) → Prop} {postX : String → (Int32 × Int32 × Int32 × Int32 × Int32 × Int32 × (Nat → Int32) × (Nat → Int32) × (Nat → Int32)) → Prop} {x : Int} {z : Lv} {sn : Nat → Int32} (hg : g.Ok) (hc : CG g xs ys cs ws nw nl) (hS : SH1 g S nl xs ys ws sz os) (hl : -2147483648 ≤ l ∧ l < 2147483648) (hx : -2147483648 ≤ x ∧ x < 2147483648) (hz : LvOk g w o z)
    (hX : ¬ (1 ≤ x ∧ x ≤ 60) → postX "java/lang/IllegalArgumentException" (z.sd, zI z.m, zI z.d, zI z.n, z.gr, zI z.r, z.st, z.ga, sn))
    (hp : 1 ≤ x ∧ x ≤ 60 → ∀ sn, post (zI (lvS g S w o l x.toNat z).1) ((lvS g S w o l x.toNat z).2.sd, zI (lvS g S w o l x.toNat z).2.m, zI (lvS g S w o l x.toNat z).2.d, zI (lvS g S w o l x.toNat z).2.n, (lvS g S w o l x.toNat z).2.gr, zI (lvS g S w o l x.toNat z).2.r, (lvS g S w o l x.toNat z).2.st, (lvS g S w o l x.toNat z).2.ga, sn)) :
    wpX10_live post postX 1 (zI w) (zI o) (zI l) nw nl cs xs ys ws sz os z.sd (zI z.m) (zI z.d) (zI z.n) z.gr (zI z.r) z.st z.ga sn (zI x) := by
  unfold wpX10_live wpX10_live_11
  rw [show ((zI x : Int32) < 1) = (x < 1) from zI_lt (b := 1) (by omega), show ((zI x : Int32) ≤ 60) = (x ≤ 60) from zI_le (b := 60) (by omega)]
  refine ⟨fun h => hX (by omega), fun h => ⟨fun h' => ⟨x.toNat + 1, ?_⟩, fun h' => hX (by omega)⟩⟩
  refine sp_live26 hg hc hS hl x.toNat z 0 sn hz (by omega) (by omega) (by omega) (fun sn => ?_)
  rw [Int.zero_add]
  exact hp (by omega) sn
theorem sp_live0 {post : Int32 → (Int32 × Int32 × Int32 × Int32 × Int32 × Int32 × (Nat → Int32) × (Nat → Int32) × (Nat → Int32)) → Prop} {postX : String → (Int32 × Int32 × Int32 × Int32 × Int32 × Int32 × (Nat → Int32) × (Nat → Int32) × (Nat → Int32)) → Prop} {x : Int} {a1 a2 a3 b0 b1 b2 b3 b4 b5 : Int32} {f3 f4 sn : Nat → Int32} (hx : -2147483648 ≤ x ∧ x < 2147483648)
    (hX : ¬ (1 ≤ x ∧ x ≤ 60) → postX "java/lang/IllegalArgumentException" (b0, b1, b2, b3, b4, b5, f3, f4, sn))
    (hp : 1 ≤ x ∧ x ≤ 60 → ∀ sn, post 0 (b0, b1, b2, b3, b4, b5, f3, f4, sn)) :
    wpX10_live post postX 0 a1 a2 a3 nw nl cs xs ys ws sz os b0 b1 b2 b3 b4 b5 f3 f4 sn (zI x) := by
  unfold wpX10_live wpX10_live_11
  rw [show ((zI x : Int32) < 1) = (x < 1) from zI_lt (b := 1) (by omega), show ((zI x : Int32) ≤ 60) = (x ≤ 60) from zI_le (b := 60) (by omega)]
  refine ⟨fun h => hX (by omega), fun h => ⟨fun h' => ⟨1, ?_⟩, fun h' => hX (by omega)⟩⟩
  unfold wpX10_live_26
  rw [show ((zI x : Int32) ≤ 0) = (x ≤ 0) from zI_le (b := 0) (by omega)]
  refine ⟨fun h => absurd h (by omega), fun _ => ?_⟩
  refine sp_draw (A := fun _ => false) (fun s post' sn hs hy hn => ⟨fun _ => hn rfl sn, fun h => absurd rfl h⟩) (fun hm sn => ⟨fun h => absurd rfl h, fun _ => hp (by omega) _⟩) (fun hm => absurd rfl hm)
end
