theorem rem_of {a n : Int} (hn : 0 < n) (h : 0 ≤ a ∧ a < 2 * n) : a - a / n * n = if a < n then a else a - n := by
  by_cases e : a < n
  · rw [if_pos e, Int.ediv_eq_zero_of_lt h.1 e]; omega
  · rw [if_neg e]
    have := (dm_of (c := 1) (n := n) (p := a - n) hn (by omega)).1
    rw [show 1 * n + (a - n) = a by omega] at this
    rw [this]; omega
noncomputable def am (a : Int → Int) (F : Int) : Nat → Int × Int
  | 0 => (F, -1)
  | k + 1 => if a k < (am a F k).1 then (a k, (k : Int)) else am a F k
theorem am_agr {a c : Int → Int} : ∀ n : Nat, (∀ b : Int, 0 ≤ b → b < n → Agr (a b) (c b)) → Agr (am a 2147483647 n).1 (am c 2000000000 n).1 ∧ (am a 2147483647 n).2 = (am c 2000000000 n).2 := by
  intro n
  induction n with
  | zero => intro _; exact ⟨Agr.far, rfl⟩
  | succ n ih =>
    intro h
    have i := ih (fun b h0 h1 => h b h0 (by omega))
    have j := h n (by omega) (by omega)
    simp only [am]
    have : (a n < (am a 2147483647 n).1) ↔ (c n < (am c 2000000000 n).1) := by
      have := i.1
      unfold Agr at this j; omega
    by_cases e : a n < (am a 2147483647 n).1
    · rw [if_pos e, if_pos (this.1 e)]; exact ⟨j, rfl⟩
    · rw [if_neg e, if_neg (fun e' => e (this.2 e'))]; exact i
theorem am_bd {a : Int → Int} {F : Int} (hF : 0 ≤ F) : ∀ n : Nat, (∀ b : Int, 0 ≤ b → b < n → 0 ≤ a b ∧ a b ≤ F) → (0 ≤ (am a F n).1 ∧ (am a F n).1 ≤ F) ∧ -1 ≤ (am a F n).2 ∧ (am a F n).2 < n := by
  intro n
  induction n with
  | zero => intro _; simp only [am]; omega
  | succ n ih =>
    intro h
    have i := ih (fun b h0 h1 => h b h0 (by omega))
    have j := h n (by omega) (by omega)
    simp only [am]
    split
    · simp only []; omega
    · omega
def rn (R : Int) : Int := if R = 1 then 1 else R + 1
theorem rn_bd {R : Int} (h : 1 ≤ R ∧ R ≤ 30) : (1 ≤ rn R ∧ rn R ≤ 31) ∧ rn R ≤ R + 1 := by unfold rn; split <;> omega
def Gd.rq (g : Gd) (S : Int → Int → Int → Int → Bool) (F w o b m d : Int) : Int := g.pr S F w o (if m < g.cn w then m else m - g.cn w) (if d + b < g.cn o then d + b else d + b - g.cn o)
section
variable {g : Gd} {S : Int → Int → Int → Int → Bool} {xs ys cs ws os v : Nat → Int32} {nw nl sz : Int32} {w o : Int}
theorem rq_in (hg : g.Ok) (hw : g.hw w) (ho : g.hw o) {b m d : Int} (hb : 0 ≤ b ∧ b < g.cn o) (hm : 0 ≤ m ∧ m < rn (g.cn w)) (hd : 0 ≤ d ∧ d < rn (g.cn o)) : (0 ≤ (if m < g.cn w then m else m - g.cn w) ∧ (if m < g.cn w then m else m - g.cn w) < g.cn w) ∧ 0 ≤ (if d + b < g.cn o then d + b else d + b - g.cn o) ∧ (if d + b < g.cn o then d + b else d + b - g.cn o) < g.cn o := by
  have e1 := hg.cn w hw.1 hw.2
  have e2 := hg.cn o ho.1 ho.2
  have r1 := rn_bd e1
  have r2 := rn_bd e2
  constructor
  · split <;> omega
  · split <;> omega
theorem rq_agr (hg : g.Ok) (hw : g.hw w) (ho : g.hw o) {b : Int} (hb : 0 ≤ b ∧ b < g.cn o) : ∀ m d, 0 ≤ m → m < rn (g.cn w) → 0 ≤ d → d < rn (g.cn o) → Agr (g.rq S 2147483647 w o b m d) (g.rq S 2000000000 w o b m d) := by
  intro m d a c e f
  have := rq_in hg hw ho hb ⟨a, c⟩ ⟨e, f⟩
  exact pr_agr hg ⟨hw, this.1⟩ ⟨ho, this.2⟩
noncomputable def Gd.rl (g : Gd) (S : Int → Int → Int → Int → Bool) (w o b : Int) : Int := Bk (g.rq S 2147483647 w o b) 2147483647 (rn (g.cn w)) (rn (g.cn o)) 0 0
noncomputable def Gd.rl2 (g : Gd) (S : Int → Int → Int → Int → Bool) (w o b : Int) : Int := Fw (g.rq S 2000000000 w o b) 2000000000 (rn (g.cn w) - 1) (rn (g.cn o) - 1)
theorem rl_agr (hg : g.Ok) (hw : g.hw w) (ho : g.hw o) {b : Int} (hb : 0 ≤ b ∧ b < g.cn o) : Agr (g.rl S w o b) (g.rl2 S w o b) := by
  have r1 := rn_bd (hg.cn w hw.1 hw.2)
  have r2 := rn_bd (hg.cn o ho.1 ho.2)
  exact Bk_Fw (by omega) (by omega) (rq_agr hg hw ho hb)
noncomputable def Gd.ringL (g : Gd) (S : Int → Int → Int → Int → Bool) (w o : Int) : Int := if (am (g.rl S w o) 2147483647 (g.cn o).toNat).1 = 2147483647 then -1 else (am (g.rl S w o) 2147483647 (g.cn o).toNat).1
noncomputable def Gd.ringB (g : Gd) (S : Int → Int → Int → Int → Bool) (w o : Int) : Int := (am (g.rl S w o) 2147483647 (g.cn o).toNat).2
theorem sp_round48 {post : Int32 → ((Nat → Int32)) → Prop} {fp : Nat → Int32} {x1 : Int32} (hg : g.Ok) (hw : g.hw w) (ho : g.hw o) (hL : Laid (g.pr S 2147483647 w o) (g.cn o) (g.cn w) 0 fp)
    (hp : ∀ f, post (if x1 = 0 then zI (g.ringL S w o) else zI (g.ringB S w o)) f) :
    ∀ (j b : Nat) (f : Nat → Int32), (b : Int) + j = g.cn o → wpX0_leastRound_48 post (zI (g.cn w)) (zI (g.cn o)) fp (j + 1) f x1 (zI (rn (g.cn w))) (zI (rn (g.cn o))) (zI (am (g.rl S w o) 2147483647 b).1) (zI (am (g.rl S w o) 2147483647 b).2) (zI b) := by
  have e1 := hg.cn w hw.1 hw.2
  have e2 := hg.cn o ho.1 ho.2
  have r1 := rn_bd e1
  have r2 := rn_bd e2
  have bd : ∀ b : Int, 0 ≤ b → b < g.cn o → 0 ≤ g.rl S w o b ∧ g.rl S w o b ≤ 2147483647 := fun b h0 h1 => (rl_agr hg hw ho ⟨h0, h1⟩).bd.1
  intro j
  induction j with
  | zero =>
    intro b f hb
    have ab := am_bd (F := 2147483647) (by omega) b (fun b' h0 h1 => bd b' h0 (by omega))
    have hp' := hp f
    unfold Gd.ringL Gd.ringB at hp'
    rw [show (g.cn o).toNat = b by omega] at hp'
    unfold wpX0_leastRound_48
    rw [zI_le (by omega)]
    refine ⟨fun _ => ⟨fun h => ?_, fun h => ?_⟩, fun h => absurd h (by omega)⟩
    · rw [if_pos h] at hp'
      exact sp_orNone ab.1 hp'
    · rw [if_neg h] at hp'
      exact hp'
  | succ j ih =>
    intro b f hb
    have ab := am_bd (F := 2147483647) (by omega) b (fun b' h0 h1 => bd b' h0 (by omega))
    have bb := bd b (by omega) (by omega)
    unfold wpX0_leastRound_48
    rw [zI_le (by omega)]
    refine ⟨fun h => absurd h (by omega), fun _ => ?_⟩
    refine sp_settle (q := g.rq S 2147483647 w o b) f (by omega) (by omega) (by omega) (by omega) (by omega) (by omega) (by omega) (fun m d c1 c2 c3 c4 => ?_) (fun m d c1 c2 c3 c4 => ?_) (fun f' _ => ?_)
    · have := (rq_agr (S := S) hg hw ho (b := b) (by omega) m d c1 c2 c3 c4).bd.1
      exact this
    · have := rq_in hg hw ho (b := b) (by omega) ⟨c1, c2⟩ ⟨c3, c4⟩
      exact hL _ _ this.1.1 this.2.1 this.2.2 (Or.inl this.1.2)
    · rw [show Bk (g.rq S 2147483647 w o b) 2147483647 (rn (g.cn w)) (rn (g.cn o)) 0 0 = g.rl S w o b from rfl, zI_le (by omega)]
      have e : am (g.rl S w o) 2147483647 (b + 1) = if g.rl S w o b < (am (g.rl S w o) 2147483647 b).1 then (g.rl S w o b, (b : Int)) else am (g.rl S w o) 2147483647 b := rfl
      have i := ih (b + 1) f' (by omega)
      rw [e] at i
      unfold wpX0_leastRound_82
      simp (disch := omega) only [zI_lit, zI_add, zI_sub, zI_mul, zI_neg, zI_le, zI_lt, zI_eq, zI_nat, zI_max, zI_min, zI_abs, forall_eq, Int.reduceNeg, Int.reduceAdd, Int.reduceMul, Int.reduceSub, Int.add_zero, Int.zero_add, Int.zero_mul, Int.toNat_zero]
      refine ⟨fun h => ?_, fun h => ?_⟩
      · rw [if_neg (by omega)] at i; exact i
      · rw [if_pos (by omega)] at i; exact i
theorem sp_leastRound {post : Int32 → ((Nat → Int32)) → Prop} {fp f : Nat → Int32} {x1 : Int32} (hg : g.Ok) (hw : g.hw w) (ho : g.hw o) (hL : Laid (g.pr S 2147483647 w o) (g.cn o) (g.cn w) 0 fp)
    (hp : ∀ f, post (if x1 = 0 then zI (g.ringL S w o) else zI (g.ringB S w o)) f) : wpX0_leastRound post (zI (g.cn w)) (zI (g.cn o)) fp f x1 := by
  have e1 := hg.cn w hw.1 hw.2
  have e2 := hg.cn o ho.1 ho.2
  have h37 : ∀ a b : Int, a = rn (g.cn w) → b = rn (g.cn o) → wpX0_leastRound_37 post (zI (g.cn w)) (zI (g.cn o)) fp f x1 (zI a) (zI b) := by
    intro a b ha hb
    subst ha; subst hb
    exact ⟨(g.cn o).toNat + 1, sp_round48 hg hw ho hL hp (g.cn o).toNat 0 f (by omega)⟩
  have h18 : ∀ a : Int, a = rn (g.cn w) → wpX0_leastRound_18 post (zI (g.cn w)) (zI (g.cn o)) fp f x1 (zI a) := by
    intro a ha
    unfold wpX0_leastRound_18
    simp (disch := omega) only [zI_lit, zI_add, zI_sub, zI_mul, zI_neg, zI_le, zI_lt, zI_eq, zI_nat, zI_max, zI_min, zI_abs, forall_eq, Int.reduceNeg, Int.reduceAdd, Int.reduceMul, Int.reduceSub, Int.add_zero, Int.zero_add, Int.zero_mul, Int.toNat_zero]
    exact ⟨fun h => h37 _ _ ha (by unfold rn; rw [if_neg h]), fun h => h37 _ _ ha (by unfold rn; rw [if_pos h])⟩
  unfold wpX0_leastRound
  simp (disch := omega) only [zI_lit, zI_add, zI_sub, zI_mul, zI_neg, zI_le, zI_lt, zI_eq, zI_nat, zI_max, zI_min, zI_abs, forall_eq, Int.reduceNeg, Int.reduceAdd, Int.reduceMul, Int.reduceSub, Int.add_zero, Int.zero_add, Int.zero_mul, Int.toNat_zero]
  exact ⟨fun h => h18 _ (by unfold rn; rw [if_neg h]), fun h => h18 _ (by unfold rn; rw [if_pos h])⟩
theorem sp_ring {post : Int32 → ((Nat → Int32) × Int32 × Int32 × (Nat → Int32) × (Nat → Int32)) → Prop} {postX : String → ((Nat → Int32) × Int32 × Int32 × (Nat → Int32) × (Nat → Int32)) → Prop} {f8 f11 f12 : Nat → Int32} {r0 c0 x1 : Int32}
    (hg : g.Ok) (hc : CG g xs ys cs ws nw nl) (hS : SH1 g S nl xs ys ws sz os) (hw : -2147483648 ≤ w ∧ w < 2147483648) (ho : -2147483648 ≤ o ∧ o < 2147483648)
    (hx : ¬ (g.hw w ∧ g.hw o) → postX "java/lang/IndexOutOfBoundsException" (f8, r0, c0, f11, f12))
    (hp : g.hw w → g.hw o → ∀ z, post (if x1 = 0 then zI (g.ringL S w o) else zI (g.ringB S w o)) z) : wpX10_ring post postX nw nl cs xs ys ws sz os f8 r0 c0 f11 f12 (zI w) (zI o) x1 := by
  unfold wpX10_ring
  refine sp_needWay hg hc hw (fun h1 => ?_) (fun h => hx (fun h' => h h'.1))
  refine sp_needWay hg hc ho (fun h2 => ?_) (fun h => hx (fun h' => h h'.2))
  refine sp_lay hg hc hS h1 h2 (fun fp sn hL => ?_)
  exact sp_leastRound hg h1 h2 hL (fun f => hp h1 h2 _)
end
section
variable {q : Int → Int → Int} {M D m : Int}
theorem sr_rl51 {k37 : (Nat → Int32) → Int32 → Int32 → Int32 → Int32 → Prop} {post : Int32 → ((Nat → Int32)) → Prop} {f1 : Nat → Int32} {R C b : Int} (hR : 1 ≤ R ∧ R ≤ 30) (hC : 1 ≤ C ∧ C ≤ 30) (hM : M ≤ R + 1) (hD : 1 ≤ D ∧ D ≤ C + 1) (hm : 0 ≤ m ∧ m < M) (hb : 0 ≤ b ∧ b < C)
    (hq : ∀ m d, 0 ≤ m → m < M → 0 ≤ d → d < D → 0 ≤ q m d ∧ q m d ≤ 2000000000)
    (hf : ∀ m d, 0 ≤ m → m < M → 0 ≤ d → d < D → f1 (30 * (if m < R then m else m - R) + (if b + d < C then b + d else b + d - C)).toNat = zI (q m d))
    (hp : ∀ f : Nat → Int32, (∀ d, 0 ≤ d → d < D → f d.toNat = zI (Fw q 2000000000 m d)) → k37 f (zI b) (zI (M - 1)) (zI (D - 1)) (zI (m + 1))) :
    ∀ (j : Nat) (d : Int) (f : Nat → Int32), 0 ≤ d → d + j = D → (∀ d', 0 ≤ d' → d' < d → f d'.toNat = zI (Fw q 2000000000 m d')) → (m ≠ 0 → ∀ d', d ≤ d' → d' < D → f d'.toNat = zI (Fw q 2000000000 (m - 1) d')) → wpX11_roundLead_51 k37 post (zI R) (zI C) f1 (j + 1) f (zI b) (zI (M - 1)) (zI (D - 1)) (zI m) (zI (Fw q 2000000000 (m - 1) (d - 1))) (zI d) := by
  intro j
  induction j with
  | zero =>
    intro d f h0 h1 a b
    rw [show d = D by omega] at a ⊢
    unfold wpX11_roundLead_51
    simp (disch := omega) only [zI_lit, zI_add, zI_sub, zI_mul, zI_neg, zI_le, zI_lt, zI_eq, zI_nat, zI_max, zI_min, zI_abs, forall_eq, Int.reduceNeg, Int.reduceAdd, Int.reduceMul, Int.reduceSub, Int.add_zero, Int.zero_add, Int.zero_mul, Int.toNat_zero]
    exact ⟨fun _ => hp f a, fun h => absurd h (by omega)⟩
  | succ j ih =>
    intro d f h0 h1 a b'
    have b1 := Fw_bd (F := 2000000000) (by omega) hq _ (m - 1) (d - 1) rfl (by omega) (by omega)
    have b2 := Fw_bd (F := 2000000000) (by omega) hq _ (m - 1) d rfl (by omega) (by omega)
    have b3 := Fw_bd (F := 2000000000) (by omega) hq _ m (d - 1) rfl (by omega) (by omega)
    have hq' := hq m d hm.1 hm.2 h0 (by omega)
    have hfd := hf m d hm.1 hm.2 h0 (by omega)
    have r1 := rem_of (a := m) (n := R) (by omega) (by omega)
    have r2 := rem_of (a := b + d) (n := C) (by omega) (by omega)
    have go : ∀ s : Int, max (q m d) s = Fw q 2000000000 m d → 0 ≤ s ∧ s ≤ 2000000000 → wpX11_roundLead_121 (fun y0 y1 y2 y3 y4 y5 y6 => wpX11_roundLead_51 k37 post (zI R) (zI C) f1 (j + 1) y0 y1 y2 y3 y4 y5 y6) k37 post (zI R) (zI C) f1 f (zI b) (zI (M - 1)) (zI (D - 1)) (zI m) (zI d) (zI (Fw q 2000000000 (m - 1) d)) (zI s) := by
      intro s hs hs'
      unfold wpX11_roundLead_121
      simp (disch := omega) only [zI_lit, zI_add, zI_sub, zI_mul, zI_neg, zI_le, zI_lt, zI_eq, zI_nat, zI_max, zI_min, zI_abs, forall_eq, Int.reduceNeg, Int.reduceAdd, Int.reduceMul, Int.reduceSub, Int.add_zero, Int.zero_add, Int.zero_mul, Int.toNat_zero, zI_div]
      rw [r1, r2] at *
      have x1 : 0 ≤ (if m < R then m else m - R) ∧ (if m < R then m else m - R) < R := by split <;> omega
      have x2 : 0 ≤ (if b + d < C then b + d else b + d - C) ∧ (if b + d < C then b + d else b + d - C) < C := by split <;> omega
      rw [hfd]
      simp (disch := omega) only [zI_lit, zI_add, zI_sub, zI_mul, zI_neg, zI_le, zI_lt, zI_eq, zI_nat, zI_max, zI_min, zI_abs, forall_eq, Int.reduceNeg, Int.reduceAdd, Int.reduceMul, Int.reduceSub, Int.add_zero, Int.zero_add, Int.zero_mul, Int.toNat_zero]
      rw [hs]
      refine ⟨by omega, by omega, zI_in (by omega), zI_in (by omega), ?_⟩
      have := ih (d + 1) (upd f d.toNat (zI (Fw q 2000000000 m d))) (by omega) (by omega) (fun d' c1 c2 => ?_) (fun hm0 d' c1 c2 => ?_)
      · rwa [Int.add_sub_cancel] at this
      · rw [upd_eq]
        split
        · rw [show d' = d by omega]
        · exact a d' c1 (by omega)
      · rw [upd_eq, if_neg (by omega)]; exact b' hm0 d' (by omega) c2
    have go91 : ¬ (m = 0 ∧ d = 0) → wpX11_roundLead_91 (fun y0 y1 y2 y3 y4 y5 y6 => wpX11_roundLead_51 k37 post (zI R) (zI C) f1 (j + 1) y0 y1 y2 y3 y4 y5 y6) k37 post (zI R) (zI C) f1 f (zI b) (zI (M - 1)) (zI (D - 1)) (zI m) (zI (Fw q 2000000000 (m - 1) (d - 1))) (zI d) (zI (Fw q 2000000000 (m - 1) d)) := by
      intro hn
      have hi := Fw_in (q := q) (F := 2000000000) hm.1 h0 hn
      unfold wpX11_roundLead_91
      simp (disch := omega) only [zI_lit, zI_add, zI_sub, zI_mul, zI_neg, zI_le, zI_lt, zI_eq, zI_nat, zI_max, zI_min, zI_abs, forall_eq, Int.reduceNeg, Int.reduceAdd, Int.reduceMul, Int.reduceSub, Int.add_zero, Int.zero_add, Int.zero_mul, Int.toNat_zero]
      refine ⟨fun h => ⟨zI_in (by omega), ?_⟩, fun h => ?_⟩
      · rw [a (d - 1) (by omega) (by omega)]
        unfold wpX11_roundLead_115
        simp (disch := omega) only [zI_lit, zI_add, zI_sub, zI_mul, zI_neg, zI_le, zI_lt, zI_eq, zI_nat, zI_max, zI_min, zI_abs, forall_eq, Int.reduceNeg, Int.reduceAdd, Int.reduceMul, Int.reduceSub, Int.add_zero, Int.zero_add, Int.zero_mul, Int.toNat_zero]
        exact go _ hi.symm (by omega)
      · unfold wpX11_roundLead_115
        simp (disch := omega) only [zI_lit, zI_add, zI_sub, zI_mul, zI_neg, zI_le, zI_lt, zI_eq, zI_nat, zI_max, zI_min, zI_abs, forall_eq, Int.reduceNeg, Int.reduceAdd, Int.reduceMul, Int.reduceSub, Int.add_zero, Int.zero_add, Int.zero_mul, Int.toNat_zero]
        rw [Fw_out (q := q) (F := 2000000000) (m := m) (d := d - 1) (by omega)] at hi
        exact go _ hi.symm (by omega)
    have go75 : wpX11_roundLead_75 (fun y0 y1 y2 y3 y4 y5 y6 => wpX11_roundLead_51 k37 post (zI R) (zI C) f1 (j + 1) y0 y1 y2 y3 y4 y5 y6) k37 post (zI R) (zI C) f1 f (zI b) (zI (M - 1)) (zI (D - 1)) (zI m) (zI (Fw q 2000000000 (m - 1) (d - 1))) (zI d) (zI (Fw q 2000000000 (m - 1) d)) := by
      unfold wpX11_roundLead_75
      simp (disch := omega) only [zI_lit, zI_add, zI_sub, zI_mul, zI_neg, zI_le, zI_lt, zI_eq, zI_nat, zI_max, zI_min, zI_abs, forall_eq, Int.reduceNeg, Int.reduceAdd, Int.reduceMul, Int.reduceSub, Int.add_zero, Int.zero_add, Int.zero_mul, Int.toNat_zero]
      refine ⟨fun h => go91 (fun h' => h h'.1), fun h => ⟨fun h' => go91 (fun k => h' k.2), fun h' => go 0 ?_ (by omega)⟩⟩
      rw [h, h', Fw_zero]
    unfold wpX11_roundLead_51
    simp (disch := omega) only [zI_lit, zI_add, zI_sub, zI_mul, zI_neg, zI_le, zI_lt, zI_eq, zI_nat, zI_max, zI_min, zI_abs, forall_eq, Int.reduceNeg, Int.reduceAdd, Int.reduceMul, Int.reduceSub, Int.add_zero, Int.zero_add, Int.zero_mul, Int.toNat_zero]
    refine ⟨fun h => absurd h (by omega), fun _ => ⟨fun h => ⟨zI_in (by omega), ?_⟩, fun h => ?_⟩⟩
    · rw [b' h d (Int.le_refl _) (by omega)]
      exact go75
    · rw [Fw_out (q := q) (F := 2000000000) (m := m - 1) (d := d) (by omega)] at go75
      exact go75
theorem sr_rl37 {post : Int32 → ((Nat → Int32)) → Prop} {f1 : Nat → Int32} {R C b : Int} (hR : 1 ≤ R ∧ R ≤ 30) (hC : 1 ≤ C ∧ C ≤ 30) (hM : 1 ≤ M ∧ M ≤ R + 1) (hD : 1 ≤ D ∧ D ≤ C + 1) (hb : 0 ≤ b ∧ b < C)
    (hq : ∀ m d, 0 ≤ m → m < M → 0 ≤ d → d < D → 0 ≤ q m d ∧ q m d ≤ 2000000000)
    (hf : ∀ m d, 0 ≤ m → m < M → 0 ≤ d → d < D → f1 (30 * (if m < R then m else m - R) + (if b + d < C then b + d else b + d - C)).toNat = zI (q m d))
    (hp : ∀ f, post (zI (Fw q 2000000000 (M - 1) (D - 1))) f) :
    ∀ (j : Nat) (m : Int) (f : Nat → Int32), 0 ≤ m → m + j = M → (m ≠ 0 → ∀ d, 0 ≤ d → d < D → f d.toNat = zI (Fw q 2000000000 (m - 1) d)) → wpX11_roundLead_37 post (zI R) (zI C) f1 (j + 1) f (zI b) (zI (M - 1)) (zI (D - 1)) (zI m) := by
  intro j
  induction j with
  | zero =>
    intro m f h0 h1 a
    obtain rfl : m = M := by omega
    unfold wpX11_roundLead_37
    simp (disch := omega) only [zI_lit, zI_add, zI_sub, zI_mul, zI_neg, zI_le, zI_lt, zI_eq, zI_nat, zI_max, zI_min, zI_abs, forall_eq, Int.reduceNeg, Int.reduceAdd, Int.reduceMul, Int.reduceSub, Int.add_zero, Int.zero_add, Int.zero_mul, Int.toNat_zero]
    rw [a (by omega) (D - 1) (by omega) (by omega)]
    exact ⟨fun _ => ⟨zI_in (by omega), hp f⟩, fun h => absurd h (by omega)⟩
  | succ j ih =>
    intro m f h0 h1 a
    unfold wpX11_roundLead_37
    simp (disch := omega) only [zI_lit, zI_add, zI_sub, zI_mul, zI_neg, zI_le, zI_lt, zI_eq, zI_nat, zI_max, zI_min, zI_abs, forall_eq, Int.reduceNeg, Int.reduceAdd, Int.reduceMul, Int.reduceSub, Int.add_zero, Int.zero_add, Int.zero_mul, Int.toNat_zero]
    refine ⟨fun h => absurd h (by omega), fun _ => ⟨D.toNat + 1, ?_⟩⟩
    have := sr_rl51 (k37 := fun y0 y1 y2 y3 y4 => wpX11_roundLead_37 post (zI R) (zI C) f1 (j + 1) y0 y1 y2 y3 y4) (post := post) hR hC hM.2 hD ⟨h0, by omega⟩ hb hq hf (fun f hf => ih (m + 1) f (by omega) (by omega) (fun _ d c1 c2 => by rw [Int.add_sub_cancel]; exact hf d c1 c2)) D.toNat 0 f (by omega) (by omega) (fun d' c1 c2 => by omega) (fun hm0 d' c1 c2 => a hm0 d' c1 c2)
    rwa [Fw_out (q := q) (F := 2000000000) (m := m - 1) (d := 0 - 1) (by omega)] at this
end
section
variable {g : Gd} {S : Int → Int → Int → Int → Bool} {xs ys cs ws os v : Nat → Int32} {nw nl sz : Int32} {w o : Int}
theorem sr_roundLead {post : Int32 → ((Nat → Int32)) → Prop} {ff f : Nat → Int32} {b : Int} (hg : g.Ok) (hw : g.hw w) (ho : g.hw o) (hb : 0 ≤ b ∧ b < g.cn o) (hL : Laid2 (g.pr S 2000000000 w o) (g.cn o) (g.cn w) 0 ff)
    (hp : ∀ f, post (zI (g.rl2 S w o b)) f) : wpX11_roundLead post (zI (g.cn w)) (zI (g.cn o)) ff f (zI b) := by
  have e1 := hg.cn w hw.1 hw.2
  have e2 := hg.cn o ho.1 ho.2
  have r1 := rn_bd e1
  have r2 := rn_bd e2
  have h33 : ∀ x y : Int, x = rn (g.cn w) - 1 → y = rn (g.cn o) - 1 → wpX11_roundLead_33 post (zI (g.cn w)) (zI (g.cn o)) ff f (zI b) (zI x) (zI y) := by
    intro x y hx hy
    subst hx; subst hy
    refine ⟨(rn (g.cn w)).toNat + 1, sr_rl37 (q := g.rq S 2000000000 w o b) e1 e2 (by omega) (by omega) hb (fun m d c1 c2 c3 c4 => ?_) (fun m d c1 c2 c3 c4 => ?_) hp _ 0 f (by omega) (by omega) (fun h => absurd rfl h)⟩
    · exact (rq_agr (S := S) hg hw ho hb m d c1 c2 c3 c4).bd.2
    · have := rq_in hg hw ho hb ⟨c1, c2⟩ ⟨c3, c4⟩
      rw [Int.add_comm b d]
      exact hL _ _ this.1.1 this.2.1 this.2.2 (Or.inl this.1.2)
  have h16 : ∀ x : Int, x = rn (g.cn w) - 1 → wpX11_roundLead_16 post (zI (g.cn w)) (zI (g.cn o)) ff f (zI b) (zI x) := by
    intro x hx
    unfold wpX11_roundLead_16
    simp (disch := omega) only [zI_lit, zI_add, zI_sub, zI_mul, zI_neg, zI_le, zI_lt, zI_eq, zI_nat, zI_max, zI_min, zI_abs, forall_eq, Int.reduceNeg, Int.reduceAdd, Int.reduceMul, Int.reduceSub, Int.add_zero, Int.zero_add, Int.zero_mul, Int.toNat_zero]
    exact ⟨fun h => h33 _ _ hx (by unfold rn; rw [if_neg h]; omega), fun h => h33 _ _ hx (by unfold rn; rw [if_pos h]; omega)⟩
  unfold wpX11_roundLead
  simp (disch := omega) only [zI_lit, zI_add, zI_sub, zI_mul, zI_neg, zI_le, zI_lt, zI_eq, zI_nat, zI_max, zI_min, zI_abs, forall_eq, Int.reduceNeg, Int.reduceAdd, Int.reduceMul, Int.reduceSub, Int.add_zero, Int.zero_add, Int.zero_mul, Int.toNat_zero]
  exact ⟨fun h => h16 _ (by unfold rn; rw [if_neg h]; omega), fun h => h16 _ (by unfold rn; rw [if_pos h]; omega)⟩
theorem sr_ring53 {post : Int32 → (Int32 × Int32 × Int32 × (Nat → Int32) × (Nat → Int32) × (Nat → Int32)) → Prop} {ff f2 : Nat → Int32} {x1 th : Int32} (hg : g.Ok) (hw : g.hw w) (ho : g.hw o) (hL : Laid2 (g.pr S 2000000000 w o) (g.cn o) (g.cn w) 0 ff)
    (hp : ∀ z, z.1 = th → post (if x1 = 0 then zI (g.ringL S w o) else zI (g.ringB S w o)) z) :
    ∀ (j b : Nat) (f : Nat → Int32), (b : Int) + j = g.cn o → wpX11_ring_53 post v (j + 1) th (zI (g.cn w)) (zI (g.cn o)) f2 ff f x1 (zI (am (g.rl2 S w o) 2000000000 b).2) (zI (am (g.rl2 S w o) 2000000000 b).1) (zI b) := by
  have e1 := hg.cn w hw.1 hw.2
  have e2 := hg.cn o ho.1 ho.2
  have bd : ∀ b : Int, 0 ≤ b → b < g.cn o → 0 ≤ g.rl2 S w o b ∧ g.rl2 S w o b ≤ 2000000000 := fun b h0 h1 => (rl_agr hg hw ho ⟨h0, h1⟩).bd.2
  intro j
  induction j with
  | zero =>
    intro b f hb
    have ab := am_bd (F := 2000000000) (by omega) b (fun b' h0 h1 => bd b' h0 (by omega))
    have ag := am_agr (a := g.rl S w o) (c := g.rl2 S w o) b (fun b' h0 h1 => rl_agr hg hw ho ⟨h0, by omega⟩)
    have hp' := hp (th, zI (g.cn w), zI (g.cn o), f2, ff, f) rfl
    unfold Gd.ringL Gd.ringB at hp'
    rw [show (g.cn o).toNat = b by omega, ag.1.none, ag.2] at hp'
    unfold wpX11_ring_53
    rw [zI_le (by omega)]
    refine ⟨fun _ => ⟨fun h => ?_, fun h => ?_⟩, fun h => absurd h (by omega)⟩
    · rw [if_pos h] at hp'
      exact sr_orNone ab.1 hp'
    · rw [if_neg h] at hp'
      exact hp'
  | succ j ih =>
    intro b f hb
    have ab := am_bd (F := 2000000000) (by omega) b (fun b' h0 h1 => bd b' h0 (by omega))
    have bb := bd b (by omega) (by omega)
    unfold wpX11_ring_53
    rw [zI_le (by omega)]
    refine ⟨fun h => absurd h (by omega), fun _ => ?_⟩
    refine sr_roundLead hg hw ho (by omega) hL (fun f' => ?_)
    rw [zI_lt (by omega)]
    have e : am (g.rl2 S w o) 2000000000 (b + 1) = if g.rl2 S w o b < (am (g.rl2 S w o) 2000000000 b).1 then (g.rl2 S w o b, (b : Int)) else am (g.rl2 S w o) 2000000000 b := rfl
    have i := ih (b + 1) f' (by omega)
    rw [e] at i
    unfold wpX11_ring_88
    simp (disch := omega) only [zI_lit, zI_add, zI_sub, zI_mul, zI_neg, zI_le, zI_lt, zI_eq, zI_nat, zI_max, zI_min, zI_abs, forall_eq, Int.reduceNeg, Int.reduceAdd, Int.reduceMul, Int.reduceSub, Int.add_zero, Int.zero_add, Int.zero_mul, Int.toNat_zero]
    refine ⟨fun h => ?_, fun h => ?_⟩
    · rw [if_pos h] at i; exact i
    · rw [if_neg h] at i; exact i
theorem sr_ring {post : Int32 → (Int32 × Int32 × Int32 × (Nat → Int32) × (Nat → Int32) × (Nat → Int32)) → Prop} {th m0 d0 x1 : Int32} {f2 f3 f4 : Nat → Int32}
    (hg : g.Ok) (hv : WG g v) (hS : SH2 g S v) (hw : -2147483648 ≤ w ∧ w < 2147483648) (ho : -2147483648 ≤ o ∧ o < 2147483648)
    (hx : ¬ (g.hw w ∧ g.hw o) → ∀ r z, z.1 = 1 → post r z)
    (hp : g.hw w → g.hw o → ∀ z, z.1 = 0 → post (if x1 = 0 then zI (g.ringL S w o) else zI (g.ringB S w o)) z) : wpX11_ring post v th m0 d0 f2 f3 f4 (zI w) (zI o) x1 := by
  have c22 : ¬ (g.hw w ∧ g.hw o) → wpX11_ring_22 post v 0 m0 d0 f2 f3 f4 (zI w) (zI o) x1 := by
    intro h
    unfold wpX11_ring_22 wpX11_ring_27
    refine sr_throwsIf (fun h => absurd h (by decide)) (fun _ => ?_) (Or.inr rfl)
    exact ⟨fun h => absurd h (by decide), fun _ => hx h _ _ rfl⟩
  unfold wpX11_ring
  refine sr_noWay hg hv hw (fun h1 => ⟨fun h => absurd rfl h, fun _ => ?_⟩) (fun h1 => ⟨fun _ => c22 (fun h => h1 h.1), fun h => absurd h (by decide)⟩)
  refine sr_noWay hg hv ho (fun h2 => ⟨fun _ => ?_, fun h => absurd rfl h⟩) (fun h2 => ⟨fun h => absurd h (by decide), fun _ => c22 (fun h => h2 h.2)⟩)
  have e2 := hg.cn o h2.1 h2.2
  unfold wpX11_ring_27
  refine sr_throwsIf (fun _ => ⟨fun _ => ?_, fun h => absurd rfl h⟩) (fun h => absurd h (by decide)) (Or.inl rfl)
  refine sr_lays hg hv hS h1 h2 (fun ff sn hL => ?_)
  exact ⟨(g.cn o).toNat + 1, sr_ring53 hg h1 h2 hL (fun z hz => hp h1 h2 z hz) (g.cn o).toNat 0 f4 (by omega)⟩
end
