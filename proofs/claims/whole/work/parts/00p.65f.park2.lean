def Gd.tick (g : Gd) : Gd := (g.nw, g.cn, g.px, g.py, g.nl, g.wl, g.nt + 1)
theorem CG.cpy {g : Gd} {xs ys cs ws xs' ys' cs' ws' : Nat → Int32} {nw nl : Int32} (hg : g.Ok) (h : CG g xs ys cs ws nw nl) : CG g (va_cpy xs xs' 0 0 360) (va_cpy ys ys' 0 0 360) (va_cpy cs cs' 0 0 12) (va_cpy ws ws' 0 0 32) nw nl := by
  have h12 := hg.nw
  have h8 := hg.nl
  refine ⟨h.1, h.2.1, fun w a b => ?_, fun w c a b d e => ?_, fun w c a b d e => ?_, fun n j a b d e => ?_⟩
  · rw [cpy0 (by omega)]; exact h.cs w a b
  · have := hg.cn w a b; rw [cpy0 (by omega)]; exact h.xs w c a b d e
  · have := hg.cn w a b; rw [cpy0 (by omega)]; exact h.ys w c a b d e
  · rw [cpy0 (by omega)]; exact h.ws n j a b d e
section
variable {B : Nat → Int32} {N : Nat}
def PAll (B : Nat → Int32) (N : Nat) (g : Gd) (r : Bool × Nat × Gd) : Prop :=
  (∀ (post : GPost) (h b d v : Int32) (cs xs ys ws : Nat → Int32), CG g xs ys cs ws (zI g.nw) (zI g.nl) →
    (r.1 = true → ∀ cs' xs' ys' ws', CG r.2.2 xs' ys' cs' ws' (zI r.2.2.nw) (zI r.2.2.nl) → post 1 (zI r.2.2.nw, zI r.2.2.nl, cs', xs', ys', ws', tk B N r.2.1)) →
    (r.1 = false → ∀ a c cs' xs' ys' ws' b d v, post 0 (a, c, cs', xs', ys', ws', zI (r.2.1 : Int), b, d, v)) →
    wpX1_readText post (zI (N : Int)) B (zI g.nw) (zI g.nl) cs xs ys ws h b d v) ∧
  (∀ (post : RPost) (th pt en bg dp st : Int32) (v : Nat → Int32), WG g v →
    (r.1 = true → ∀ (x : Int32) q' bg' dp' st' v', 0 ≤ x → WG r.2.2 v' → Fp v v' → post x (0, 0, q', zI (N : Int), bg', dp', st', v')) →
    (r.1 = false → ∀ q' dp' st' v', Fp v v' → post (-1) (0, 0, q', zI (N : Int), zI (r.2.1 : Int), dp', st', v')) →
    wpX11_readAll post B th (zI (N : Int)) pt en bg dp st v 1) ∧
  (r.1 = true → r.2.2.Ok ∧ r.2.2.nt = g.nt)
theorem parkText (hN : N ≤ 400) {g : Gd} (hg : g.Ok) : ∃ r, PAll B N g r := by
  have hs := sk_le (B := B) (N := N) (p := 0) (by omega)
  have hss : sk B N (sk B N 0) = sk B N 0 := sk_sk (by omega)
  generalize hq : sk B N 0 = p at hs hss
  by_cases hE : p = N
  · refine ⟨(true, p, g), ?_, ?_, fun _ => ⟨hg, rfl⟩⟩
    · intro post h b d v cs xs ys ws hC h1 h0
      unfold wpX1_readText wpX8_toFirst
      refine sp_toNext (q := 0) hN (by omega) ?_
      rw [hq]
      exact sp_isOver hN hs.2 (fun z => absurd z (by omega)) (fun _ => ⟨fun z => absurd z (by decide), fun _ => h1 rfl _ _ _ _ hC⟩)
    · intro post th pt en bg dp st v hv h1 h0
      unfold wpX11_readAll wpX11_uses
      refine sr_blanks (p := 0) hN (by omega) ?_
      rw [hq, zN_eq (by omega)]
      exact ⟨fun z => absurd hE z, fun _ => h1 rfl 0 _ _ _ _ v (by decide) hv Fp.rf⟩
  · obtain ⟨t, hC, hR, hS⟩ := parkLoop (B := B) hN (N - p) p 0 g (by omega) hs.2 hss (by omega) hg
    refine ⟨t, ?_, ?_, hS⟩
    · intro post h b d v cs xs ys ws hCG h1 h0
      unfold wpX1_readText wpX8_toFirst
      refine sp_toNext (q := 0) hN (by omega) ?_
      rw [hq]
      refine sp_isOver hN hs.2 (fun _ => ⟨fun _ => ⟨N - p + 1, ?_⟩, fun z => absurd rfl z⟩) (fun z => absurd z hE)
      exact hC post (N - p) cs xs ys ws (Nat.le_refl _) hCG h1 h0
    · intro post th pt en bg dp st v hv h1 h0
      unfold wpX11_readAll wpX11_uses
      refine sr_blanks (p := 0) hN (by omega) ?_
      rw [hq, zN_eq (by omega)]
      refine ⟨fun _ => ⟨N - p + 1, ?_⟩, fun z => absurd z hE⟩
      exact hR post (N - p) p 0 0 _ _ _ v (Nat.le_refl _) hs.2 hss hv h1 h0
theorem sr_park92 {post : Int32 → (Int32 × Int32 × Int32 × Int32 × Int32 × Int32 × Int32 × Int32 × Int32 × (Nat → Int32) × (Nat → Int32)) → Prop} {f3 f2 V : Nat → Int32} {a0 a1 a2 a3 a4 a5 a6 a7 a8 : Int32} (hb : ∀ j, j < 1683 → f2 j = V j)
    (hp : ∀ v' : Nat → Int32, (∀ j, j < 1683 → v' j = V j) → post 0 (a0, a1, a2, a3, a4, a5, a6, a7, a8, v', f2)) :
    ∀ (k x : Nat) (f : Nat → Int32), x + k = 1683 → (∀ j, j < x → f j = V j) → wpX11_park_92 post f3 (k + 1) a0 a1 a2 a3 a4 a5 a6 a7 a8 f f2 (zI (x : Int)) := by
  intro k
  induction k with
  | zero =>
    intro x f e h1
    unfold wpX11_park_92
    rw [show (1683 : Int32) = zI ((1683 : Nat) : Int) from rfl, zN_le (by omega)]
    exact ⟨fun _ => hp f (fun j hj => h1 j (by omega)), fun z => absurd (show 1683 ≤ x by omega) z⟩
  | succ k ih =>
    intro x f e h1
    unfold wpX11_park_92
    rw [show (1683 : Int32) = zI ((1683 : Nat) : Int) from rfl, zN_le (by omega), zN (by omega), zS]
    refine ⟨fun z => absurd z (by omega), fun _ => ⟨zN_in (by omega), zN_in (by omega), fun v1 ev => ?_⟩⟩
    rw [ev]
    refine ih (x + 1) _ (by omega) (fun j hj => ?_)
    rw [upd_eq]
    by_cases ej : j = x
    · rw [if_pos ej, ← ej]; exact hb j (by omega)
    · rw [if_neg ej]; exact h1 j (by omega)
theorem sr_park_of {g : Gd} {r : Bool × Nat × Gd} {post : Int32 → (Int32 × Int32 × Int32 × Int32 × Int32 × Int32 × Int32 × Int32 × Int32 × (Nat → Int32) × (Nat → Int32)) → Prop} {v bf : Nat → Int32} {th re pt en bg dp fa st : Int32} (hg : g.Ok) (hv : WG g v) (hr : PAll B N g r)
    (h1 : r.1 = true → g.nt < 16 → ∀ q' bg' dp' st' v' bf', WG r.2.2.tick v' → (∀ j : Nat, j = 3 ∨ j = 4 ∨ j = 5 ∨ (7 ≤ j ∧ j < 14) ∨ (778 ≤ j ∧ j < 1683) → v' j = v j) → v' 6 = 0 → post (zI (g.nt + 1)) (0, 0, 0, q', zI (N : Int), bg', dp', -1, st', v', bf'))
    (h2 : r.1 = true → ¬ g.nt < 16 → ∀ q' bg' dp' st' v' bf', (∀ j, j < 1683 → v' j = v j) → post 0 (2, re, 0, q', zI (N : Int), bg', dp', -1, st', v', bf'))
    (h0 : r.1 = false → ∀ q' bg' dp' st' v' bf', (∀ j, j < 1683 → v' j = v j) → post 0 (1, re, 0, q', zI (N : Int), bg', dp', zI (r.2.1 : Int), st', v', bf')) :
    wpX11_park post B th re (zI (N : Int)) pt en bg dp fa st v bf := by
  obtain ⟨hC, hR, hS⟩ := hr
  have hnt := hg.nt
  have key : ∀ (k x : Nat) (b : Nat → Int32), x + k = 1683 → (∀ j, j < x → b j = v j) → wpX11_park_2 post B (k + 1) th re (zI (N : Int)) pt en bg dp fa st v b (zI (x : Int)) := by
    intro k
    induction k with
    | zero =>
      intro x b e hb
      have hb : ∀ j, j < 1683 → b j = v j := fun j hj => hb j (by omega)
      unfold wpX11_park_2
      rw [show (1683 : Int32) = zI ((1683 : Nat) : Int) from rfl, zN_le (by omega)]
      refine ⟨fun _ => ?_, fun z => absurd (show 1683 ≤ x by omega) z⟩
      refine hR _ th pt en bg dp st v hv (fun hr x' q' bg' dp' st' v' hx hv' hf' => ?_) (fun hr q' dp' st' v' hf' => ?_)
      · have gs := hS hr
        have e2 : v' (2 : Int32).toNatClampNeg = zI g.nt := by show v' 2 = _; rw [hv'.nt, gs.2]
        refine ⟨fun _ => ?_, fun z => absurd hx z⟩
        unfold wpX11_park_46 wpX11_park_59 wpX11_throwsIf
        refine ⟨fun _ => ⟨fun _ => ⟨Or.inl rfl, ⟨fun z => absurd rfl z, fun _ => ⟨vin (by decide), ?_⟩⟩⟩, fun z => absurd rfl z⟩, fun z => absurd hx z⟩
        dsimp only
        rw [e2, show (16 : Int32) = zI 16 from rfl, zI_eq (by omega)]
        refine ⟨fun hne => ?_, fun heq => ?_⟩
        · unfold wpX11_park_83 wpX11_throwsIf
          rw [e2]
          refine ⟨fun _ => ⟨Or.inl rfl, ⟨fun _ => ⟨vin (by decide), vin (by decide), ?_⟩, fun z => absurd rfl z⟩⟩, fun z => absurd rfl z⟩
          unfold wpX11_endsWalk
          refine ⟨vin (by decide), vin (by decide), ?_⟩
          have e3 : upd (upd v' (2 : Int32).toNatClampNeg (zI g.nt + 1)) (6 : Int32).toNatClampNeg 0 (2 : Int32).toNatClampNeg = zI (g.nt + 1) := by
            show upd (upd v' 2 (zI g.nt + 1)) 6 0 2 = _
            rw [upd_eq, upd_eq, if_neg (by decide), if_pos rfl]; exact zI_add _ 1
          have e4 : zI g.nt + 1 = zI (g.nt + 1) := zI_add _ 1
          show post (upd (upd v' (2 : Int32).toNatClampNeg (zI g.nt + 1)) (6 : Int32).toNatClampNeg 0 (2 : Int32).toNatClampNeg) _
          rw [e3]
          refine h1 hr (by omega) _ _ _ _ (upd (upd v' 2 (zI g.nt + 1)) 6 0) _ ?_ (fun j hj => ?_) ?_
          · rw [e4]
            have h12 := gs.1.nw
            have h8 := gs.1.nl
            refine ⟨?_, ?_, ?_, fun w a b => ?_, fun w c a b d e => ?_, fun w c a b d e => ?_, fun n j a b d e => ?_⟩
            · rw [upd_eq, upd_eq, if_neg (by decide), if_neg (by decide)]; exact hv'.nw
            · rw [upd_eq, upd_eq, if_neg (by decide), if_neg (by decide)]; exact hv'.nl
            · rw [upd_eq, upd_eq, if_neg (by decide), if_pos rfl, ← gs.2]; rfl
            · have b : w < r.2.2.nw := b
              rw [upd_eq, upd_eq, if_neg (by omega), if_neg (by omega)]; exact hv'.cs w a b
            · have b : w < r.2.2.nw := b
              rw [upd_eq, upd_eq, if_neg (by omega), if_neg (by omega)]; exact hv'.xs w c a b d e
            · have b : w < r.2.2.nw := b
              rw [upd_eq, upd_eq, if_neg (by omega), if_neg (by omega)]; exact hv'.ys w c a b d e
            · have b : n < r.2.2.nl := b
              rw [upd_eq, upd_eq, if_neg (by omega), if_neg (by omega)]; exact hv'.ws n j a b d e
          · rw [upd_eq, upd_eq, if_neg (by omega), if_neg (by omega)]; exact hf' j (by omega)
          · rw [upd_eq, if_pos rfl]
        · unfold wpX11_park_83 wpX11_throwsIf
          refine ⟨fun z => absurd z (by decide), fun _ => ⟨Or.inr rfl, ⟨fun z => absurd z (by decide), fun _ => ⟨1683 + 1, ?_⟩⟩⟩⟩
          exact sr_park92 (V := v) hb (fun v2 hv2 => h2 hr (by omega) _ _ _ _ _ _ hv2) 1683 0 _ (by omega) (fun j hj => absurd hj (Nat.not_lt_zero j))
      · refine ⟨fun z => absurd z (by decide), fun _ => ?_⟩
        unfold wpX11_park_46 wpX11_park_59 wpX11_throwsIf
        refine ⟨fun z => absurd z (by decide), fun _ => ⟨fun z => absurd z (by decide), fun _ => ⟨Or.inr rfl, ⟨fun _ => ⟨1683 + 1, ?_⟩, fun z => absurd z (by decide)⟩⟩⟩⟩
        exact sr_park92 (V := v) hb (fun v2 hv2 => h0 hr _ _ _ _ _ _ hv2) 1683 0 _ (by omega) (fun j hj => absurd hj (Nat.not_lt_zero j))
    | succ k ih =>
      intro x b e hb
      unfold wpX11_park_2
      rw [show (1683 : Int32) = zI ((1683 : Nat) : Int) from rfl, zN_le (by omega), zN (by omega), zS]
      refine ⟨fun z => absurd z (by omega), fun _ => ⟨zN_in (by omega), zN_in (by omega), fun v1 ev => ?_⟩⟩
      rw [ev]
      refine ih (x + 1) _ (by omega) (fun j hj => ?_)
      rw [upd_eq]
      by_cases ej : j = x
      · rw [if_pos ej, ← ej]
      · rw [if_neg ej]; exact hb j (by omega)
  exact ⟨1683 + 1, key 1683 0 bf (by omega) (fun j hj => absurd hj (Nat.not_lt_zero j))⟩
theorem sp_park_of {g : Gd} {r : Bool × Nat × Gd} {post : Int32 → (Int32 × Int32 × Int32 × Int32 × (Nat → Int32) × (Nat → Int32) × (Nat → Int32) × (Nat → Int32) × Int32 × Int32 × Int32 × Int32 × (Nat → Int32) × (Nat → Int32) × (Nat → Int32) × (Nat → Int32) × Int32 × Int32 × Int32 × Int32 × Int32) → Prop} {postX : String → (Int32 × Int32 × Int32 × Int32 × (Nat → Int32) × (Nat → Int32) × (Nat → Int32) × (Nat → Int32) × Int32 × Int32 × Int32 × Int32 × (Nat → Int32) × (Nat → Int32) × (Nat → Int32) × (Nat → Int32) × Int32 × Int32 × Int32 × Int32 × Int32) → Prop} {xs ys cs ws f9 f10 f11 f12 : Nat → Int32} {wb uw g8a g8b g8c th tb td tv : Int32} (hg : g.Ok) (hc : CG g xs ys cs ws (zI g.nw) (zI g.nl)) (hr : PAll B N g r)
    (h1 : r.1 = true → g.nt < 16 → ∀ xs' ys' cs' ws' da db dc dx dy dcs dw t1 t2 t3 t4, CG r.2.2 xs' ys' cs' ws' (zI r.2.2.nw) (zI r.2.2.nl) → post (zI (g.nt + 1)) (-1, zI r.2.2.nw, zI r.2.2.nl, zI (g.nt + 1), xs', ys', cs', ws', 0, da, db, dc, dx, dy, dcs, dw, 0, t1, t2, t3, t4))
    (h2 : r.1 = true → ¬ g.nt < 16 → ∀ da db dc dx dy dcs dw t1 t2 t3 t4, postX "java/lang/UnsupportedOperationException" (-1, zI g.nw, zI g.nl, zI g.nt, xs, ys, cs, ws, uw, da, db, dc, dx, dy, dcs, dw, 0, t1, t2, t3, t4))
    (h0 : r.1 = false → ∀ da db dc dx dy dcs dw t1 t2 t3 t4, postX "java/lang/IllegalArgumentException" (zI (r.2.1 : Int), zI g.nw, zI g.nl, zI g.nt, xs, ys, cs, ws, uw, da, db, dc, dx, dy, dcs, dw, 0, t1, t2, t3, t4)) :
    wpX10_park post postX B wb (zI g.nw) (zI g.nl) (zI g.nt) xs ys cs ws uw g8a g8b g8c f9 f10 f11 f12 (zI (N : Int)) th tb td tv := by
  obtain ⟨hC, hR, hS⟩ := hr
  have hnt := hg.nt
  unfold wpX10_park wpX1_copyFrom
  refine hC _ th tb td tv _ _ _ _ (hc.cpy hg) (fun hr cs' xs' ys' ws' hC' => ?_) (fun hr a c cs' xs' ys' ws' b d v => ?_)
  · have gs := hS hr
    unfold wpX10_useUpText wpX10_useUpText_16
    refine ⟨fun z => absurd z (by decide), fun _ => ⟨fun _ => ?_, fun z => absurd z (by decide)⟩⟩
    rw [show (16 : Int32) = zI 16 from rfl, zI_lt (by omega)]
    refine ⟨fun hlt v5 e5 => ?_, fun hge => h2 hr hge _ _ _ _ _ _ _ _ _ _ _⟩
    have e6 : v5 = zI (g.nt + 1) := by rw [e5]; exact zI_add _ 1
    rw [e6]
    exact h1 hr hlt _ _ _ _ _ _ _ _ _ _ _ _ _ _ _ (hC'.cpy gs.1)
  · unfold wpX10_useUpText wpX10_useUpText_16
    exact ⟨fun _ => ⟨fun z => absurd rfl z, fun _ => h0 hr _ _ _ _ _ _ _ _ _ _ _⟩, fun z => absurd rfl z⟩
end
