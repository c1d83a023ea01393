theorem scene_copy {G : tX1} {os w w' tk tk' e1 e2 e3 e4 eo f1 f2 f3 f4 st ga : Nat → Int32} {sz ln sd rm : Int32} {M : tX3} {s : tX7} (h : SceneR G os sz ln M s sd w tk rm) (hf : ∀ j : Nat, j < 1683 → w' j = w j) :
    SceneR (va_cpy G.1 e1 0 0 360, va_cpy G.2.1 e2 0 0 360, va_cpy G.2.2.1 e3 0 0 12, va_cpy G.2.2.2.1 e4 0 0 32, G.2.2.2.2) (va_cpy os eo 0 0 400) sz ln (va_cpy M.1 f1 0 0 20, va_cpy M.2.1 f2 0 0 20, va_cpy M.2.2.1 f3 0 0 20, va_cpy M.2.2.2.1 f4 0 0 20, M.2.2.2.2) (s.1, s.2.1, s.2.2.1, s.2.2.2.1, s.2.2.2.2.1, s.2.2.2.2.2.1, s.2.2.2.2.2.2.1, s.2.2.2.2.2.2.2.1, 0, st, ga) sd w' tk' 0 := by
  obtain ⟨g, k, Ls, ⟨hg, hc, hnt, hv⟩, ⟨⟨l, q1, q2, q3, q4⟩, hlh, hll⟩, ⟨hmk, hcm, hwm⟩, hsd, hst⟩ := h
  refine ⟨g, k, Ls, ⟨hg, hc.cpy hg, hnt, hv.fr hg (fun j hj => hf j (by omega))⟩, LawS.fr (w := w) ⟨⟨l, q1, q2, fun j hj => ?_, q4⟩, hlh, hll⟩ (fun j hj => hf j (by omega)), ⟨hmk, ⟨hcm.1, fun a h0 h1 => ?_⟩, hwm.fr hmk (fun j hj => hf j (by omega))⟩, hsd.trans (hf 5 (by omega)).symm, ?_⟩
  · rw [cpy0 (by omega)]; exact q3 j hj
  · have h20 := hmk.1
    obtain ⟨r1, r2, r3, r4⟩ := hcm.2 a h0 h1
    exact ⟨(cpy0 (by omega)).trans r1, (cpy0 (by omega)).trans r2, (cpy0 (by omega)).trans r3, (cpy0 (by omega)).trans r4⟩
  · rcases hst with ⟨h1, h2, h3⟩ | ⟨h1, a, b, l, z, hl, hz, hW, hs, hr, hd⟩
    · exact Or.inl ⟨h1, (hf 6 (by omega)).trans h2, rfl⟩
    · subst hs
      obtain ⟨_, _, _, ⟨k6, k7, k8, k9, k10, k11, k12⟩, k13, k5, _⟩ := hW
      exact Or.inr ⟨rfl, a, b, l, ((z.m, z.d, z.n, z.gr, 0, st, ga, z.sd) : Lv), hl, ⟨hz.1, hz.2.1, hz.2.2.1, (show (0 : Int) ≤ 0 from by decide), (show (0 : Int) ≤ 40 from by decide)⟩, ⟨Fx.rf _, rfl, fun _ _ => rfl, ⟨(hf 6 (by omega)).trans k6, (hf 7 (by omega)).trans k7, (hf 8 (by omega)).trans k8, (hf 9 (by omega)).trans k9, (hf 10 (by omega)).trans k10, (hf 11 (by omega)).trans k11, (hf 12 (by omega)).trans k12⟩, (hf 13 (by omega)).trans k13, (hf 5 (by omega)).trans k5, Rem.none hz.1 hz.2.1 hz.2.2.1⟩, rfl, rfl, hd⟩
theorem scene_uw {G : tX1} {os w tk : Nat → Int32} {sz ln sd rm : Int32} {M : tX3} {s : tX7} (h : SceneR G os sz ln M s sd w tk rm) : s.1 = 0 ∨ s.1 = 1 := by
  obtain ⟨g, k, Ls, _, _, _, _, hst⟩ := h
  rcases hst with ⟨h1, _⟩ | ⟨h1, _⟩
  · exact Or.inl h1
  · exact Or.inr h1
theorem sr_image7 {post : (Int32 × Int32 × (Nat → Int32)) → Prop} {V : Nat → Int32} {t h : Int32} (hp : ∀ f' : Nat → Int32, (∀ j, j < 1683 → f' j = V j) → post (t, 1, f')) :
    ∀ (k x : Nat) (f : Nat → Int32), x + k = 1683 → (∀ j, j < x → f j = V j) → wpX11_image_7 post V (k + 1) t h f (zI (x : Int)) := by
  intro k
  induction k with
  | zero =>
    intro x f e h1
    unfold wpX11_image_7
    rw [show (1683 : Int32) = zI ((1683 : Nat) : Int) from rfl, zN_le (by omega)]
    exact ⟨fun _ => hp f (fun j hj => h1 j (by omega)), fun z => absurd (show 1683 ≤ x by omega) z⟩
  | succ k ih =>
    intro x f e h1
    unfold wpX11_image_7
    rw [show (1683 : Int32) = zI ((1683 : Nat) : Int) from rfl, zN_le (by omega), zN (by omega), zS]
    refine ⟨fun z => absurd z (by omega), fun _ => ⟨zN_in (by omega), zN_in (by omega), fun v1 ev => ?_⟩⟩
    rw [ev]
    refine ih (x + 1) _ (by omega) (fun j hj => ?_)
    rw [upd_eq]
    by_cases ej : j = x
    · rw [if_pos ej, ← ej]
    · rw [if_neg ej]; exact h1 j (by omega)
theorem sr_again16 {post : Int32 → (Int32 × Int32 × (Nat → Int32)) → Prop} {V : Nat → Int32} {t h r : Int32} (hp : ∀ f' : Nat → Int32, (∀ j, j < 1683 → f' j = V j) → post 1 (t, 0, f')) :
    ∀ (k x : Nat) (f : Nat → Int32), x + k = 1683 → (∀ j, j < x → f j = V j) → wpX11_again_16 post h V (k + 1) t r f (zI (x : Int)) := by
  intro k
  induction k with
  | zero =>
    intro x f e h1
    unfold wpX11_again_16
    rw [show (1683 : Int32) = zI ((1683 : Nat) : Int) from rfl, zN_le (by omega)]
    exact ⟨fun _ => hp f (fun j hj => h1 j (by omega)), fun z => absurd (show 1683 ≤ x by omega) z⟩
  | succ k ih =>
    intro x f e h1
    unfold wpX11_again_16
    rw [show (1683 : Int32) = zI ((1683 : Nat) : Int) from rfl, zN_le (by omega), zN (by omega), zS]
    refine ⟨fun z => absurd z (by omega), fun _ => ⟨zN_in (by omega), zN_in (by omega), fun v1 ev => ?_⟩⟩
    rw [ev]
    refine ih (x + 1) _ (by omega) (fun j hj => ?_)
    rw [upd_eq]
    by_cases ej : j = x
    · rw [if_pos ej, ← ej]
    · rw [if_neg ej]; exact h1 j (by omega)
theorem case_image : caseOk Inv wpL_2296 := by
  intro L xs kk u v o i hL hi hI hk
  obtain ⟨ht, hsc, hwb, himg⟩ := id hI
  unfold wpL_2296 wpX10_image wpX6_copyFrom wpX1_copyFrom wpX2_copyFrom wpX3_copyFrom wpX7_copyFrom wpX11_image
  refine ⟨scene_uw hsc, 1683 + 1, ?_⟩
  refine sr_image7 (fun f' hf' => ?_) 1683 0 _ (by omega) (fun j hj => absurd hj (Nat.not_lt_zero j))
  exact tl_6 (hk _ _ _ ⟨ht, hsc, hwb, Or.inr ⟨rfl, rfl, v.2.2.2.2.2.1, scene_copy hsc hf'⟩⟩)
theorem case_again : caseOk Inv wpL_2307 := by
  intro L xs kk u v o i hL hi hI hk
  obtain ⟨ht, hsc, hwb, himg⟩ := id hI
  unfold wpL_2307 wpX10_again wpX6_copyFrom wpX1_copyFrom wpX2_copyFrom wpX3_copyFrom wpX7_copyFrom wpX11_again
  rcases himg with ⟨h1, h2⟩ | ⟨h1, h2, tk', hs'⟩
  · exact ⟨fun z => absurd h1 z, fun _ => ⟨fun z => absurd h2 z, fun _ => tl_eq rfl (tl_6 (hk _ _ _ hI))⟩⟩
  · refine ⟨fun _ => ⟨scene_uw hs', fun _ => ⟨1683 + 1, ?_⟩, fun z => absurd (h2.symm.trans z) (by decide)⟩, fun z => absurd (h1.symm.trans z) (by decide)⟩
    refine sr_again16 (fun f' hf' => ?_) 1683 0 _ (by omega) (fun j hj => absurd hj (Nat.not_lt_zero j))
    exact tl_eq rfl (tl_6 (hk _ _ _ ⟨ht, scene_copy hs' hf', hwb, Or.inr ⟨h1, h2, tk', hs'⟩⟩))
def Gd.tot (g : Gd) : Nat → Int32
  | 0 => 0
  | n + 1 => g.tot n + zI (g.cn (n : Int))
theorem sp_all {g : Gd} {post : Int32 → Unit → Prop} {cs : Nat → Int32} (hg : g.Ok) (hc : ∀ w : Int, 0 ≤ w → w < g.nw → cs w.toNat = zI (g.cn w)) (hp : post (g.tot g.nw.toNat) ()) :
    ∀ k j : Nat, j + k = g.nw.toNat → wpX1_allCorners_4 post (zI g.nw) cs (k + 1) (g.tot j) (zI (j : Int)) := by
  have h12 := hg.nw
  intro k
  induction k with
  | zero =>
    intro j e
    unfold wpX1_allCorners_4
    rw [zI_le (by omega)]
    have e : j = g.nw.toNat := by omega
    exact ⟨fun _ => by rw [e]; exact hp, fun z => absurd (show g.nw ≤ (j : Int) by omega) z⟩
  | succ k ih =>
    intro j e
    unfold wpX1_allCorners_4
    rw [zI_le (by omega), zN (by omega), zS]
    refine ⟨fun z => absurd z (by omega), fun _ => ⟨zN_in (by omega), fun v1 e1 v2 e2 => ?_⟩⟩
    have ec : cs j = zI (g.cn (j : Int)) := by
      have := hc (j : Int) (by omega) (by omega)
      rw [show ((j : Int)).toNat = j by omega] at this
      exact this
    rw [e1, e2, ec]
    exact ih (j + 1) (by omega)
theorem sr_all {g : Gd} {post : Int32 → Int32 → Prop} {v : Nat → Int32} {t : Int32} (hg : g.Ok) (hv : WG g v) (hp : post (g.tot g.nw.toNat) t) :
    ∀ k j : Nat, j + k = g.nw.toNat → wpX11_count_61 post v (k + 1) t (g.tot j) (zI (j : Int)) := by
  have h12 := hg.nw
  intro k
  induction k with
  | zero =>
    intro j e
    unfold wpX11_count_61
    refine sr_ways hv ?_
    rw [zI_le (by omega)]
    have e : j = g.nw.toNat := by omega
    exact ⟨fun _ => by rw [e]; exact hp, fun z => absurd (show g.nw ≤ (j : Int) by omega) z⟩
  | succ k ih =>
    intro j e
    unfold wpX11_count_61
    refine sr_ways hv ?_
    rw [zI_le (by omega)]
    refine ⟨fun z => absurd z (by omega), fun _ => ?_⟩
    refine sr_cornersOf hg hv ⟨by omega, by omega⟩ (fun v5 e5 v6 e6 => ?_)
    rw [e5, e6, zS]
    exact ih (j + 1) (by omega)
theorem case_count : caseOk Inv wpL_2320 := by
  intro L xs kk u v o i hL hi hI hk
  have i1 : vp_in (nI i + 1) L := nI_p hi hL (j := 1) (by decide)
  obtain ⟨ht, ⟨g, k, Ls, ⟨hg, hc, hnt, hv⟩, ⟨hlc, hlh, hll⟩, ⟨hmk, hcm, hwm⟩, hsd, hst⟩, hwb, himg⟩ := id hI
  obtain ⟨a, ea, ha⟩ := zI_of (xs (nI i + 1).toNatClampNeg)
  have h12 := hg.nw
  have fin : ∀ {x y : Int32} {T : Prop}, x = y → T → (x = y → T) ∧ (¬ x = y → False) := fun h t => ⟨fun _ => t, fun z => absurd h z⟩
  unfold wpL_2320 wpX10_count wpX11_count
  rw [ea]
  refine ⟨i1, ?_⟩
  by_cases c0 : a = 0
  · subst c0
    refine ⟨fun _ => ⟨i1, fun z => absurd z (by decide), fun z => absurd z (by decide), fun _ => ?_⟩, fun z => absurd z (by decide), fun z => absurd z (by decide), fun z => absurd z (by decide), fun z => absurd z (by decide), fun z => absurd z (by decide), fun z => absurd (by decide) z⟩
    refine sr_in (m := 0) (o := 4) ha (by omega) (by omega) (fun _ => ⟨fun z => absurd z (by decide), fun _ => ⟨vin (by decide), ?_⟩⟩) (fun z => absurd ⟨by omega, by omega⟩ z)
    exact fin (hc.nw.trans hv.nw.symm) (tl_6 (hk _ _ _ hI))
  by_cases c1 : a = 1
  · subst c1
    refine ⟨fun z => absurd z (by decide), fun _ => ⟨i1, fun z => absurd z (by decide), fun z => absurd z (by decide), fun _ => ?_⟩, fun z => absurd z (by decide), fun z => absurd z (by decide), fun z => absurd z (by decide), fun z => absurd z (by decide), fun z => absurd (by decide) z⟩
    refine sr_in (m := 0) (o := 4) ha (by omega) (by omega) (fun _ => ⟨fun z => absurd z (by decide), fun _ => ⟨vin (by decide), ?_⟩⟩) (fun z => absurd ⟨by omega, by omega⟩ z)
    exact fin (hc.nl.trans hv.nl.symm) (tl_6 (hk _ _ _ hI))
  by_cases c2 : a = 2
  · subst c2
    refine ⟨fun z => absurd z (by decide), fun z => absurd z (by decide), fun _ => ⟨i1, fun z => absurd z (by decide), fun z => absurd z (by decide), fun _ => ?_⟩, fun z => absurd z (by decide), fun z => absurd z (by decide), fun z => absurd z (by decide), fun z => absurd (by decide) z⟩
    refine sr_in (m := 0) (o := 4) ha (by omega) (by omega) (fun _ => ⟨fun z => absurd z (by decide), fun _ => ⟨vin (by decide), ?_⟩⟩) (fun z => absurd ⟨by omega, by omega⟩ z)
    exact fin (hnt.trans hv.nt.symm) (tl_6 (hk _ _ _ hI))
  by_cases c3 : a = 3
  · subst c3
    refine ⟨fun z => absurd z (by decide), fun z => absurd z (by decide), fun z => absurd z (by decide), fun _ => ⟨i1, fun _ => ⟨vin (by decide), ?_⟩, fun z => absurd z (by decide), fun z => absurd (by decide) z⟩, fun z => absurd z (by decide), fun z => absurd z (by decide), fun z => absurd (by decide) z⟩
    rcases hll with ⟨w3, el⟩ | ⟨w3, el⟩
    · rcases hlh with ⟨_, hR⟩ | ⟨w3', _⟩
      · exact ⟨fun z => absurd w3 z, fun _ => ⟨vin (by decide), fin (el.trans hR.1.symm) (tl_6 (hk _ _ _ hI))⟩⟩
      · exact absurd (w3.symm.trans w3') (by decide)
    · exact ⟨fun _ => fin el (tl_6 (hk _ _ _ hI)), fun z => absurd (w3.symm.trans z) (by decide)⟩
  by_cases c4 : a = 4
  · subst c4
    refine ⟨fun z => absurd z (by decide), fun z => absurd z (by decide), fun z => absurd z (by decide), fun z => absurd z (by decide), fun _ => ⟨i1, fun z => absurd z (by decide), fun z => absurd z (by decide), fun _ => ?_⟩, fun z => absurd z (by decide), fun z => absurd (by decide) z⟩
    refine sr_in (m := 0) (o := 4) ha (by omega) (by omega) (fun _ => ⟨fun z => absurd z (by decide), fun _ => ⟨vin (by decide), ?_⟩⟩) (fun z => absurd ⟨by omega, by omega⟩ z)
    exact fin (hcm.1.trans hwm.1.symm) (tl_6 (hk _ _ _ hI))
  by_cases c5 : a = 5
  · subst c5
    refine ⟨fun z => absurd z (by decide), fun z => absurd z (by decide), fun z => absurd z (by decide), fun z => absurd z (by decide), fun z => absurd z (by decide), fun _ => ?_, fun z => absurd (by decide) z⟩
    unfold wpX1_allCorners
    refine ⟨g.nw.toNat + 1, ?_⟩
    rw [show u.2.1.1.2.2.2.2.1 = zI g.nw from hc.nw]
    refine sp_all hg hc.cs ?_ g.nw.toNat 0 (by omega)
    refine ⟨i1, fun z => absurd z (by decide), fun _ => ⟨g.nw.toNat + 1, ?_⟩, fun z => absurd (by decide) z⟩
    refine sr_all hg hv ?_ g.nw.toNat 0 (by omega)
    exact fin rfl (tl_6 (hk _ _ _ hI))
  · have ne : ∀ c : Int, 0 ≤ c ∧ c ≤ 5 → a ≠ c → ¬ zI a = zI c := fun c h h' z => by
      rw [zI_eq (by omega)] at z
      exact h' z
    refine ⟨fun z => absurd z (ne 0 (by omega) c0), fun z => absurd z (ne 1 (by omega) c1), fun z => absurd z (ne 2 (by omega) c2), fun z => absurd z (ne 3 (by omega) c3), fun z => absurd z (ne 4 (by omega) c4), fun z => absurd z (ne 5 (by omega) c5), fun _ => ⟨i1, fun z => absurd z (ne 3 (by omega) c3), fun z => absurd z (ne 5 (by omega) c5), fun _ => ?_⟩⟩
    refine sr_in (m := 0) (o := 4) ha (by omega) (by omega) (fun z => absurd z (by omega)) (fun _ => ⟨fun _ => ?_, fun z => absurd rfl z⟩)
    exact fin rfl (tl_6 (hk _ _ _ hI))
