theorem scene_walk {g : Gd} {k : Mk} {Ls : List Ln} {G : tX1} {os w w' tk : Nat → Int32} {sz ln : Int32} {M : tX3} {a b l : Int} {z : Lv} (hgr : GrR g G w) (hla : LawS Ls os sz ln w) (hmk : MkR k M w) (hl : -2147483648 ≤ l ∧ l < 2147483648) (hz : LvOk g a b z) (hW : WkR g a b l w w' z tk) :
    SceneR G os sz ln M (1, zI a, zI b, zI l, zI z.m, zI z.d, zI z.n, z.gr, zI z.r, z.st, z.ga) z.sd w' tk (zI z.r) := by
  obtain ⟨hf, h4, h7, hR⟩ := hW
  refine ⟨g, k, Ls, hgr.fr hf, hla.fr (fun j hj => hf j (by omega)), ⟨hmk.1, hmk.2.1, hmk.2.2.fr hmk.1 (fun j hj => ?_)⟩, hR.2.2.1.symm, Or.inr ⟨rfl, a, b, l, z, hl, hz, ⟨Fx.rf _, rfl, fun _ _ => rfl, hR⟩, rfl, rfl, rfl⟩⟩
  rcases hj with h | h
  · rw [h]; exact h4
  · exact h7 j h.1
theorem hc_0 {g : Gd} {w : Int} (hg : g.Ok) (h : g.hw w) : g.hc w 0 := by
  have h' := hg.cn w h.1 h.2
  exact ⟨h, by omega, by omega⟩
theorem case_begin : caseOk Inv wpL_2003 := by
  intro L xs kk u v o i hL hi hI hk
  have i1 : vp_in (nI i + 1) L := nI_p hi hL (j := 1) (by decide)
  have i2 : vp_in (nI i + 2) L := nI_p hi hL (j := 2) (by decide)
  have i3 : vp_in (nI i + 3) L := nI_p hi hL (j := 3) (by decide)
  obtain ⟨ht, ⟨g, k, Ls, ⟨hg, hc, hnt, hv⟩, hla, hmk, hsd, hst⟩, hwb, himg⟩ := id hI
  have hS1 := sh1_of hg hc hla.1
  have hS2 := shr_of hg hv hla.2.1
  obtain ⟨a, ea, ha⟩ := zI_of (xs (nI i + 1).toNatClampNeg)
  obtain ⟨b, eb, hb⟩ := zI_of (xs (nI i + 2).toNatClampNeg)
  obtain ⟨c, ec, hcc⟩ := zI_of (xs (nI i + 3).toNatClampNeg)
  unfold wpL_2003 wpL_begin
  rw [ea, eb, ec]
  refine ⟨i1, i2, i3, ?_⟩
  refine sp_begin hg hc hS1 ha hb hcc (fun h sn => ⟨fun _ => ⟨i1, i2, i3, ?_⟩, fun z => absurd z (by decide), Or.inl rfl⟩) (fun h1 h2 h3 sn => ⟨fun z => absurd z (by decide), fun _ => ⟨i1, i2, i3, ?_⟩, Or.inr rfl⟩) (fun h1 h2 h3 h4 sn => ⟨fun z => absurd z (by decide), fun _ => ⟨vin (by decide), i1, i2, i3, ?_⟩⟩) (fun h1 h2 h3 h4 sn => ⟨fun _ => ⟨vin (by decide), i1, i2, i3, ?_⟩, fun z => absurd rfl z⟩)
  · exact sr_begin hg hv hS2 ha hb hcc (fun _ r sn => tl_thr rfl (by decide) (tl_6 (hk _ _ _ hI))) (fun z1 z2 => absurd ⟨z1, z2⟩ h) (fun z1 z2 => absurd ⟨z1, z2⟩ h) (fun z1 z2 => absurd ⟨z1, z2⟩ h)
  · exact sr_begin hg hv hS2 ha hb hcc (fun z => absurd ⟨h1, h2⟩ z) (fun _ _ _ r sn => tl_thr rfl (by decide) (tl_6 (hk _ _ _ hI))) (fun _ _ z => absurd z (by omega)) (fun _ _ z => absurd z (by omega))
  · refine sr_begin hg hv hS2 ha hb hcc (fun z => absurd ⟨h1, h2⟩ z) (fun _ _ z => absurd z (by omega)) (fun _ _ _ _ v' sn' hf q4 q5 q6 q7 q8 q9 q10 q11 q12 q13 q7' => ?_) (fun _ _ _ z => absurd h4 z)
    have hR : SceneR _ _ _ _ _ _ _ v' _ _ := scene_walk (z := ((0, 0, 0, zI (g.far a 0 b 0), 0, u.2.1.2.2.2.1.2.2.2.2.2.2.2.2.2.1, u.2.1.2.2.2.1.2.2.2.2.2.2.2.2.2.2, u.2.1.2.2.2.2) : Lv)) (tk := v.2.2.2.2.2.1) (a := a) (b := b) (l := c) ⟨hg, hc, hnt, hv⟩ hla hmk hcc ⟨hc_0 hg h1, hc_0 hg h2, (show (0 : Int) ≤ 0 ∧ (0 : Int) ≤ 0 + 0 from by decide), (show (0 : Int) ≤ 0 from by decide), (show (0 : Int) ≤ 40 from by decide)⟩ ⟨hf, q4, q7', ⟨q6, q7, q8, q9, q10, q11, q12⟩, q13, q5.trans hsd.symm, Rem.none (hc_0 hg h1) (hc_0 hg h2) (show (0 : Int) ≤ 0 ∧ (0 : Int) ≤ 0 + 0 from by decide)⟩
    exact tl_bool (x := 0) rfl (fun q => absurd q (by decide)) (fun _ => lgs o _) (tl_6 (hk _ _ _ ⟨ht, hR, hwb, himg⟩)) (tl_6 (hk _ _ _ ⟨ht, hR, hwb, himg⟩))
  · refine sr_begin hg hv hS2 ha hb hcc (fun z => absurd ⟨h1, h2⟩ z) (fun _ _ z => absurd z (by omega)) (fun _ _ _ z => absurd z h4) (fun _ _ _ _ sn' => ?_)
    exact tl_bool (x := 0) rfl (fun _ => lgs o _) (fun q => absurd rfl q) (tl_6 (hk _ _ _ hI)) (tl_6 (hk _ _ _ hI))
theorem case_step : caseOk Inv wpL_2090 := by
  intro L xs kk u v o i hL hi hI hk
  have i1 : vp_in (nI i + 1) L := nI_p hi hL (j := 1) (by decide)
  obtain ⟨a, ea, ha⟩ := zI_of (xs (nI i + 1).toNatClampNeg)
  obtain ⟨uT, ⟨uG, uL, uM, uS, uD⟩, uR⟩ := u
  obtain ⟨v1, w, im, v4, v5, tk, rm, vR⟩ := v
  obtain ⟨ht, ⟨g, k, Ls, ⟨hg, hc, hnt, hv⟩, hla, hmk, hsd, hst⟩, hwb, himg⟩ := id hI
  have hS1 := sh1_of hg hc hla.1
  have hS2 := shr_of hg hv hla.2.1
  unfold wpL_2090 wpL_step
  dsimp only
  rw [ea]
  refine ⟨i1, ?_⟩
  rcases hst with ⟨h1, h2, h3⟩ | ⟨h1, b, c, l, z, hl, hz, hW, hs, hr, hd⟩
  · obtain ⟨s0, sR⟩ := uS
    change s0 = 0 at h1
    subst h1
    refine sp_step0 ha (fun h => ⟨fun _ => ⟨i1, ?_⟩, rfl⟩) (fun h sn => ⟨vin (by decide), i1, ?_⟩)
    · exact sr_step0 ha h2 (fun _ r => tl_thr rfl (by decide) (tl_6 (hk _ _ _ hI))) (fun z => absurd z h)
    · exact sr_step0 ha h2 (fun z => absurd h z) (fun _ sn' => tl_val rfl (lgs o _) (tl_6 (hk _ _ _ hI)))
  · change uS = _ at hs
    change uD = _ at hd
    change rm = _ at hr
    subst hs
    subst hd
    subst hr
    refine sp_step hg hc hS1 hl ha hz.1 hz.2.1 hz.2.2.1 hz.2.2.2 (fun h => ⟨fun _ => ⟨i1, ?_⟩, rfl⟩) (fun h h' sn => ⟨vin (by decide), i1, ?_⟩) (fun h h' sn => ⟨vin (by decide), i1, ?_⟩)
    · exact sr_step hg hv hS2 hl ha hz hW (fun _ r => tl_thr rfl (by decide) (tl_6 (hk _ _ _ hI))) (fun z => absurd z h) (fun z => absurd z h)
    · refine sr_step hg hv hS2 hl ha hz hW (fun z => absurd h z) (fun _ _ v' sn' tk' z' ez hz' hW' => ?_) (fun _ z => absurd h' z)
      have hR := scene_walk ⟨hg, hc, hnt, hv⟩ hla hmk hl hz' hW'
      subst ez
      exact tl_val rfl (lgs o _) (tl_6 (hk _ _ _ ⟨ht, hR, hwb, himg⟩))
    · exact sr_step hg hv hS2 hl ha hz hW (fun z => absurd h z) (fun _ z => absurd z h') (fun _ _ sn' => tl_val rfl (lgs o _) (tl_6 (hk _ _ _ hI)))
theorem case_live : caseOk Inv wpL_2159 := by
  intro L xs kk u v o i hL hi hI hk
  have i1 : vp_in (nI i + 1) L := nI_p hi hL (j := 1) (by decide)
  obtain ⟨a, ea, ha⟩ := zI_of (xs (nI i + 1).toNatClampNeg)
  obtain ⟨uT, ⟨uG, uL, uM, uS, uD⟩, uR⟩ := u
  obtain ⟨v1, w, im, v4, v5, tk, rm, vR⟩ := v
  obtain ⟨ht, ⟨g, k, Ls, ⟨hg, hc, hnt, hv⟩, hla, hmk, hsd, hst⟩, hwb, himg⟩ := id hI
  have hS1 := sh1_of hg hc hla.1
  have hS2 := shr_of hg hv hla.2.1
  unfold wpL_2159 wpL_live
  dsimp only
  rw [ea]
  refine ⟨i1, ?_⟩
  rcases hst with ⟨h1, h2, h3⟩ | ⟨h1, b, c, l, z, hl, hz, hW, hs, hr, hd⟩
  · obtain ⟨s0, sR⟩ := uS
    change s0 = 0 at h1
    subst h1
    refine sp_live0 ha (fun h => ⟨fun _ => ⟨i1, ?_⟩, rfl⟩) (fun h sn => ⟨vin (by decide), i1, ?_⟩)
    · exact sr_live0 ha h2 (fun _ r => tl_thr rfl (by decide) (tl_6 (hk _ _ _ hI))) (fun z => absurd z h)
    · exact sr_live0 ha h2 (fun z => absurd h z) (fun _ sn' => tl_val rfl (lgs o _) (tl_6 (hk _ _ _ hI)))
  · change uS = _ at hs
    change uD = _ at hd
    change rm = _ at hr
    subst hs
    subst hd
    subst hr
    refine sp_live hg hc hS1 hl ha hz (fun h => ⟨fun _ => ⟨i1, ?_⟩, rfl⟩) (fun h sn => ⟨vin (by decide), i1, ?_⟩)
    · exact sr_live hg hv hS2 hl ha hz hW (fun _ r => tl_thr rfl (by decide) (tl_6 (hk _ _ _ hI))) (fun z => absurd z h)
    · refine sr_live hg hv hS2 hl ha hz hW (fun z => absurd h z) (fun _ v' sn' tk' hz' hW' => ?_)
      have hR := scene_walk ⟨hg, hc, hnt, hv⟩ hla hmk hl hz' hW'
      exact tl_val rfl (lgs o _) (tl_6 (hk _ _ _ ⟨ht, hR, hwb, himg⟩))
theorem case_undo : caseOk Inv wpL_2146 := by
  intro L xs kk u v o i hL hi hI hk
  obtain ⟨uT, ⟨uG, uL, uM, uS, uD⟩, uR⟩ := u
  obtain ⟨v1, w, im, v4, v5, tk, rm, vR⟩ := v
  obtain ⟨ht, ⟨g, k, Ls, ⟨hg, hc, hnt, hv⟩, hla, hmk, hsd, hst⟩, hwb, himg⟩ := id hI
  unfold wpL_2146
  dsimp only
  rcases hst with ⟨h1, h2, h3⟩ | ⟨h1, b, c, l, z, hl, hz, hW, hs, hr, hd⟩
  · obtain ⟨s0, sR⟩ := uS
    change s0 = 0 at h1
    change rm = 0 at h3
    subst h1
    subst h3
    unfold wpX10_undo wpX11_undo
    refine ⟨fun _ => ⟨fun z => absurd rfl z, fun _ => ?_⟩, fun z => absurd rfl z⟩
    exact tl_eq rfl (tl_6 (hk _ _ _ hI))
  · change uS = _ at hs
    change uD = _ at hd
    change rm = _ at hr
    subst hs
    subst hd
    subst hr
    have c1 := hg.cn b hz.1.1.1 hz.1.1.2
    have c2 := hg.cn c hz.2.1.1.1 hz.2.1.1.2
    have m1 := hz.1.2
    have m2 := hz.2.1.2
    have n1 := hz.2.2.1
    refine sp_undo (by omega) (by omega) (by omega) hW.2.2.2.2.2.2 (fun h => ?_) (fun h e he hse => ?_)
    · exact sr_undo hz hg hW (fun _ => tl_eq rfl (tl_6 (hk _ _ _ hI))) (fun z => absurd z (by omega))
    · refine sr_undo hz hg hW (fun z => absurd z (by omega)) (fun _ e' v' z' he' hse' ez hz' hW' => ?_)
      have ee : e' = e := by
        have := hse'.symm.trans hse
        rw [zI_eq (by omega)] at this
        exact this
      subst ee
      have hR := scene_walk ⟨hg, hc, hnt, hv⟩ hla hmk hl hz' hW'
      subst ez
      exact tl_eq rfl (tl_6 (hk _ _ _ ⟨ht, hR, hwb, himg⟩))
theorem case_on : caseOk Inv wpL_2215 := by
  intro L xs kk u v o i hL hi hI hk
  have i1 : vp_in (nI i + 1) L := nI_p hi hL (j := 1) (by decide)
  obtain ⟨a, ea, ha⟩ := zI_of (xs (nI i + 1).toNatClampNeg)
  obtain ⟨uT, ⟨uG, uL, uM, uS, uD⟩, uR⟩ := u
  obtain ⟨v1, w, im, v4, v5, tk, rm, vR⟩ := v
  obtain ⟨ht, ⟨g, k, Ls, ⟨hg, hc, hnt, hv⟩, hla, hmk, hsd, hst⟩, hwb, himg⟩ := id hI
  unfold wpL_2215 wpL_on
  dsimp only
  rw [ea]
  refine ⟨i1, ?_⟩
  rcases hst with ⟨h1, h2, h3⟩ | ⟨h1, b, c, l, z, hl, hz, hW, hs, hr, hd⟩
  · obtain ⟨s0, sR⟩ := uS
    change s0 = 0 at h1
    subst h1
    refine sp_on0 ha (fun h => ⟨fun _ => ⟨i1, ?_⟩, rfl⟩) (fun h => ⟨vin (by decide), i1, ?_⟩)
    · exact sr_on0 ha h2 (fun _ r => tl_thr rfl (by decide) (tl_6 (hk _ _ _ hI))) (fun z => absurd z h)
    · exact sr_on0 ha h2 (fun z => absurd h z) (fun _ => tl_val rfl (lgs o _) (tl_6 (hk _ _ _ hI)))
  · change uS = _ at hs
    change uD = _ at hd
    change rm = _ at hr
    subst hs
    subst hd
    subst hr
    refine sp_on hg hc ha hz.1 hz.2.1 (fun h => ⟨fun _ => ⟨i1, ?_⟩, rfl⟩) (fun h => ⟨vin (by decide), i1, ?_⟩)
    · exact sr_on hg hv ha hz hW (fun _ r => tl_thr rfl (by decide) (tl_6 (hk _ _ _ hI))) (fun z => absurd z h)
    · exact sr_on hg hv ha hz hW (fun z => absurd h z) (fun _ => tl_val rfl (lgs o _) (tl_6 (hk _ _ _ hI)))
