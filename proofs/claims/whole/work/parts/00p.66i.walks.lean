theorem case_bars : caseOk Inv wpL_894 := by
  intro L xs kk u v o i hL hi hI hk
  have i1 : vp_in (nI i + 1) L := nI_p hi hL (j := 1) (by decide)
  have i2 : vp_in (nI i + 2) L := nI_p hi hL (j := 2) (by decide)
  obtain ⟨ht, ⟨g, k, Ls, ⟨hg, hc, hnt, hv⟩, ⟨hlc, hlh, hll⟩, hm, hsd, hst⟩, hwb, himg⟩ := id hI
  have hS1 := sh1_of hg hc hlc
  have hS2 := sh2_of hg hv hlh
  obtain ⟨a, ea, ha⟩ := zI_of (xs (nI i + 1).toNatClampNeg)
  obtain ⟨b, eb, hb⟩ := zI_of (xs (nI i + 2).toNatClampNeg)
  unfold wpL_894 wpL_bars wpX11_bars wpX11_bars_22 wpX11_bars_27
  rw [ea, eb]
  refine ⟨i1, i2, ?_⟩
  refine sp_bars hg hc hS1 ha hb (fun hx => ⟨fun _ => ⟨i1, i2, ?_⟩, rfl⟩) (fun h1 h2 z => ⟨vin (by decide), i1, i2, ?_⟩)
  · refine sr_noWay hg hv ha (fun h1 => ⟨fun z => absurd rfl z, fun _ => ?_⟩) (fun _ => ⟨fun _ => ?_, fun z => absurd z (by decide)⟩)
    · refine sr_noWay hg hv hb (fun h2 => absurd ⟨h1, h2⟩ hx) (fun _ => ⟨fun z => absurd z (by decide), fun _ => ?_⟩)
      exact sr_thr1 ⟨fun z => absurd z (by decide), fun _ => tl_thr rfl (by decide) (tl_6 (hk _ _ _ hI))⟩
    · exact sr_thr1 ⟨fun z => absurd z (by decide), fun _ => tl_thr rfl (by decide) (tl_6 (hk _ _ _ hI))⟩
  · refine sr_noWay hg hv ha (fun _ => ⟨fun z => absurd rfl z, fun _ => ?_⟩) (fun z => absurd h1 z)
    refine sr_noWay hg hv hb (fun _ => ⟨fun _ => ?_, fun z => absurd rfl z⟩) (fun z => absurd h2 z)
    refine sr_thr0 ⟨fun _ => ?_, fun z => absurd rfl z⟩
    have e1 := hg.cn a h1.1 h1.2
    have e2 := hg.cn b h2.1 h2.2
    have ag := Gd.lst_agr (S := Sq g Ls) hg h1 h2
    refine sr_firstWalk hg hv hS2 h1 h2 (fun hn z => ?_) (fun hlt f2 f3 f4 f5 f6 hL2 hF hf6 => ?_)
    · refine ⟨fun z => absurd z (by decide), fun _ => ?_⟩
      unfold Gd.bars
      rw [if_pos hn]
      exact tl_val rfl (lgs o _) (tl_6 (hk _ _ _ hI))
    · have hne : g.lst (Sq g Ls) a b ≠ 2147483647 := by omega
      have ag' := ag
      unfold Agr at ag'
      have hbd : 0 ≤ g.lst (Sq g Ls) a b ∧ g.lst (Sq g Ls) a b < 2147483647 := by have := ag.bd; omega
      have n := wN_is (q := g.pr (Sq g Ls) 2147483647 a b) (M := g.cn a) (D := g.cn b) hbd (by omega) (by omega) (Int.le_refl _)
      have j := wJ_is (q := g.pr (Sq g Ls) 2147483647 a b) (M := g.cn a) (D := g.cn b) (by omega) (by omega) (Gd.pr_bd hg (by omega) h1 h2) rfl hbd
      refine ⟨fun _ => ?_, fun z => absurd (by rw [show (0 : Int32) = zI 0 from rfl, zI_le (by omega)]; omega) z⟩
      dsimp only
      rw [show (1 : Int32) = zI 1 from rfl, zI_sub, zI_sub]
      refine sr_leadAt (M := g.cn a) (D := g.cn b) (q := g.pr (Sq g Ls) 2000000000 a b) (by omega) (by omega) hF (by omega) (by omega) (by omega) ?_
      have hF2 : Fw (g.pr (Sq g Ls) 2000000000 a b) 2000000000 (g.cn a - 1) (g.cn b - 1) = g.lst (Sq g Ls) a b := by
        show g.lst2 (Sq g Ls) a b = _
        omega
      rw [hF2]
      refine ⟨wJ (g.pr (Sq g Ls) 2147483647 a b) (g.cn a) (g.cn b) (g.lst (Sq g Ls) a b) + 1, sr_bars76 (t := g.lst (Sq g Ls) a b) (N := wN (g.pr (Sq g Ls) 2147483647 a b) (g.cn a) (g.cn b) (g.lst (Sq g Ls) a b)) (J := wJ (g.pr (Sq g Ls) 2147483647 a b) (g.cn a) (g.cn b) (g.lst (Sq g Ls) a b)) (q := g.pr (Sq g Ls) 2147483647 a b) (q2 := g.pr (Sq g Ls) 2000000000 a b) (by omega) (by omega) rfl (by omega) (fun m d x1 x2 x3 x4 => pr_agr (S := Sq g Ls) hg (w := a) (o := b) (m := m) (d := d) ⟨h1, x1, x2⟩ ⟨h2, x3, x4⟩) hL2 n.1 n.2.1 hf6 j.1 j.2.1 j.2.2 ?_ _ 0 (Nat.zero_add _)⟩
      unfold Gd.bars Gd.barp
      rw [if_neg hne]
      exact tl_val rfl (lgs o _) (tl_6 (hk _ _ _ hI))
theorem case_first : caseOk Inv wpL_814 := by
  intro L xs kk u v o i hL hi hI hk
  have i1 : vp_in (nI i + 1) L := nI_p hi hL (j := 1) (by decide)
  have i2 : vp_in (nI i + 2) L := nI_p hi hL (j := 2) (by decide)
  have i3 : vp_in (nI i + 3) L := nI_p hi hL (j := 3) (by decide)
  obtain ⟨ht, ⟨g, k, Ls, ⟨hg, hc, hnt, hv⟩, ⟨hlc, hlh, hll⟩, hm, hsd, hst⟩, hwb, himg⟩ := id hI
  have hS1 := sh1_of hg hc hlc
  have hS2 := sh2_of hg hv hlh
  obtain ⟨a, ea, ha⟩ := zI_of (xs (nI i + 1).toNatClampNeg)
  obtain ⟨b, eb, hb⟩ := zI_of (xs (nI i + 2).toNatClampNeg)
  obtain ⟨c, ec, hcc⟩ := zI_of (xs (nI i + 3).toNatClampNeg)
  unfold wpL_814 wpL_first wpX11_first wpX11_first_22 wpX11_first_27 wpX11_first_45
  rw [ea, eb, ec]
  refine ⟨i1, i2, i3, ?_⟩
  refine sp_first hg hc hS1 ha hb hcc (fun hx => ⟨fun _ => ⟨i1, i2, i3, ?_⟩, fun z => absurd z (by decide), Or.inl rfl⟩) (fun h1 h2 hx => ⟨fun z => absurd z (by decide), fun _ => ⟨i1, i2, i3, ?_⟩, Or.inr rfl⟩) (fun h1 h2 h3 z => ⟨vin (by decide), i1, i2, i3, ?_⟩)
  · refine sr_noWay hg hv ha (fun h1 => ⟨fun z => absurd rfl z, fun _ => ?_⟩) (fun _ => ⟨fun _ => ?_, fun z => absurd z (by decide)⟩)
    · refine sr_noWay hg hv hb (fun h2 => absurd ⟨h1, h2⟩ hx) (fun _ => ⟨fun z => absurd z (by decide), fun _ => ?_⟩)
      exact sr_thr1 ⟨fun _ => tl_thr rfl (by decide) (tl_6 (hk _ _ _ hI)), fun z => absurd z (by decide)⟩
    · exact sr_thr1 ⟨fun _ => tl_thr rfl (by decide) (tl_6 (hk _ _ _ hI)), fun z => absurd z (by decide)⟩
  · refine sr_noWay hg hv ha (fun _ => ⟨fun z => absurd rfl z, fun _ => ?_⟩) (fun z => absurd h1 z)
    refine sr_noWay hg hv hb (fun _ => ⟨fun _ => ?_, fun z => absurd rfl z⟩) (fun z => absurd h2 z)
    refine sr_thr0 ⟨fun z => absurd rfl z, fun _ => ⟨fun z => absurd z (by rw [show (-1 : Int32) = zI (-1) from rfl, zI_le (by omega)]; omega), fun _ => ?_⟩⟩
    exact sr_thr1 ⟨fun z => absurd z (by decide), fun _ => tl_thr rfl (by decide) (tl_6 (hk _ _ _ hI))⟩
  · refine sr_noWay hg hv ha (fun _ => ⟨fun z => absurd rfl z, fun _ => ?_⟩) (fun z => absurd h1 z)
    refine sr_noWay hg hv hb (fun _ => ⟨fun _ => ?_, fun z => absurd rfl z⟩) (fun z => absurd h2 z)
    refine sr_thr0 ⟨fun z => absurd rfl z, fun _ => ⟨fun _ => ?_, fun z => absurd (by rw [show (-1 : Int32) = zI (-1) from rfl, zI_le (by omega)]; omega) z⟩⟩
    refine sr_thr0 ⟨fun _ => ?_, fun z => absurd rfl z⟩
    have e1 := hg.cn a h1.1 h1.2
    have e2 := hg.cn b h2.1 h2.2
    have ag := Gd.lst_agr (S := Sq g Ls) hg h1 h2
    refine sr_firstWalk hg hv hS2 h1 h2 (fun hn z => ?_) (fun hlt f2 f3 f4 f5 f6 hL2 hF hf6 => ?_)
    · unfold Gd.first
      rw [if_pos hn]
      refine ⟨fun _ => ⟨fun _ => tl_val rfl (lgs o _) (tl_6 (hk _ _ _ hI)), fun z => absurd (by rw [show (-1 : Int32) = zI (-1) from rfl, zI_le (by omega)]; omega) z⟩, fun _ => tl_val rfl (lgs o _) (tl_6 (hk _ _ _ hI))⟩
    · have hne : g.lst (Sq g Ls) a b ≠ 2147483647 := by omega
      have hbd : 0 ≤ g.lst (Sq g Ls) a b ∧ g.lst (Sq g Ls) a b < 2147483647 := by have := ag.bd; omega
      have n := wN_is (q := g.pr (Sq g Ls) 2147483647 a b) (M := g.cn a) (D := g.cn b) hbd (by omega) (by omega) (Int.le_refl _)
      unfold Gd.first fwA
      rw [if_neg hne, show (-1 : Int32) = zI (-1) from rfl, zI_eq (by omega), zI_le (by omega)]
      refine ⟨fun h => ?_, fun h => ?_⟩
      · rw [if_neg h]
        refine ⟨fun h' => ?_, fun h' => ⟨zI_in (by omega), ?_⟩⟩
        · rw [if_neg (by omega)]
          exact tl_val rfl (lgs o _) (tl_6 (hk _ _ _ hI))
        · have e6 := hf6 c.toNat (by omega)
          rw [if_pos (by omega), zI_nat (by omega), ← e6]
          exact tl_val rfl (lgs o _) (tl_6 (hk _ _ _ hI))
      · rw [if_pos h]
        exact tl_val rfl (lgs o _) (tl_6 (hk _ _ _ hI))
