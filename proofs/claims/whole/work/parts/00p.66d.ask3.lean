section
variable {g : Gd} {xs ys cs ws v : Nat → Int32} {nw nl : Int32} {w o m d : Int}
theorem sr_thr1 {post : Int32 → Int32 → Prop} {t c : Int32} (h : post 1 c) : wpX11_throwsIf post t 1 c := by
  unfold wpX11_throwsIf
  exact ⟨fun z => absurd z (by decide), fun _ => ⟨Or.inr rfl, h⟩⟩
theorem sr_thr0 {post : Int32 → Int32 → Prop} {t c : Int32} (h : post 0 t) : wpX11_throwsIf post t 0 c := by
  unfold wpX11_throwsIf
  exact ⟨fun _ => ⟨Or.inl rfl, h⟩, fun z => absurd rfl z⟩
end
theorem case_least : caseOk Inv wpL_746 := by
  intro L xs kk u v o i hL hi hI hk
  have i1 : vp_in (nI i + 1) L := nI_p hi hL (j := 1) (by decide)
  have i2 : vp_in (nI i + 2) L := nI_p hi hL (j := 2) (by decide)
  obtain ⟨ht, ⟨g, k, Ls, ⟨hg, hc, hnt, hv⟩, ⟨hlc, hlh, hll⟩, hm, hsd, hst⟩, hwb, himg⟩ := id hI
  have hS1 := sh1_of hg hc hlc
  have hS2 := sh2_of hg hv hlh
  obtain ⟨a, ea, ha⟩ := zI_of (xs (nI i + 1).toNatClampNeg)
  obtain ⟨b, eb, hb⟩ := zI_of (xs (nI i + 2).toNatClampNeg)
  unfold wpL_746 wpL_least wpX10_least wpX11_least wpX11_least_22 wpX11_least_27
  rw [ea, eb]
  refine ⟨i1, i2, ?_⟩
  refine sp_needWay hg hc ha (fun h1 => ?_) (fun h1 => ⟨fun _ => ⟨i1, i2, ?_⟩, rfl⟩)
  · refine sp_needWay hg hc hb (fun h2 => ?_) (fun h2 => ⟨fun _ => ⟨i1, i2, ?_⟩, rfl⟩)
    · refine sp_shortest hg hc hS1 h1 h2 (fun fp fb sn _ _ => ⟨vin (by decide), i1, i2, ?_⟩)
      refine sr_noWay hg hv ha (fun _ => ⟨fun z => absurd rfl z, fun _ => ?_⟩) (fun z => absurd h1 z)
      refine sr_noWay hg hv hb (fun _ => ⟨fun _ => ?_, fun z => absurd rfl z⟩) (fun z => absurd h2 z)
      refine sr_thr0 ⟨fun _ => ?_, fun z => absurd rfl z⟩
      refine sr_leastOf hg hv hS2 h1 h2 (fun sn ff fl _ _ => ?_)
      have hb' := lst_bd (S := Sq g Ls) hg h1 h2
      rw [Gd.least_eq hg h1 h2]
      unfold wpX11_orNone
      rw [show (2000000000 : Int32) = zI 2000000000 from rfl, zI_eq (by omega)]
      refine ⟨fun e => ?_, fun e => ?_⟩
      · rw [if_neg e]
        exact tl_val rfl (lgs o _) (tl_6 (hk _ _ _ hI))
      · rw [if_pos e]
        exact tl_val rfl (lgs o _) (tl_6 (hk _ _ _ hI))
    · refine sr_noWay hg hv ha (fun _ => ⟨fun z => absurd rfl z, fun _ => ?_⟩) (fun z => absurd h1 z)
      refine sr_noWay hg hv hb (fun z => absurd z h2) (fun _ => ⟨fun z => absurd z (by decide), fun _ => ?_⟩)
      exact sr_thr1 ⟨fun z => absurd z (by decide), fun _ => tl_thr rfl (by decide) (tl_6 (hk _ _ _ hI))⟩
  · refine sr_noWay hg hv ha (fun z => absurd z h1) (fun _ => ⟨fun _ => ?_, fun z => absurd z (by decide)⟩)
    exact sr_thr1 ⟨fun z => absurd z (by decide), fun _ => tl_thr rfl (by decide) (tl_6 (hk _ _ _ hI))⟩
theorem case_corners : caseOk Inv wpL_499 := by
  intro L xs kk u v o i hL hi hI hk
  have i1 : vp_in (nI i + 1) L := nI_p hi hL (j := 1) (by decide)
  obtain ⟨ht, ⟨g, k, Ls, ⟨hg, hc, hnt, hv⟩, ⟨hlc, hlh, hll⟩, hm, hsd, hst⟩, hwb, himg⟩ := id hI
  obtain ⟨a, ea, ha⟩ := zI_of (xs (nI i + 1).toNatClampNeg)
  have h12 := hg.nw
  unfold wpL_499 wpL_corners wpX10_corners wpX11_corners
  rw [ea]
  refine ⟨i1, ?_⟩
  refine sp_needWay hg hc ha (fun h1 => ?_) (fun h1 => ⟨fun _ => ⟨i1, ?_⟩, rfl⟩)
  · have h1' := h1
    unfold Gd.hw at h1'
    refine ⟨zI_in (by omega), vin (by decide), i1, ?_⟩
    rw [zI_nat (by omega), show u.2.1.1.2.2.1 a.toNat = zI (g.cn a) from hc.cs a h1.1 h1.2]
    refine sr_noWay hg hv ha (fun _ => ?_) (fun z => absurd h1 z)
    refine sr_thr0 ⟨fun _ => ?_, fun z => absurd rfl z⟩
    exact sr_cornersOf hg hv h1 (tl_val rfl (lgs o _) (tl_6 (hk _ _ _ hI)))
  · refine sr_noWay hg hv ha (fun z => absurd z h1) (fun _ => ?_)
    exact sr_thr1 ⟨fun z => absurd z (by decide), fun _ => tl_thr rfl (by decide) (tl_6 (hk _ _ _ hI))⟩
theorem case_far : caseOk Inv wpL_555 := by
  intro L xs kk u v o i hL hi hI hk
  have i1 : vp_in (nI i + 1) L := nI_p hi hL (j := 1) (by decide)
  have i2 : vp_in (nI i + 2) L := nI_p hi hL (j := 2) (by decide)
  have i3 : vp_in (nI i + 3) L := nI_p hi hL (j := 3) (by decide)
  have i4 : vp_in (nI i + 4) L := nI_p hi hL (j := 4) (by decide)
  obtain ⟨ht, ⟨g, k, Ls, ⟨hg, hc, hnt, hv⟩, ⟨hlc, hlh, hll⟩, hm, hsd, hst⟩, hwb, himg⟩ := id hI
  obtain ⟨a, ea, ha⟩ := zI_of (xs (nI i + 1).toNatClampNeg)
  obtain ⟨b, eb, hb⟩ := zI_of (xs (nI i + 2).toNatClampNeg)
  obtain ⟨c, ec, hcc⟩ := zI_of (xs (nI i + 3).toNatClampNeg)
  obtain ⟨d, ed, hd⟩ := zI_of (xs (nI i + 4).toNatClampNeg)
  unfold wpL_555 wpL_far wpX10_far wpX11_far wpX11_far_25 wpX11_far_30
  rw [ea, eb, ec, ed]
  refine ⟨i1, i2, i3, i4, ?_⟩
  refine sp_needCorner hg hc ha hb (fun h1 => ?_) (fun h1 => ⟨fun _ => ⟨i1, i2, i3, i4, ?_⟩, rfl⟩)
  · refine sp_needCorner hg hc hcc hd (fun h2 => ?_) (fun h2 => ⟨fun _ => ⟨i1, i2, i3, i4, ?_⟩, rfl⟩)
    · refine sp_distance hg hc h1 h2 ⟨vin (by decide), i1, i2, i3, i4, ?_⟩
      refine sr_noCorner hg hv ha hb (fun _ => ⟨fun z => absurd rfl z, fun _ => ?_⟩) (fun z => absurd h1 z)
      refine sr_noCorner hg hv hcc hd (fun _ => ⟨fun _ => ?_, fun z => absurd rfl z⟩) (fun z => absurd h2 z)
      refine sr_thr0 ⟨fun _ => ?_, fun z => absurd rfl z⟩
      exact sr_farAt hg hv h1 h2 (tl_val rfl (lgs o _) (tl_6 (hk _ _ _ hI)))
    · refine sr_noCorner hg hv ha hb (fun _ => ⟨fun z => absurd rfl z, fun _ => ?_⟩) (fun z => absurd h1 z)
      refine sr_noCorner hg hv hcc hd (fun z => absurd z h2) (fun _ => ⟨fun z => absurd z (by decide), fun _ => ?_⟩)
      exact sr_thr1 ⟨fun z => absurd z (by decide), fun _ => tl_thr rfl (by decide) (tl_6 (hk _ _ _ hI))⟩
  · refine sr_noCorner hg hv ha hb (fun z => absurd z h1) (fun _ => ⟨fun _ => ?_, fun z => absurd z (by decide)⟩)
    exact sr_thr1 ⟨fun z => absurd z (by decide), fun _ => tl_thr rfl (by decide) (tl_6 (hk _ _ _ hI))⟩
theorem case_shut : caseOk Inv wpL_647 := by
  intro L xs kk u v o i hL hi hI hk
  have i1 : vp_in (nI i + 1) L := nI_p hi hL (j := 1) (by decide)
  have i2 : vp_in (nI i + 2) L := nI_p hi hL (j := 2) (by decide)
  have i3 : vp_in (nI i + 3) L := nI_p hi hL (j := 3) (by decide)
  have i4 : vp_in (nI i + 4) L := nI_p hi hL (j := 4) (by decide)
  obtain ⟨ht, ⟨g, k, Ls, ⟨hg, hc, hnt, hv⟩, ⟨hlc, hlh, hll⟩, hm, hsd, hst⟩, hwb, himg⟩ := id hI
  have hS1 := sh1_of hg hc hlc
  have hS2 := sh2_of hg hv hlh
  obtain ⟨a, ea, ha⟩ := zI_of (xs (nI i + 1).toNatClampNeg)
  obtain ⟨b, eb, hb⟩ := zI_of (xs (nI i + 2).toNatClampNeg)
  obtain ⟨c, ec, hcc⟩ := zI_of (xs (nI i + 3).toNatClampNeg)
  obtain ⟨d, ed, hd⟩ := zI_of (xs (nI i + 4).toNatClampNeg)
  unfold wpL_647 wpL_shut wpX10_shut wpX11_shut wpX11_shut_25 wpX11_shut_30
  rw [ea, eb, ec, ed]
  refine ⟨i1, i2, i3, i4, ?_⟩
  refine sp_needCorner hg hc ha hb (fun h1 => ?_) (fun h1 => ⟨fun _ => ⟨i1, i2, i3, i4, ?_⟩, rfl⟩)
  · refine sp_needCorner hg hc hcc hd (fun h2 => ?_) (fun h2 => ⟨fun _ => ⟨i1, i2, i3, i4, ?_⟩, rfl⟩)
    · refine hS1 _ _ _ _ _ _ h1 h2 (fun hs sn' => ⟨Or.inr rfl, fun z => absurd z (by decide), fun _ => ⟨vin (by decide), i1, i2, i3, i4, ?_⟩⟩) (fun hs sn' => ⟨Or.inl rfl, fun _ => ⟨vin (by decide), i1, i2, i3, i4, ?_⟩, fun z => absurd rfl z⟩)
      · refine sr_noCorner hg hv ha hb (fun _ => ⟨fun z => absurd rfl z, fun _ => ?_⟩) (fun z => absurd h1 z)
        refine sr_noCorner hg hv hcc hd (fun _ => ⟨fun _ => ?_, fun z => absurd rfl z⟩) (fun z => absurd h2 z)
        refine sr_thr0 ⟨fun z => absurd rfl z, fun _ => ?_⟩
        refine hS2 _ _ _ _ _ _ h1 h2 (fun _ sn2 => ⟨fun z => absurd z (by decide), fun _ => ?_⟩) (fun z => absurd (hs.symm.trans z) (by decide))
        exact tl_bool (x := 0) rfl (fun q => absurd q (by decide)) (fun _ => lgs o _) (tl_6 (hk _ _ _ hI)) (tl_6 (hk _ _ _ hI))
      · refine sr_noCorner hg hv ha hb (fun _ => ⟨fun z => absurd rfl z, fun _ => ?_⟩) (fun z => absurd h1 z)
        refine sr_noCorner hg hv hcc hd (fun _ => ⟨fun _ => ?_, fun z => absurd rfl z⟩) (fun z => absurd h2 z)
        refine sr_thr0 ⟨fun z => absurd rfl z, fun _ => ?_⟩
        refine hS2 _ _ _ _ _ _ h1 h2 (fun z => absurd (hs.symm.trans z) (by decide)) (fun _ sn2 => ⟨fun _ => ?_, fun z => absurd rfl z⟩)
        exact tl_bool (x := 0) rfl (fun _ => lgs o _) (fun q => absurd rfl q) (tl_6 (hk _ _ _ hI)) (tl_6 (hk _ _ _ hI))
    · refine sr_noCorner hg hv ha hb (fun _ => ⟨fun z => absurd rfl z, fun _ => ?_⟩) (fun z => absurd h1 z)
      refine sr_noCorner hg hv hcc hd (fun z => absurd z h2) (fun _ => ⟨fun z => absurd z (by decide), fun _ => ?_⟩)
      exact sr_thr1 ⟨fun _ => tl_thr rfl (by decide) (tl_6 (hk _ _ _ hI)), fun z => absurd z (by decide)⟩
  · refine sr_noCorner hg hv ha hb (fun z => absurd z h1) (fun _ => ⟨fun _ => ?_, fun z => absurd z (by decide)⟩)
    exact sr_thr1 ⟨fun _ => tl_thr rfl (by decide) (tl_6 (hk _ _ _ hI)), fun z => absurd z (by decide)⟩
theorem case_corner : caseOk Inv wpL_403 := by
  intro L xs kk u v o i hL hi hI hk
  have i1 : vp_in (nI i + 1) L := nI_p hi hL (j := 1) (by decide)
  have i2 : vp_in (nI i + 2) L := nI_p hi hL (j := 2) (by decide)
  have i3 : vp_in (nI i + 3) L := nI_p hi hL (j := 3) (by decide)
  obtain ⟨ht, ⟨g, k, Ls, ⟨hg, hc, hnt, hv⟩, ⟨hlc, hlh, hll⟩, hm, hsd, hst⟩, hwb, himg⟩ := id hI
  obtain ⟨a, ea, ha⟩ := zI_of (xs (nI i + 1).toNatClampNeg)
  obtain ⟨b, eb, hb⟩ := zI_of (xs (nI i + 2).toNatClampNeg)
  unfold wpL_403 wpL_corner wpX10_corner wpX11_corner
  rw [ea, eb]
  refine ⟨i1, i2, i3, fun e3 => ?_, fun e3 => ?_⟩
  · refine sp_needCorner hg hc ha hb (fun h1 => ⟨fun _ => ?_, fun z => absurd rfl z⟩) (fun h1 => ⟨fun _ => ⟨i1, i2, i3, fun _ => ?_, fun q => absurd e3 q⟩, rfl⟩)
    · refine sp_xOf hg hc h1 ⟨vin (by decide), i1, i2, i3, fun _ => ?_, fun q => absurd e3 q⟩
      refine sr_noCorner hg hv ha hb (fun _ => ?_) (fun z => absurd h1 z)
      refine sr_thr0 ⟨fun _ => ⟨fun _ => ?_, fun z => absurd rfl z⟩, fun z => absurd rfl z⟩
      exact sr_xOf hg hv h1 (tl_val rfl (lgs o _) (tl_6 (hk _ _ _ hI)))
    · refine sr_noCorner hg hv ha hb (fun z => absurd z h1) (fun _ => ?_)
      exact sr_thr1 ⟨fun z => absurd z (by decide), fun _ => tl_thr rfl (by decide) (tl_6 (hk _ _ _ hI))⟩
  · refine sp_needCorner hg hc ha hb (fun h1 => ⟨fun z => absurd z (by decide), fun _ => ?_⟩) (fun h1 => ⟨fun _ => ⟨i1, i2, i3, fun q => absurd q e3, fun _ => ?_⟩, rfl⟩)
    · refine sp_yOf hg hc h1 ⟨vin (by decide), i1, i2, i3, fun q => absurd q e3, fun _ => ?_⟩
      refine sr_noCorner hg hv ha hb (fun _ => ?_) (fun z => absurd h1 z)
      refine sr_thr0 ⟨fun _ => ⟨fun z => absurd z (by decide), fun _ => ?_⟩, fun z => absurd rfl z⟩
      exact sr_yOf hg hv h1 (tl_val rfl (lgs o _) (tl_6 (hk _ _ _ hI)))
    · refine sr_noCorner hg hv ha hb (fun z => absurd z h1) (fun _ => ?_)
      exact sr_thr1 ⟨fun z => absurd z (by decide), fun _ => tl_thr rfl (by decide) (tl_6 (hk _ _ _ hI))⟩
theorem case_judge : caseOk Inv wpL_962 := by
  intro L xs kk u v o i hL hi hI hk
  have i1 : vp_in (nI i + 1) L := nI_p hi hL (j := 1) (by decide)
  have i2 : vp_in (nI i + 2) L := nI_p hi hL (j := 2) (by decide)
  have i3 : vp_in (nI i + 3) L := nI_p hi hL (j := 3) (by decide)
  obtain ⟨⟨ht1, ht2, ⟨n, hn, hn2⟩, ht4⟩, hsc, hwb, himg⟩ := id hI
  obtain ⟨g, k, Ls, ⟨hg, hc, hnt, hv⟩, ⟨hlc, hlh, hll⟩, hm, hsd, hst⟩ := id hsc
  have hS1 := sh1_of hg hc hlc
  have hS2 := shr_of hg hv hlh
  obtain ⟨a, ea, ha⟩ := zI_of (xs (nI i + 1).toNatClampNeg)
  obtain ⟨b, eb, hb⟩ := zI_of (xs (nI i + 2).toNatClampNeg)
  obtain ⟨c, ec, hcc⟩ := zI_of (xs (nI i + 3).toNatClampNeg)
  have htp : tpOk (fun j => (u.1.1 j.toNat).toInt) := fun j => ht4 _
  have htb : Tb (fun j => (u.1.1 j.toNat).toInt) (n : Int) u.1.1 := fun j _ _ => (Int32.ofInt_toInt _).symm
  have hI0 : TapeR u.1.1 0 u.1.1 0 := ⟨rfl, rfl, ⟨0, by decide, rfl⟩, ht4⟩
  unfold wpL_962 wpL_judge
  rw [ea, eb, ec, ht2, hn2, ht1]
  refine ⟨i1, i2, i3, ?_⟩
  refine sp_judge hg hc hS1 ha hb hcc (by omega) htp htb (fun hx sn => ⟨fun _ => ⟨i1, i2, i3, ?_⟩, fun z => absurd z (by decide), Or.inl rfl⟩) (fun h1 h2 hx sn => ⟨fun z => absurd z (by decide), fun _ => ⟨i1, i2, i3, ?_⟩, Or.inr rfl⟩) (fun h1 h2 h3 sn => ⟨vin (by decide), i1, i2, i3, ?_⟩)
  · exact sr_judge hg hv hS2 ha hb hcc (by omega) htp htb (fun _ r pt ed sn => tl_thr rfl (by decide) (tl_6 (hk _ _ _ ⟨hI0, hsc, hwb, himg⟩))) (fun p q _ => absurd ⟨p, q⟩ hx) (fun p q _ => absurd ⟨p, q⟩ hx)
  · exact sr_judge hg hv hS2 ha hb hcc (by omega) htp htb (fun q => absurd ⟨h1, h2⟩ q) (fun _ _ _ r pt ed sn => tl_thr rfl (by decide) (tl_6 (hk _ _ _ ⟨hI0, hsc, hwb, himg⟩))) (fun _ _ q => absurd q hx)
  · exact sr_judge hg hv hS2 ha hb hcc (by omega) htp htb (fun q => absurd ⟨h1, h2⟩ q) (fun _ _ q => absurd h3 q) (fun _ _ _ pt ed sn => tl_val rfl (lgs o _) (tl_6 (hk _ _ _ ⟨hI0, hsc, hwb, himg⟩)))
