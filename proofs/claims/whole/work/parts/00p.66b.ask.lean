theorem lgs (o : Nat → Int64) (x : Int64) : lg_cmp (vp_updL o (0 : Int32).toNatClampNeg x (0 : Int32).toNatClampNeg) x = 0 := by
  have e : vp_updL o (0 : Int32).toNatClampNeg x (0 : Int32).toNatClampNeg = x := by unfold vp_updL; exact if_pos rfl
  rw [e]
  unfold lg_cmp
  simp
theorem tl_thr {z1 c : Int32} {P Q : Prop} (hz : z1 = c) (hc : ¬ c = 0) (hk : P) : wpX11_thrown (fun r6 _ => (r6 = c → (¬ c = 0 → P) ∧ (c = 0 → Q)) ∧ (¬ r6 = c → False)) z1 := ⟨fun _ => ⟨fun _ => hk, fun z => absurd z hc⟩, fun z => absurd hz z⟩
theorem tl_val {z1 : Int32} {P R : Prop} {a b : Int64} (hz : z1 = 0) (hab : lg_cmp a b = 0) (hk : R) : wpX11_thrown (fun r6 _ => (r6 = 0 → (¬ (0 : Int32) = 0 → P) ∧ ((0 : Int32) = 0 → vp_in 0 1 ∧ (lg_cmp a b = 0 → R) ∧ (¬ lg_cmp a b = 0 → False))) ∧ (¬ r6 = 0 → False)) z1 := ⟨fun _ => ⟨fun z => absurd rfl z, fun _ => ⟨vin (by decide), fun _ => hk, fun z => absurd hab z⟩⟩, fun z => absurd hz z⟩
theorem tl_eq {a b : Int32} {P : Prop} (h : a = b) (hk : P) : (a = b → P) ∧ (¬ a = b → False) := ⟨fun _ => hk, fun z => absurd h z⟩
theorem tl_6 {kk : Int32 → Prop} {i : Nat} (h : kk (nI (i + 6))) : ∀ v7 : Int32, v7 = nI i + 6 → kk v7 := by
  intro v7 e7
  rw [e7, nI_6]; exact h
theorem case_back : caseOk Inv wpL_1121 := by
  intro L xs kk u v o i hL hi hI hk
  have i1 : vp_in (nI i + 1) L := nI_p hi hL (j := 1) (by decide)
  have i2 : vp_in (nI i + 2) L := nI_p hi hL (j := 2) (by decide)
  have i3 : vp_in (nI i + 3) L := nI_p hi hL (j := 3) (by decide)
  obtain ⟨ht, ⟨g, k, Ls, ⟨hg, hc, hnt, hv⟩, ⟨hlc, hlh, hll⟩, hm, hsd, hst⟩, hwb, himg⟩ := id hI
  have hS1 := sh1_of hg hc hlc
  have hS2 := sh2_of hg hv hlh
  obtain ⟨a, ea, ha⟩ := zI_of (xs (nI i + 1).toNatClampNeg)
  obtain ⟨b, eb, hb⟩ := zI_of (xs (nI i + 2).toNatClampNeg)
  unfold wpL_1121 wpL_back
  rw [ea, eb]
  refine ⟨i1, i2, ?_⟩
  refine sp_back hg hc hS1 ha hb (fun hx => ⟨fun _ => ⟨i1, i2, ?_⟩, rfl⟩) (fun h1 h2 hB z => ⟨vin (by decide), i1, i2, ?_⟩)
  · exact sr_back hg hv hS2 ha hb (fun _ r z hz => tl_thr hz (by decide) (tl_6 (hk _ _ _ hI))) (fun p q => absurd ⟨p, q⟩ hx) (fun p q => absurd ⟨p, q⟩ hx)
  · exact sr_back hg hv hS2 ha hb (fun q => absurd ⟨h1, h2⟩ q) (fun _ _ => hB) (fun _ _ z hz => tl_val hz (lgs o _) (tl_6 (hk _ _ _ hI)))
theorem case_drag : caseOk Inv wpL_1445 := by
  intro L xs kk u v o i hL hi hI hk
  have i1 : vp_in (nI i + 1) L := nI_p hi hL (j := 1) (by decide)
  have i2 : vp_in (nI i + 2) L := nI_p hi hL (j := 2) (by decide)
  have i3 : vp_in (nI i + 3) L := nI_p hi hL (j := 3) (by decide)
  obtain ⟨ht, ⟨g, k, Ls, ⟨hg, hc, hnt, hv⟩, ⟨hlc, hlh, hll⟩, hm, hsd, hst⟩, hwb, himg⟩ := id hI
  have hS1 := sh1_of hg hc hlc
  have hS2 := sh2_of hg hv hlh
  obtain ⟨a, ea, ha⟩ := zI_of (xs (nI i + 1).toNatClampNeg)
  obtain ⟨b, eb, hb⟩ := zI_of (xs (nI i + 2).toNatClampNeg)
  unfold wpL_1445 wpL_drag
  rw [ea, eb]
  refine ⟨i1, i2, ?_⟩
  refine sp_drag hg hc hS1 ha hb (fun hx => ⟨fun _ => ⟨i1, i2, ?_⟩, rfl⟩) (fun h1 h2 z => ⟨vin (by decide), i1, i2, ?_⟩)
  · exact sr_drag hg hv hS2 ha hb (fun _ r z hz => tl_thr hz (by decide) (tl_6 (hk _ _ _ hI))) (fun p q => absurd ⟨p, q⟩ hx)
  · exact sr_drag hg hv hS2 ha hb (fun q => absurd ⟨h1, h2⟩ q) (fun _ _ z hz => tl_val hz (lgs o _) (tl_6 (hk _ _ _ hI)))
theorem case_dogs : caseOk Inv wpL_1285 := by
  intro L xs kk u v o i hL hi hI hk
  have i1 : vp_in (nI i + 1) L := nI_p hi hL (j := 1) (by decide)
  have i2 : vp_in (nI i + 2) L := nI_p hi hL (j := 2) (by decide)
  have i3 : vp_in (nI i + 3) L := nI_p hi hL (j := 3) (by decide)
  obtain ⟨ht, ⟨g, k, Ls, ⟨hg, hc, hnt, hv⟩, ⟨hlc, hlh, hll⟩, hm, hsd, hst⟩, hwb, himg⟩ := id hI
  have hS1 := sh1_of hg hc hlc
  have hS2 := sh2_of hg hv hlh
  obtain ⟨a, ea, ha⟩ := zI_of (xs (nI i + 1).toNatClampNeg)
  obtain ⟨b, eb, hb⟩ := zI_of (xs (nI i + 2).toNatClampNeg)
  obtain ⟨c, ec, hcc⟩ := zI_of (xs (nI i + 3).toNatClampNeg)
  unfold wpL_1285 wpL_dogs
  rw [ea, eb, ec]
  refine ⟨i1, i2, i3, ?_⟩
  refine sp_dogs hg hc hS1 ha hb hcc (fun hx => ⟨fun _ => ⟨i1, i2, i3, ?_⟩, rfl⟩) (fun h1 h2 h3 z => ⟨vin (by decide), i1, i2, i3, ?_⟩)
  · exact sr_dogs hg hv hS2 ha hb hcc (fun _ r z hz => tl_thr hz (by decide) (tl_6 (hk _ _ _ hI))) (fun p q r => absurd ⟨p, q, r⟩ hx)
  · exact sr_dogs hg hv hS2 ha hb hcc (fun q => absurd ⟨h1, h2, h3⟩ q) (fun _ _ _ z hz => tl_val hz (lgs o _) (tl_6 (hk _ _ _ hI)))
theorem case_three : caseOk Inv wpL_1365 := by
  intro L xs kk u v o i hL hi hI hk
  have i1 : vp_in (nI i + 1) L := nI_p hi hL (j := 1) (by decide)
  have i2 : vp_in (nI i + 2) L := nI_p hi hL (j := 2) (by decide)
  have i3 : vp_in (nI i + 3) L := nI_p hi hL (j := 3) (by decide)
  obtain ⟨ht, ⟨g, k, Ls, ⟨hg, hc, hnt, hv⟩, ⟨hlc, hlh, hll⟩, hm, hsd, hst⟩, hwb, himg⟩ := id hI
  have hS1 := sh1_of hg hc hlc
  have hS2 := sh2_of hg hv hlh
  obtain ⟨a, ea, ha⟩ := zI_of (xs (nI i + 1).toNatClampNeg)
  obtain ⟨b, eb, hb⟩ := zI_of (xs (nI i + 2).toNatClampNeg)
  obtain ⟨c, ec, hcc⟩ := zI_of (xs (nI i + 3).toNatClampNeg)
  unfold wpL_1365 wpL_three
  rw [ea, eb, ec]
  refine ⟨i1, i2, i3, ?_⟩
  refine sp_three hg hc hS1 ha hb hcc (fun hx => ⟨fun _ => ⟨i1, i2, i3, ?_⟩, rfl⟩) (fun h1 h2 h3 z => ⟨vin (by decide), i1, i2, i3, ?_⟩)
  · exact sr_three hg hv hS2 ha hb hcc (fun _ r z hz => tl_thr hz (by decide) (tl_6 (hk _ _ _ hI))) (fun p q r => absurd ⟨p, q, r⟩ hx)
  · exact sr_three hg hv hS2 ha hb hcc (fun q => absurd ⟨h1, h2, h3⟩ q) (fun _ _ _ z hz => tl_val hz (lgs o _) (tl_6 (hk _ _ _ hI)))
theorem case_parts : caseOk Inv wpL_1042 := by
  intro L xs kk u v o i hL hi hI hk
  have i1 : vp_in (nI i + 1) L := nI_p hi hL (j := 1) (by decide)
  have i2 : vp_in (nI i + 2) L := nI_p hi hL (j := 2) (by decide)
  have i3 : vp_in (nI i + 3) L := nI_p hi hL (j := 3) (by decide)
  obtain ⟨ht, ⟨g, k, Ls, ⟨hg, hc, hnt, hv⟩, ⟨hlc, hlh, hll⟩, hm, hsd, hst⟩, hwb, himg⟩ := id hI
  have hS1 := sh1_of hg hc hlc
  have hS2 := sh2_of hg hv hlh
  obtain ⟨a, ea, ha⟩ := zI_of (xs (nI i + 1).toNatClampNeg)
  obtain ⟨b, eb, hb⟩ := zI_of (xs (nI i + 2).toNatClampNeg)
  obtain ⟨c, ec, hcc⟩ := zI_of (xs (nI i + 3).toNatClampNeg)
  unfold wpL_1042 wpL_parts
  rw [ea, eb, ec]
  refine ⟨i1, i2, i3, ?_⟩
  refine sp_parts hg hc ha hb hcc (fun hx => ⟨fun _ => ⟨i1, i2, i3, ?_⟩, fun z => absurd z (by decide), Or.inl rfl⟩) (fun h1 h2 hx => ⟨fun z => absurd z (by decide), fun _ => ⟨i1, i2, i3, ?_⟩, Or.inr rfl⟩) (fun h1 h2 h3 z => ⟨vin (by decide), i1, i2, i3, ?_⟩)
  · exact sr_parts hg hv ha hb hcc (fun _ r z hz => tl_thr hz (by decide) (tl_6 (hk _ _ _ hI))) (fun p q _ => absurd ⟨p, q⟩ hx) (fun p q _ => absurd ⟨p, q⟩ hx)
  · exact sr_parts hg hv ha hb hcc (fun q => absurd ⟨h1, h2⟩ q) (fun _ _ _ r z hz => tl_thr hz (by decide) (tl_6 (hk _ _ _ hI))) (fun _ _ q => absurd q hx)
  · exact sr_parts hg hv ha hb hcc (fun q => absurd ⟨h1, h2⟩ q) (fun _ _ q => absurd h3 q) (fun _ _ _ z hz => tl_val hz (lgs o _) (tl_6 (hk _ _ _ hI)))
