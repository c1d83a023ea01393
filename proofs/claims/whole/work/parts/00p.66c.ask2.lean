theorem tl_bool {z1 r x : Int32} {P R0 R1 : Prop} {a : Int64} (hz : z1 = 0) (h0 : r = 0 → lg_cmp a 0 = 0) (h1 : ¬ r = 0 → lg_cmp a 1 = 0) (k0 : R0) (k1 : R1) : wpX11_thrown (fun r6 _ => (r6 = 0 → (¬ (0 : Int32) = 0 → P) ∧ ((0 : Int32) = 0 → vp_in 0 1 ∧ (r = 0 → (lg_cmp a 0 = 0 → R0) ∧ (¬ lg_cmp a 0 = 0 → False)) ∧ (¬ r = 0 → (lg_cmp a 1 = 0 → R1) ∧ (¬ lg_cmp a 1 = 0 → False)))) ∧ (¬ r6 = 0 → False)) z1 := ⟨fun _ => ⟨fun z => absurd rfl z, fun _ => ⟨vin (by decide), fun e => ⟨fun _ => k0, fun z => absurd (h0 e) z⟩, fun e => ⟨fun _ => k1, fun z => absurd (h1 e) z⟩⟩⟩, fun z => absurd hz z⟩
theorem case_nearest : caseOk Inv wpL_1512 := by
  intro L xs kk u v o i hL hi hI hk
  have i1 : vp_in (nI i + 1) L := nI_p hi hL (j := 1) (by decide)
  have i2 : vp_in (nI i + 2) L := nI_p hi hL (j := 2) (by decide)
  obtain ⟨ht, ⟨g, k, Ls, ⟨hg, hc, hnt, hv⟩, ⟨hlc, hlh, hll⟩, hm, hsd, hst⟩, hwb, himg⟩ := id hI
  have hS1 := sh1_of hg hc hlc
  have hS2 := sh2_of hg hv hlh
  obtain ⟨a, ea, ha⟩ := zI_of (xs (nI i + 1).toNatClampNeg)
  unfold wpL_1512 wpL_nearest
  rw [ea]
  refine ⟨i1, i2, ?_⟩
  refine sp_nearest hg hc hS1 ha (fun hx => ⟨fun _ => ⟨i1, i2, ?_⟩, rfl⟩) (fun h1 z => ⟨vin (by decide), i1, i2, ?_⟩)
  · exact sr_nearest hg hv hS2 ha (fun _ r z hz => tl_thr hz (by decide) (tl_6 (hk _ _ _ hI))) (fun p => absurd p hx)
  · exact sr_nearest hg hv hS2 ha (fun q => absurd h1 q) (fun _ z hz => tl_val hz (lgs o _) (tl_6 (hk _ _ _ hI)))
theorem case_middle : caseOk Inv wpL_1580 := by
  intro L xs kk u v o i hL hi hI hk
  have i1 : vp_in (nI i + 1) L := nI_p hi hL (j := 1) (by decide)
  obtain ⟨ht, ⟨g, k, Ls, ⟨hg, hc, hnt, hv⟩, ⟨hlc, hlh, hll⟩, hm, hsd, hst⟩, hwb, himg⟩ := id hI
  have hS1 := sh1_of hg hc hlc
  have hS2 := sh2_of hg hv hlh
  unfold wpL_1580
  refine ⟨i1, ?_⟩
  refine sp_middle hg hc hS1 (fun z => ⟨i1, ?_⟩)
  exact sr_middle hg hv hS2 (fun z hz => tl_eq rfl (tl_6 (hk _ _ _ hI)))
theorem case_own : caseOk Inv wpL_1673 := by
  intro L xs kk u v o i hL hi hI hk
  have i1 : vp_in (nI i + 1) L := nI_p hi hL (j := 1) (by decide)
  obtain ⟨ht, ⟨g, k, Ls, ⟨hg, hc, hnt, hv⟩, ⟨hlc, hlh, hll⟩, hm, hsd, hst⟩, hwb, himg⟩ := id hI
  have hS1 := sh1_of hg hc hlc
  have hS2 := sh2_of hg hv hlh
  unfold wpL_1673 wpX10_own wpX11_own
  refine ⟨i1, ?_⟩
  refine sp_own hg hc hS1 (fun z => ⟨i1, ?_⟩)
  exact sr_ownOf hg hv hS2 (fun z => tl_eq rfl (tl_6 (hk _ _ _ hI)))
theorem case_forged : caseOk Inv wpL_1698 := by
  intro L xs kk u v o i hL hi hI hk
  have i1 : vp_in (nI i + 1) L := nI_p hi hL (j := 1) (by decide)
  have i2 : vp_in (nI i + 2) L := nI_p hi hL (j := 2) (by decide)
  obtain ⟨ht, ⟨g, k, Ls, ⟨hg, hc, hnt, hv⟩, ⟨hlc, hlh, hll⟩, hm, hsd, hst⟩, hwb, himg⟩ := id hI
  have hS1 := sh1_of hg hc hlc
  have hS2 := sh2_of hg hv hlh
  obtain ⟨a, ea, ha⟩ := zI_of (xs (nI i + 1).toNatClampNeg)
  unfold wpL_1698 wpL_forged
  rw [ea]
  refine ⟨i1, i2, ?_⟩
  refine sp_forged hg hc hS1 ha (fun hx => ⟨fun _ => ⟨i1, i2, ?_⟩, rfl⟩) (fun h1 h2 z => ⟨fun q => absurd q (by decide), fun _ => ⟨vin (by decide), i1, i2, ?_⟩⟩) (fun h1 h2 z => ⟨fun _ => ⟨vin (by decide), i1, i2, ?_⟩, fun q => absurd rfl q⟩)
  · exact sr_forged hg hv hS2 ha (fun _ r z hz => tl_thr hz (by decide) (tl_6 (hk _ _ _ hI))) (fun p => absurd p hx) (fun p => absurd p hx)
  · exact sr_forged hg hv hS2 ha (fun q => absurd h1 q) (fun _ _ z hz => tl_bool (x := 0) hz (fun q => absurd q (by decide)) (fun _ => lgs o _) (tl_6 (hk _ _ _ hI)) (tl_6 (hk _ _ _ hI))) (fun _ q => absurd h2 q)
  · exact sr_forged hg hv hS2 ha (fun q => absurd h1 q) (fun _ q => absurd q h2) (fun _ _ z hz => tl_bool (x := 0) hz (fun _ => lgs o _) (fun q => absurd rfl q) (tl_6 (hk _ _ _ hI)) (tl_6 (hk _ _ _ hI)))
theorem case_ring : caseOk Inv wpL_1189 := by
  intro L xs kk u v o i hL hi hI hk
  have i1 : vp_in (nI i + 1) L := nI_p hi hL (j := 1) (by decide)
  have i2 : vp_in (nI i + 2) L := nI_p hi hL (j := 2) (by decide)
  have i3 : vp_in (nI i + 3) L := nI_p hi hL (j := 3) (by decide)
  obtain ⟨ht, ⟨g, k, Ls, ⟨hg, hc, hnt, hv⟩, ⟨hlc, hlh, hll⟩, hm, hsd, hst⟩, hwb, himg⟩ := id hI
  have hS1 := sh1_of hg hc hlc
  have hS2 := sh2_of hg hv hlh
  obtain ⟨a, ea, ha⟩ := zI_of (xs (nI i + 1).toNatClampNeg)
  obtain ⟨b, eb, hb⟩ := zI_of (xs (nI i + 2).toNatClampNeg)
  unfold wpL_1189 wpL_ring
  rw [ea, eb]
  refine ⟨i1, i2, i3, fun e3 => ?_, fun e3 => ?_⟩
  · refine sp_ring hg hc hS1 ha hb (fun hx => ⟨fun _ => ⟨i1, i2, i3, fun _ => ?_, fun q => absurd e3 q⟩, rfl⟩) (fun h1 h2 z => ⟨vin (by decide), i1, i2, i3, fun _ => ?_, fun q => absurd e3 q⟩)
    · exact sr_ring hg hv hS2 ha hb (fun _ r z hz => tl_thr hz (by decide) (tl_6 (hk _ _ _ hI))) (fun p q => absurd ⟨p, q⟩ hx)
    · exact sr_ring hg hv hS2 ha hb (fun q => absurd ⟨h1, h2⟩ q) (fun _ _ z hz => tl_val hz (lgs o _) (tl_6 (hk _ _ _ hI)))
  · refine sp_ring hg hc hS1 ha hb (fun hx => ⟨fun _ => ⟨i1, i2, i3, fun q => absurd q e3, fun _ => ?_⟩, rfl⟩) (fun h1 h2 z => ⟨vin (by decide), i1, i2, i3, fun q => absurd q e3, fun _ => ?_⟩)
    · exact sr_ring hg hv hS2 ha hb (fun _ r z hz => tl_thr hz (by decide) (tl_6 (hk _ _ _ hI))) (fun p q => absurd ⟨p, q⟩ hx)
    · exact sr_ring hg hv hS2 ha hb (fun q => absurd ⟨h1, h2⟩ q) (fun _ _ z hz => tl_val hz (lgs o _) (tl_6 (hk _ _ _ hI)))
theorem case_needed : caseOk Inv wpL_1894 := by
  intro L xs kk u v o i hL hi hI hk
  obtain ⟨ht, ⟨g, k, Ls, hgr, hla, ⟨hmk, hcm, hwm⟩, hsd, hst⟩, hwb, himg⟩ := id hI
  unfold wpL_1894 wpX10_needed
  refine sp_needed hmk hcm (fun G hG => ?_)
  refine sr_needed hmk hwm (fun G' hG' => ?_)
  have e : G = G' := hG.same hG' (fun a b hP => (Mk.d_bd hmk (by unfold Mk.pairs at hP; omega) (by unfold Mk.pairs at hP; omega)).1)
  rw [e]
  exact tl_eq rfl (tl_6 (hk _ _ _ hI))
theorem WkR.fr {g : Gd} {a o l : Int} {w w' tk : Nat → Int32} {z : Lv} (h : WkR g a o l w w z tk) (hf : ∀ k : Nat, 5 ≤ k ∧ k ≤ 13 → w' k = w k) : WkR g a o l w' w' z tk := by
  obtain ⟨h1, h2, h3, ⟨k6, k7, k8, k9, k10, k11, k12⟩, h13, h5, hR⟩ := h
  exact ⟨Fx.rf _, rfl, fun _ _ => rfl, ⟨by rw [hf 6 (by omega)]; exact k6, by rw [hf 7 (by omega)]; exact k7, by rw [hf 8 (by omega)]; exact k8, by rw [hf 9 (by omega)]; exact k9, by rw [hf 10 (by omega)]; exact k10, by rw [hf 11 (by omega)]; exact k11, by rw [hf 12 (by omega)]; exact k12⟩, by rw [hf 13 (by omega)]; exact h13, by rw [hf 5 (by omega)]; exact h5, hR⟩
theorem StrollR.fr {g : Gd} {s : tX7} {w w' tk : Nat → Int32} {rm sd : Int32} (h : StrollR g s w tk rm sd) (hf : ∀ k : Nat, 5 ≤ k ∧ k ≤ 13 → w' k = w k) : StrollR g s w' tk rm sd := by
  rcases h with ⟨h1, h2, h3⟩ | ⟨h1, a, o, l, z, hl, hz, hW, hs, hr, hd⟩
  · exact Or.inl ⟨h1, by rw [hf 6 (by omega)]; exact h2, h3⟩
  · exact Or.inr ⟨h1, a, o, l, z, hl, hz, hW.fr hf, hs, hr, hd⟩
theorem LawS.fr {Ls : List Ln} {os w w' : Nat → Int32} {sz ln : Int32} (h : LawS Ls os sz ln w) (hf : ∀ k : Nat, k = 3 ∨ (858 ≤ k ∧ k < 1683) → w' k = w k) : LawS Ls os sz ln w' := by
  obtain ⟨h1, h2, h3⟩ := h
  exact ⟨h1, h2.fx hf, by rw [hf 3 (by omega)]; exact h3⟩
theorem WM.fr {k : Mk} {w w' : Nat → Int32} (hk : k.Ok) (h : WM k w) (hf : ∀ j : Nat, j = 4 ∨ (778 ≤ j ∧ j < 858) → w' j = w j) : WM k w' := by
  have h20 := hk.1
  refine ⟨by rw [hf 4 (by omega)]; exact h.1, fun a h0 h1 => ?_⟩
  obtain ⟨q1, q2, q3, q4⟩ := h.2 a h0 h1
  exact ⟨by rw [hf _ (by omega)]; exact q1, by rw [hf _ (by omega)]; exact q2, by rw [hf _ (by omega)]; exact q3, by rw [hf _ (by omega)]; exact q4⟩
theorem GrR.fr {g : Gd} {G : tX1} {w w' : Nat → Int32} (h : GrR g G w) (hf : Fx w w') : GrR g G w' := ⟨h.1, h.2.1, h.2.2.1, h.2.2.2.fx h.1 hf⟩
theorem case_seed : caseOk Inv wpL_2271 := by
  intro L xs kk u v o i hL hi hI hk
  have i1 : vp_in (nI i + 1) L := nI_p hi hL (j := 1) (by decide)
  obtain ⟨ht, ⟨g, k, Ls, hgr, hla, ⟨hmk, hcm, hwm⟩, hsd, hst⟩, hwb, himg⟩ := hI
  unfold wpL_2271 wpX10_seed wpX11_seed
  refine ⟨i1, i1, vin (by decide), fun v1 e1 => ⟨vin (by decide), tl_eq ?_ (tl_6 (hk _ _ _ ⟨ht, ⟨g, k, Ls, hgr.fr ?_, hla.fr (fun j hj => ?_), ⟨hmk, hcm, hwm.fr hmk (fun j hj => ?_)⟩, ?_, ?_⟩, hwb, himg⟩))⟩⟩
  · rw [e1]; exact hsd
  · exact Fx.upd (j := 5) (by omega)
  · show upd _ 5 _ _ = _
    rw [upd_eq, if_neg (by omega)]
  · show upd _ 5 _ _ = _
    rw [upd_eq, if_neg (by omega)]
  · rfl
  · rcases hst with ⟨h1, h2, h3⟩ | ⟨h1, a, o', l, z, hl, hz, hW, hs, hr, hd⟩
    · exact Or.inl ⟨h1, h2, h3⟩
    · obtain ⟨q1, q2, q3, ⟨k6, k7, k8, k9, k10, k11, k12⟩, h13, h5, hR⟩ := hW
      refine Or.inr ⟨h1, a, o', l, (z.m, z.d, z.n, z.gr, z.r, z.st, z.ga, xs (nI i + 1).toNatClampNeg), hl, hz, ⟨Fx.rf _, rfl, fun _ _ => rfl, ⟨?_, ?_, ?_, ?_, ?_, ?_, ?_⟩, ?_, ?_, hR⟩, hs, hr, rfl⟩
      · exact k6
      · exact k7
      · exact k8
      · exact k9
      · exact k10
      · exact k11
      · exact k12
      · exact h13
      · rfl
