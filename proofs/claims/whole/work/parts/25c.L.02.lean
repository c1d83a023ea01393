/-! LeadParkLaw.mark (LLeadPark;ZIII[J)I -/
abbrev ceL_mark (cyI cyB cyJ cyZ : ClassId) (a0 a1 a2 a3 a4 a5 a6 a7 b0_tape b0_kept b0_draftGround b0_draftLaw b0_grid b0_pack b0_pieces b0_thinning b1_ground b1_law b1_stroll n7 : Nat) (g0_imageKept : Int32) (g0_wrongByte : Int32) (g1_drawSeed : Int32) (g2_size : Int32) (f3 : Nat → Int32) (f4 : Nat → Int32) (f5 : Nat → Int32) (f6 : Nat → Int32) (f7 : Nat → Int64) : va_W := [(a0, .inr (10, [.ref b0_tape, .ref a1, .ref b0_kept, .ref b0_draftGround, .ref b0_draftLaw, .ref b0_grid, .ref b0_pack, .ref b0_pieces, .ref b0_thinning, .int g0_imageKept, .int g0_wrongByte])), (a1, .inr (6, [.ref b1_ground, .ref b1_law, .ref a2, .ref b1_stroll, .int g1_drawSeed])), (a2, .inr (3, [.ref a3, .ref a4, .ref a5, .ref a6, .int g2_size])), (a3, .inl (cyI, 20, .inl f3)), (a4, .inl (cyI, 20, .inl f4)), (a5, .inl (cyI, 20, .inl f5)), (a6, .inl (cyI, 20, .inl f6)), (a7, .inl (cyJ, n7, .inr (.inl f7)))]

abbrev rmL_mark : Room := { frames := 7, cells := 1, slots := 6, locals := 124 }
set_option maxRecDepth 100000 in
set_option maxHeartbeats 4000000 in
theorem ctL_mark (l : Launch) (hl0 : l.stackTraces = false) (dC : Nat → ClassId) (dI : Nat → Nat → Nat) (cyI cyB cyJ cyZ : ClassId) (sz : Nat) (a0 a1 a2 a3 a4 a5 a6 a7 b0_tape b0_kept b0_draftGround b0_draftLaw b0_grid b0_pack b0_pieces b0_thinning b1_ground b1_law b1_stroll n7 : Nat) (g0_imageKept : Int32) (g0_wrongByte : Int32) (g1_drawSeed : Int32) (g2_size : Int32) (f3 : Nat → Int32) (f4 : Nat → Int32) (f5 : Nat → Int32) (f6 : Nat → Int32) (f7 : Nat → Int64) (p1 : Int32) (p2 : Int32) (p3 : Int32) (p4 : Int32) (post : Int32 → (Int32 × (Nat → Int32) × (Nat → Int32) × (Nat → Int32) × (Nat → Int32) × (Nat → Int64)) → Prop) (adS : Nat → Nat) (hw : wpL_mark n7 post g2_size f3 f4 f5 f6 f7 p1 p2 p3 p4) : Met l yL_mark wsL_mark rmL_mark (va_Pc [.ref a0, .int p1, .int p2, .int p3, .int p4, .ref a7] (wPreX dC dI cyI cyB cyJ cyZ sz (ceL_mark cyI cyB cyJ cyZ a0 a1 a2 a3 a4 a5 a6 a7 b0_tape b0_kept b0_draftGround b0_draftLaw b0_grid b0_pack b0_pieces b0_thinning b1_ground b1_law b1_stroll n7 g0_imageKept g0_wrongByte g1_drawSeed g2_size f3 f4 f5 f6 f7) (txL adS))) (va_Qi post (fun u : Int32 × (Nat → Int32) × (Nat → Int32) × (Nat → Int32) × (Nat → Int32) × (Nat → Int64) => wAt dC dI cyI cyB cyJ cyZ (va_A (ceL_mark cyI cyB cyJ cyZ a0 a1 a2 a3 a4 a5 a6 a7 b0_tape b0_kept b0_draftGround b0_draftLaw b0_grid b0_pack b0_pieces b0_thinning b1_ground b1_law b1_stroll n7 g0_imageKept g0_wrongByte g1_drawSeed g2_size f3 f4 f5 f6 f7) sz) (ceL_mark cyI cyB cyJ cyZ a0 a1 a2 a3 a4 a5 a6 a7 b0_tape b0_kept b0_draftGround b0_draftLaw b0_grid b0_pack b0_pieces b0_thinning b1_ground b1_law b1_stroll n7 g0_imageKept g0_wrongByte g1_drawSeed u.1 u.2.1 u.2.2.1 u.2.2.2.1 u.2.2.2.2.1 u.2.2.2.2.2)) (va_A (ceL_mark cyI cyB cyJ cyZ a0 a1 a2 a3 a4 a5 a6 a7 b0_tape b0_kept b0_draftGround b0_draftLaw b0_grid b0_pack b0_pieces b0_thinning b1_ground b1_law b1_stroll n7 g0_imageKept g0_wrongByte g1_drawSeed g2_size f3 f4 f5 f6 f7) sz)) 1 6 (va_A (ceL_mark cyI cyB cyJ cyZ a0 a1 a2 a3 a4 a5 a6 a7 b0_tape b0_kept b0_draftGround b0_draftLaw b0_grid b0_pack b0_pieces b0_thinning b1_ground b1_law b1_stroll n7 g0_imageKept g0_wrongByte g1_drawSeed g2_size f3 f4 f5 f6 f7) sz) := by
  refine mt_ofWH (cc := cL_mark) (maxL := 7) (ret := (some .int)) (by decide) rfl ?_
  intro p e s m args below meth c s₁ B hml hv
  obtain ⟨rfl, ⟨hsz, hP, hK, hD0, hN⟩, hXs⟩ := hv
  have hx := B.exec
  have hb := B.bytes
  have hr := B.returns
  have hts := atoms_spec (ws := wsL_mark) B.pre
  have hown : s.vm.findClass RL = some m.cls := findClass_of_methodNamed B.named
  have hlocks := B.notSynchronized
  have htb := vx_table (x := yL_mark) B (hts _ (List.mem_of_getElem? (i := 0) rfl))
  subst hsz
  have hD := hD0.self (sz := s.heap.size)
  generalize hAe : va_A (ceL_mark cyI cyB cyJ cyZ a0 a1 a2 a3 a4 a5 a6 a7 b0_tape b0_kept b0_draftGround b0_draftLaw b0_grid b0_pack b0_pieces b0_thinning b1_ground b1_law b1_stroll n7 g0_imageKept g0_wrongByte g1_drawSeed g2_size f3 f4 f5 f6 f7) s.heap.size = A at hD hXs ⊢
  have hA : ∀ q : Nat, s.heap.size ≤ q → A q := fun q h => by rw [← hAe]; exact Or.inr h
  have hS : va_S A s.heap s.heap [] := va_S.rf
  have C0 : cxM p s m meth c _ wsL_mark RL cL_mark 7 (some .int) := ⟨hx, hb, hr, hml, hown, hts, hlocks⟩
  have hl := lv_entry ([.ref a0, .int p1, .int p2, .int p3, .int p4, .ref a7]) (n := 7) (Nat.le_of_ble_eq_true rfl)
  rw [lg_entry_eq]
  generalize (lg_sl ([.ref a0, .int p1, .int p2, .int p3, .int p4, .ref a7]) ++ List.replicate (7 - (lg_sl ([.ref a0, .int p1, .int p2, .int p3, .int p4, .ref a7])).length) Slot.unset).toArray = ls at hl ⊢
  have hl : lv_has ls 7 [(0, .ref a0), (1, .int p1), (2, .int p2), (3, .int p3), (4, .int p4), (5, .ref a7)] := hl
  show W p l e rmL_mark s m _ below meth c _ _ _ _ _ _
  refine wq (fun Q hQ => ?_)
  refine lv_aload hx hb dL_mark_0 (lv_at hl 5 rfl) ?_
  refine lv_iconst (v := 0) hx hb dL_mark_2 (by decide) ?_
  refine lv_aload_n hx hb dL_mark_3 rfl (lv_at hl 0 rfl) ?_
  refine lv_iload_n hx hb dL_mark_4 rfl (lv_at hl 1 rfl) ?_
  refine lv_iload_n hx hb dL_mark_5 rfl (lv_at hl 2 rfl) ?_
  refine lv_iload_n hx hb dL_mark_6 rfl (lv_at hl 3 rfl) ?_
  refine lv_iload hx hb dL_mark_7 (lv_at hl 4 rfl) ?_
  have hPc := hP.sub (ws' := (ceX10_mark cyI cyB cyJ cyZ a0 a1 a2 a3 a4 a5 a6 b0_tape b0_kept b0_draftGround b0_draftLaw b0_grid b0_pack b0_pieces b0_thinning b1_ground b1_law b1_stroll g0_imageKept g0_wrongByte g1_drawSeed g2_size f3 f4 f5 f6)) [0, 1, 2, 3, 4, 5, 6] rfl
  have hDc := hD.sub (ws' := (ceX10_mark cyI cyB cyJ cyZ a0 a1 a2 a3 a4 a5 a6 b0_tape b0_kept b0_draftGround b0_draftLaw b0_grid b0_pack b0_pieces b0_thinning b1_ground b1_law b1_stroll g0_imageKept g0_wrongByte g1_drawSeed g2_size f3 f4 f5 f6)) [0, 1, 2, 3, 4, 5, 6] (by decide) rfl
  have hFc := va_free (wc := (ceX10_mark cyI cyB cyJ cyZ a0 a1 a2 a3 a4 a5 a6 b0_tape b0_kept b0_draftGround b0_draftLaw b0_grid b0_pack b0_pieces b0_thinning b1_ground b1_law b1_stroll g0_imageKept g0_wrongByte g1_drawSeed g2_size f3 f4 f5 f6)) hD hS hA [0, 1, 2, 3, 4, 5, 6] rfl
  refine vx_calli (vx_runV (As := [.int p1, .int p2, .int p3, .int p4]) (rest := [.int 0, .ref a7]) ⟨hx, hb, hml, hown, hts⟩ (ctX10_mark l hl0 dC dI cyI cyB cyJ cyZ _ a0 a1 a2 a3 a4 a5 a6 b0_tape b0_kept b0_draftGround b0_draftLaw b0_grid b0_pack b0_pieces b0_thinning b1_ground b1_law b1_stroll g0_imageKept g0_wrongByte g1_drawSeed g2_size f3 f4 f5 f6 p1 p2 p3 p4 _ _ adS hw) (cwV 4 hts gL_mark_X10_mark rfl rfl rfl (by decide +kernel) ⟨Nat.le_of_ble_eq_true rfl, Nat.le_of_ble_eq_true rfl⟩) ⟨wPreX_blind (xOk_txT adS), va_recv hK hPc (ci := 10) (q0 := 0) rfl rfl, fun U hU hW => wPreX_of (xOk_txT adS) hPc hK hDc hN hXs.1 hS hFc hU hW⟩ rfl rfl hl.1 rfl (lv_room (Nat.le_of_ble_eq_true rfl)) dL_mark_9 ⟨(by decide), (by decide)⟩) hS (fun q _ h => hFc q h) hFc (fun q _ h => hFc q h) (fun E ce q9 u1 t H1 locs ht hvm hpx hBX hz1 hk1 hS hce hcv hcl => ?_) (fun r2 u1 t H1 locs ht hvm hw hB hz1 hk1 hS => ?_)
  · obtain ⟨hw, hP1, hK1, hD1⟩ := hBX
    rw [ht] at hP1
    obtain ⟨hP, hD⟩ := va_join (wr := pickW (ceL_mark cyI cyB cyJ cyZ a0 a1 a2 a3 a4 a5 a6 a7 b0_tape b0_kept b0_draftGround b0_draftLaw b0_grid b0_pack b0_pieces b0_thinning b1_ground b1_law b1_stroll n7 g0_imageKept g0_wrongByte g1_drawSeed g2_size f3 f4 f5 f6 f7) [7]) (w1 := (ceX10_mark cyI cyB cyJ cyZ a0 a1 a2 a3 a4 a5 a6 b0_tape b0_kept b0_draftGround b0_draftLaw b0_grid b0_pack b0_pieces b0_thinning b1_ground b1_law b1_stroll g0_imageKept g0_wrongByte g1_drawSeed u1.1 u1.2.1 u1.2.2.1 u1.2.2.2.1 u1.2.2.2.2)) hP hD [0, 1, 2, 3, 4, 5, 6] [7] rfl rfl (by decide) (by decide) hk1 hFc hP1 hD1
    have hP := hP.sub (ws' := (ceL_mark cyI cyB cyJ cyZ a0 a1 a2 a3 a4 a5 a6 a7 b0_tape b0_kept b0_draftGround b0_draftLaw b0_grid b0_pack b0_pieces b0_thinning b1_ground b1_law b1_stroll n7 g0_imageKept g0_wrongByte g1_drawSeed u1.1 u1.2.1 u1.2.2.1 u1.2.2.2.1 u1.2.2.2.2 f7)) [1, 2, 3, 4, 5, 6, 7, 0] rfl
    have hD := hD.sub (ws' := (ceL_mark cyI cyB cyJ cyZ a0 a1 a2 a3 a4 a5 a6 a7 b0_tape b0_kept b0_draftGround b0_draftLaw b0_grid b0_pack b0_pieces b0_thinning b1_ground b1_law b1_stroll n7 g0_imageKept g0_wrongByte g1_drawSeed u1.1 u1.2.1 u1.2.2.1 u1.2.2.2.1 u1.2.2.2.2 f7)) [1, 2, 3, 4, 5, 6, 7, 0] (by decide) rfl
    obtain ⟨hw0, hw1, hE⟩ := hw
    rcases hE with rfl | rfl
    · have hw := hw0 rfl
      refine ec_catch (name := "java/lang/IllegalArgumentException") hown [] _ _ (htb.trans rfl) (fun z hz => by cases hz) (by decide) (by decide) (hts (.classLink RL 13 "java/lang/IllegalArgumentException") (List.mem_of_getElem? (i := 1) rfl)) (va_Nw.use rfl (hXs.1.2.2.2 (.castable "java/lang/IllegalArgumentException" "java/lang/IllegalArgumentException") (by decide +kernel))) hce hcv hcl ?_
      refine W.eq (g2 := F0 m 17 ls [.ref q9]) rfl ?_
      refine lv_astore (lv' := [(6, .ref q9), (0, .ref a0), (1, .int p1), (2, .int p2), (3, .int p3), (4, .int p4), (5, .ref a7)]) hx hb dL_mark_17 hl (by decide) rfl (fun ls hl => ?_)
      refine lv_iconst (v := 1) hx hb dL_mark_19 (by decide) ?_
      rw [hQ]
      refine W.widen (k := 1) (n := 6) (by decide) (by decide) ?_
      exact W.iret (v := 1) hx hb hr (fun t ht hW => ⟨⟨1, (u1.1, u1.2.1, u1.2.2.1, u1.2.2.2.1, u1.2.2.2.2, f7), rfl, hw, by rw [ht]; exact hP, va_K.moved hW.alike hK, hD⟩, hS.F ht⟩) hS.2.2 dL_mark_20
    · have hw := hw1 rfl
      refine ec_catch (name := "java/lang/UnsupportedOperationException") hown [_] _ _ (htb.trans rfl) (fun z hz => by rw [List.mem_singleton] at hz; subst hz; exact Or.inr ⟨by decide, "java/lang/IllegalArgumentException", (hts (.classLink RL 13 "java/lang/IllegalArgumentException") (List.mem_of_getElem? (i := 1) rfl)), hXs.2.2⟩) (by decide) (by decide) (hts (.classLink RL 15 "java/lang/UnsupportedOperationException") (List.mem_of_getElem? (i := 2) rfl)) (va_Nw.use rfl (hXs.1.2.2.2 (.castable "java/lang/UnsupportedOperationException" "java/lang/UnsupportedOperationException") (by decide +kernel))) hce hcv hcl ?_
      refine W.eq (g2 := F0 m 21 ls [.ref q9]) rfl ?_
      refine lv_astore (lv' := [(6, .ref q9), (0, .ref a0), (1, .int p1), (2, .int p2), (3, .int p3), (4, .int p4), (5, .ref a7)]) hx hb dL_mark_21 hl (by decide) rfl (fun ls hl => ?_)
      refine lv_iconst (v := 2) hx hb dL_mark_23 (by decide) ?_
      rw [hQ]
      refine W.widen (k := 1) (n := 6) (by decide) (by decide) ?_
      exact W.iret (v := 2) hx hb hr (fun t ht hW => ⟨⟨2, (u1.1, u1.2.1, u1.2.2.1, u1.2.2.2.1, u1.2.2.2.2, f7), rfl, hw, by rw [ht]; exact hP, va_K.moved hW.alike hK, hD⟩, hS.F ht⟩) hS.2.2 dL_mark_24
  -- returned
  obtain ⟨hP1, hK1, hD1⟩ := hB
  rw [ht] at hP1
  obtain ⟨hP, hD⟩ := va_join (wr := pickW (ceL_mark cyI cyB cyJ cyZ a0 a1 a2 a3 a4 a5 a6 a7 b0_tape b0_kept b0_draftGround b0_draftLaw b0_grid b0_pack b0_pieces b0_thinning b1_ground b1_law b1_stroll n7 g0_imageKept g0_wrongByte g1_drawSeed g2_size f3 f4 f5 f6 f7) [7]) (w1 := (ceX10_mark cyI cyB cyJ cyZ a0 a1 a2 a3 a4 a5 a6 b0_tape b0_kept b0_draftGround b0_draftLaw b0_grid b0_pack b0_pieces b0_thinning b1_ground b1_law b1_stroll g0_imageKept g0_wrongByte g1_drawSeed u1.1 u1.2.1 u1.2.2.1 u1.2.2.2.1 u1.2.2.2.2)) hP hD [0, 1, 2, 3, 4, 5, 6] [7] rfl rfl (by decide) (by decide) hk1 hFc hP1 hD1
  have hP := hP.sub (ws' := (ceL_mark cyI cyB cyJ cyZ a0 a1 a2 a3 a4 a5 a6 a7 b0_tape b0_kept b0_draftGround b0_draftLaw b0_grid b0_pack b0_pieces b0_thinning b1_ground b1_law b1_stroll n7 g0_imageKept g0_wrongByte g1_drawSeed u1.1 u1.2.1 u1.2.2.1 u1.2.2.2.1 u1.2.2.2.2 f7)) [1, 2, 3, 4, 5, 6, 7, 0] rfl
  have hD := hD.sub (ws' := (ceL_mark cyI cyB cyJ cyZ a0 a1 a2 a3 a4 a5 a6 a7 b0_tape b0_kept b0_draftGround b0_draftLaw b0_grid b0_pack b0_pieces b0_thinning b1_ground b1_law b1_stroll n7 g0_imageKept g0_wrongByte g1_drawSeed u1.1 u1.2.1 u1.2.2.1 u1.2.2.2.1 u1.2.2.2.2 f7)) [1, 2, 3, 4, 5, 6, 7, 0] (by decide) rfl
  generalize H1 = H at hP hS ⊢
  refine W.widen (k := 1) (n := 6) (by decide) (by decide) ?_
  refine lv_i2l hx hb dL_mark_12 rfl ?_
  obtain ⟨hi, hw⟩ := hw
  refine va_last hx hb hK hP hD hS 7 2 rfl rfl hi dL_mark_13 (fun H locs hP hD hS => ?_)
  have hP : va_P (dC, dI) vwCl (ceL_mark cyI cyB cyJ cyZ a0 a1 a2 a3 a4 a5 a6 a7 b0_tape b0_kept b0_draftGround b0_draftLaw b0_grid b0_pack b0_pieces b0_thinning b1_ground b1_law b1_stroll n7 g0_imageKept g0_wrongByte g1_drawSeed u1.1 u1.2.1 u1.2.2.1 u1.2.2.2.1 u1.2.2.2.2 (vp_updL f7 (0 : Int32).toNatClampNeg (r2.toInt64))) H := hP
  have hD : va_D A (ceL_mark cyI cyB cyJ cyZ a0 a1 a2 a3 a4 a5 a6 a7 b0_tape b0_kept b0_draftGround b0_draftLaw b0_grid b0_pack b0_pieces b0_thinning b1_ground b1_law b1_stroll n7 g0_imageKept g0_wrongByte g1_drawSeed u1.1 u1.2.1 u1.2.2.1 u1.2.2.2.1 u1.2.2.2.2 (vp_updL f7 (0 : Int32).toNatClampNeg (r2.toInt64))) := hD
  refine lv_goto (tgt := 25) hx hb dL_mark_14 (by decide) ?_
  refine lv_iconst (v := 0) hx hb dL_mark_25 (by decide) ?_
  rw [hQ]
  refine W.widen (k := 1) (n := 6) (by decide) (by decide) ?_
  exact W.iret (v := 0) hx hb hr (fun t ht hW => ⟨⟨0, (u1.1, u1.2.1, u1.2.2.1, u1.2.2.2.1, u1.2.2.2.2, (vp_updL f7 (0 : Int32).toNatClampNeg (r2.toInt64))), rfl, hw, by rw [ht]; exact hP, va_K.moved hW.alike hK, hD⟩, hS.F ht⟩) hS.2.2 dL_mark_26
/-! LeadParkLaw.fits (LLeadPark;IIZ[J)I -/
abbrev ceL_fits (cyI cyB cyJ cyZ : ClassId) (a0 a1 a2 a3 a4 a5 a6 a7 b0_tape b0_kept b0_draftGround b0_draftLaw b0_grid b0_pack b0_pieces b0_thinning b1_ground b1_law b1_stroll n7 : Nat) (g0_imageKept : Int32) (g0_wrongByte : Int32) (g1_drawSeed : Int32) (g2_size : Int32) (f3 : Nat → Int32) (f4 : Nat → Int32) (f5 : Nat → Int32) (f6 : Nat → Int32) (f7 : Nat → Int64) : va_W := [(a0, .inr (10, [.ref b0_tape, .ref a1, .ref b0_kept, .ref b0_draftGround, .ref b0_draftLaw, .ref b0_grid, .ref b0_pack, .ref b0_pieces, .ref b0_thinning, .int g0_imageKept, .int g0_wrongByte])), (a1, .inr (6, [.ref b1_ground, .ref b1_law, .ref a2, .ref b1_stroll, .int g1_drawSeed])), (a2, .inr (3, [.ref a3, .ref a5, .ref a6, .ref a4, .int g2_size])), (a3, .inl (cyI, 20, .inl f3)), (a4, .inl (cyI, 20, .inl f4)), (a5, .inl (cyI, 20, .inl f5)), (a6, .inl (cyI, 20, .inl f6)), (a7, .inl (cyJ, n7, .inr (.inl f7)))]

abbrev rmL_fits : Room := { frames := 7, cells := 1, slots := 6, locals := 123 }
set_option maxRecDepth 100000 in
set_option maxHeartbeats 4000000 in
theorem ctL_fits (l : Launch) (hl0 : l.stackTraces = false) (dC : Nat → ClassId) (dI : Nat → Nat → Nat) (cyI cyB cyJ cyZ : ClassId) (sz : Nat) (a0 a1 a2 a3 a4 a5 a6 a7 b0_tape b0_kept b0_draftGround b0_draftLaw b0_grid b0_pack b0_pieces b0_thinning b1_ground b1_law b1_stroll n7 : Nat) (g0_imageKept : Int32) (g0_wrongByte : Int32) (g1_drawSeed : Int32) (g2_size : Int32) (f3 : Nat → Int32) (f4 : Nat → Int32) (f5 : Nat → Int32) (f6 : Nat → Int32) (f7 : Nat → Int64) (p1 : Int32) (p2 : Int32) (p3 : Int32) (post : Int32 → ((Nat → Int64)) → Prop) (adS : Nat → Nat) (hw : wpL_fits n7 post g2_size f3 f4 f5 f6 f7 p1 p2 p3) : Met l yL_fits wsL_fits rmL_fits (va_Pc [.ref a0, .int p1, .int p2, .int p3, .ref a7] (wPreX dC dI cyI cyB cyJ cyZ sz (ceL_fits cyI cyB cyJ cyZ a0 a1 a2 a3 a4 a5 a6 a7 b0_tape b0_kept b0_draftGround b0_draftLaw b0_grid b0_pack b0_pieces b0_thinning b1_ground b1_law b1_stroll n7 g0_imageKept g0_wrongByte g1_drawSeed g2_size f3 f4 f5 f6 f7) (txL adS))) (va_Qi post (fun u : (Nat → Int64) => wAt dC dI cyI cyB cyJ cyZ (va_A (ceL_fits cyI cyB cyJ cyZ a0 a1 a2 a3 a4 a5 a6 a7 b0_tape b0_kept b0_draftGround b0_draftLaw b0_grid b0_pack b0_pieces b0_thinning b1_ground b1_law b1_stroll n7 g0_imageKept g0_wrongByte g1_drawSeed g2_size f3 f4 f5 f6 f7) sz) (ceL_fits cyI cyB cyJ cyZ a0 a1 a2 a3 a4 a5 a6 a7 b0_tape b0_kept b0_draftGround b0_draftLaw b0_grid b0_pack b0_pieces b0_thinning b1_ground b1_law b1_stroll n7 g0_imageKept g0_wrongByte g1_drawSeed g2_size f3 f4 f5 f6 u)) (va_A (ceL_fits cyI cyB cyJ cyZ a0 a1 a2 a3 a4 a5 a6 a7 b0_tape b0_kept b0_draftGround b0_draftLaw b0_grid b0_pack b0_pieces b0_thinning b1_ground b1_law b1_stroll n7 g0_imageKept g0_wrongByte g1_drawSeed g2_size f3 f4 f5 f6 f7) sz)) 1 6 (va_A (ceL_fits cyI cyB cyJ cyZ a0 a1 a2 a3 a4 a5 a6 a7 b0_tape b0_kept b0_draftGround b0_draftLaw b0_grid b0_pack b0_pieces b0_thinning b1_ground b1_law b1_stroll n7 g0_imageKept g0_wrongByte g1_drawSeed g2_size f3 f4 f5 f6 f7) sz) := by
  refine mt_ofWH (cc := cL_fits) (maxL := 6) (ret := (some .int)) (by decide) rfl ?_
  intro p e s m args below meth c s₁ B hml hv
  obtain ⟨rfl, ⟨hsz, hP, hK, hD0, hN⟩, hXs⟩ := hv
  have hx := B.exec
  have hb := B.bytes
  have hr := B.returns
  have hts := atoms_spec (ws := wsL_fits) B.pre
  have hown : s.vm.findClass RL = some m.cls := findClass_of_methodNamed B.named
  have hlocks := B.notSynchronized
  have htb := vx_table (x := yL_fits) B (hts _ (List.mem_of_getElem? (i := 0) rfl))
  subst hsz
  have hD := hD0.self (sz := s.heap.size)
  generalize hAe : va_A (ceL_fits cyI cyB cyJ cyZ a0 a1 a2 a3 a4 a5 a6 a7 b0_tape b0_kept b0_draftGround b0_draftLaw b0_grid b0_pack b0_pieces b0_thinning b1_ground b1_law b1_stroll n7 g0_imageKept g0_wrongByte g1_drawSeed g2_size f3 f4 f5 f6 f7) s.heap.size = A at hD hXs ⊢
  have hA : ∀ q : Nat, s.heap.size ≤ q → A q := fun q h => by rw [← hAe]; exact Or.inr h
  have hS : va_S A s.heap s.heap [] := va_S.rf
  have C0 : cxM p s m meth c _ wsL_fits RL cL_fits 6 (some .int) := ⟨hx, hb, hr, hml, hown, hts, hlocks⟩
  have hl := lv_entry ([.ref a0, .int p1, .int p2, .int p3, .ref a7]) (n := 6) (Nat.le_of_ble_eq_true rfl)
  rw [lg_entry_eq]
  generalize (lg_sl ([.ref a0, .int p1, .int p2, .int p3, .ref a7]) ++ List.replicate (6 - (lg_sl ([.ref a0, .int p1, .int p2, .int p3, .ref a7])).length) Slot.unset).toArray = ls at hl ⊢
  have hl : lv_has ls 6 [(0, .ref a0), (1, .int p1), (2, .int p2), (3, .int p3), (4, .ref a7)] := hl
  show W p l e rmL_fits s m _ below meth c _ _ _ _ _ _
  refine wq (fun Q hQ => ?_)
  refine lv_aload hx hb dL_fits_0 (lv_at hl 4 rfl) ?_
  refine lv_iconst (v := 0) hx hb dL_fits_2 (by decide) ?_
  refine lv_aload_n hx hb dL_fits_3 rfl (lv_at hl 0 rfl) ?_
  refine lv_iload_n hx hb dL_fits_4 rfl (lv_at hl 1 rfl) ?_
  refine lv_iload_n hx hb dL_fits_5 rfl (lv_at hl 2 rfl) ?_
  refine lv_iload_n hx hb dL_fits_6 rfl (lv_at hl 3 rfl) ?_
  have hPc := hP.sub (ws' := (ceX10_fits cyI cyB cyJ cyZ a0 a1 a2 a3 a4 a5 a6 b0_tape b0_kept b0_draftGround b0_draftLaw b0_grid b0_pack b0_pieces b0_thinning b1_ground b1_law b1_stroll g0_imageKept g0_wrongByte g1_drawSeed g2_size f3 f4 f5 f6)) [0, 1, 2, 3, 4, 5, 6] rfl
  have hDc := hD.sub (ws' := (ceX10_fits cyI cyB cyJ cyZ a0 a1 a2 a3 a4 a5 a6 b0_tape b0_kept b0_draftGround b0_draftLaw b0_grid b0_pack b0_pieces b0_thinning b1_ground b1_law b1_stroll g0_imageKept g0_wrongByte g1_drawSeed g2_size f3 f4 f5 f6)) [0, 1, 2, 3, 4, 5, 6] (by decide) rfl
  have hFc := va_free (wc := (ceX10_fits cyI cyB cyJ cyZ a0 a1 a2 a3 a4 a5 a6 b0_tape b0_kept b0_draftGround b0_draftLaw b0_grid b0_pack b0_pieces b0_thinning b1_ground b1_law b1_stroll g0_imageKept g0_wrongByte g1_drawSeed g2_size f3 f4 f5 f6)) hD hS hA [0, 1, 2, 3, 4, 5, 6] rfl
  refine vx_calli (vx_runV (As := [.int p1, .int p2, .int p3]) (rest := [.int 0, .ref a7]) ⟨hx, hb, hml, hown, hts⟩ (ctX10_fits l hl0 dC dI cyI cyB cyJ cyZ _ a0 a1 a2 a3 a4 a5 a6 b0_tape b0_kept b0_draftGround b0_draftLaw b0_grid b0_pack b0_pieces b0_thinning b1_ground b1_law b1_stroll g0_imageKept g0_wrongByte g1_drawSeed g2_size f3 f4 f5 f6 p1 p2 p3 _ _ adS hw) (cwV 3 hts gL_fits_X10_fits rfl rfl rfl (by decide +kernel) ⟨Nat.le_of_ble_eq_true rfl, Nat.le_of_ble_eq_true rfl⟩) ⟨wPreX_blind (xOk_txT adS), va_recv hK hPc (ci := 10) (q0 := 0) rfl rfl, fun U hU hW => wPreX_of (xOk_txT adS) hPc hK hDc hN hXs.1 hS hFc hU hW⟩ rfl rfl hl.1 rfl (lv_room (Nat.le_of_ble_eq_true rfl)) dL_fits_7 ⟨(by decide), (by decide)⟩) hS (fun q _ h => hFc q h) hFc (fun q _ h => hFc q h) (fun E ce q9 u1 t H1 locs ht hvm hpx hBX hz1 hk1 hS hce hcv hcl => ?_) (fun r2 u1 t H1 locs ht hvm hw hB hz1 hk1 hS => ?_)
  · obtain ⟨hw, hP1, hK1, hD1⟩ := hBX
    rw [ht] at hP1
    obtain ⟨hP, hD⟩ := va_join (wr := pickW (ceL_fits cyI cyB cyJ cyZ a0 a1 a2 a3 a4 a5 a6 a7 b0_tape b0_kept b0_draftGround b0_draftLaw b0_grid b0_pack b0_pieces b0_thinning b1_ground b1_law b1_stroll n7 g0_imageKept g0_wrongByte g1_drawSeed g2_size f3 f4 f5 f6 f7) [7]) (w1 := (ceX10_fits cyI cyB cyJ cyZ a0 a1 a2 a3 a4 a5 a6 b0_tape b0_kept b0_draftGround b0_draftLaw b0_grid b0_pack b0_pieces b0_thinning b1_ground b1_law b1_stroll g0_imageKept g0_wrongByte g1_drawSeed g2_size f3 f4 f5 f6)) hP hD [0, 1, 2, 3, 4, 5, 6] [7] rfl rfl (by decide) (by decide) hk1 hFc hP1 hD1
    have hP := hP.sub (ws' := (ceL_fits cyI cyB cyJ cyZ a0 a1 a2 a3 a4 a5 a6 a7 b0_tape b0_kept b0_draftGround b0_draftLaw b0_grid b0_pack b0_pieces b0_thinning b1_ground b1_law b1_stroll n7 g0_imageKept g0_wrongByte g1_drawSeed g2_size f3 f4 f5 f6 f7)) [1, 2, 3, 4, 5, 6, 7, 0] rfl
    have hD := hD.sub (ws' := (ceL_fits cyI cyB cyJ cyZ a0 a1 a2 a3 a4 a5 a6 a7 b0_tape b0_kept b0_draftGround b0_draftLaw b0_grid b0_pack b0_pieces b0_thinning b1_ground b1_law b1_stroll n7 g0_imageKept g0_wrongByte g1_drawSeed g2_size f3 f4 f5 f6 f7)) [1, 2, 3, 4, 5, 6, 7, 0] (by decide) rfl
    obtain ⟨hw0, hE⟩ := hw
    subst hE
    have hw := hw0 rfl
    refine ec_catch (name := "java/lang/IllegalArgumentException") hown [] _ _ (htb.trans rfl) (fun z hz => by cases hz) (by decide) (by decide) (hts (.classLink RL 13 "java/lang/IllegalArgumentException") (List.mem_of_getElem? (i := 1) rfl)) (va_Nw.use rfl (hXs.1.2.2.2 (.castable "java/lang/IllegalArgumentException" "java/lang/IllegalArgumentException") (by decide +kernel))) hce hcv hcl ?_
    refine W.eq (g2 := F0 m 15 ls [.ref q9]) rfl ?_
    refine lv_astore (lv' := [(5, .ref q9), (0, .ref a0), (1, .int p1), (2, .int p2), (3, .int p3), (4, .ref a7)]) hx hb dL_fits_15 hl (by decide) rfl (fun ls hl => ?_)
    refine lv_iconst (v := 1) hx hb dL_fits_17 (by decide) ?_
    rw [hQ]
    refine W.widen (k := 1) (n := 6) (by decide) (by decide) ?_
    exact W.iret (v := 1) hx hb hr (fun t ht hW => ⟨⟨1, (f7), rfl, hw, by rw [ht]; exact hP, va_K.moved hW.alike hK, hD⟩, hS.F ht⟩) hS.2.2 dL_fits_18
  -- returned
  obtain ⟨hP1, hK1, hD1⟩ := hB
  rw [ht] at hP1
  obtain ⟨hP, hD⟩ := va_join (wr := pickW (ceL_fits cyI cyB cyJ cyZ a0 a1 a2 a3 a4 a5 a6 a7 b0_tape b0_kept b0_draftGround b0_draftLaw b0_grid b0_pack b0_pieces b0_thinning b1_ground b1_law b1_stroll n7 g0_imageKept g0_wrongByte g1_drawSeed g2_size f3 f4 f5 f6 f7) [7]) (w1 := (ceX10_fits cyI cyB cyJ cyZ a0 a1 a2 a3 a4 a5 a6 b0_tape b0_kept b0_draftGround b0_draftLaw b0_grid b0_pack b0_pieces b0_thinning b1_ground b1_law b1_stroll g0_imageKept g0_wrongByte g1_drawSeed g2_size f3 f4 f5 f6)) hP hD [0, 1, 2, 3, 4, 5, 6] [7] rfl rfl (by decide) (by decide) hk1 hFc hP1 hD1
  have hP := hP.sub (ws' := (ceL_fits cyI cyB cyJ cyZ a0 a1 a2 a3 a4 a5 a6 a7 b0_tape b0_kept b0_draftGround b0_draftLaw b0_grid b0_pack b0_pieces b0_thinning b1_ground b1_law b1_stroll n7 g0_imageKept g0_wrongByte g1_drawSeed g2_size f3 f4 f5 f6 f7)) [1, 2, 3, 4, 5, 6, 7, 0] rfl
  have hD := hD.sub (ws' := (ceL_fits cyI cyB cyJ cyZ a0 a1 a2 a3 a4 a5 a6 a7 b0_tape b0_kept b0_draftGround b0_draftLaw b0_grid b0_pack b0_pieces b0_thinning b1_ground b1_law b1_stroll n7 g0_imageKept g0_wrongByte g1_drawSeed g2_size f3 f4 f5 f6 f7)) [1, 2, 3, 4, 5, 6, 7, 0] (by decide) rfl
  generalize H1 = H at hP hS ⊢
  refine W.widen (k := 1) (n := 6) (by decide) (by decide) ?_
  refine lv_i2l hx hb dL_fits_10 rfl ?_
  obtain ⟨hi, hw⟩ := hw
  refine va_last hx hb hK hP hD hS 7 2 rfl rfl hi dL_fits_11 (fun H locs hP hD hS => ?_)
  have hP : va_P (dC, dI) vwCl (ceL_fits cyI cyB cyJ cyZ a0 a1 a2 a3 a4 a5 a6 a7 b0_tape b0_kept b0_draftGround b0_draftLaw b0_grid b0_pack b0_pieces b0_thinning b1_ground b1_law b1_stroll n7 g0_imageKept g0_wrongByte g1_drawSeed g2_size f3 f4 f5 f6 (vp_updL f7 (0 : Int32).toNatClampNeg (r2.toInt64))) H := hP
  have hD : va_D A (ceL_fits cyI cyB cyJ cyZ a0 a1 a2 a3 a4 a5 a6 a7 b0_tape b0_kept b0_draftGround b0_draftLaw b0_grid b0_pack b0_pieces b0_thinning b1_ground b1_law b1_stroll n7 g0_imageKept g0_wrongByte g1_drawSeed g2_size f3 f4 f5 f6 (vp_updL f7 (0 : Int32).toNatClampNeg (r2.toInt64))) := hD
  refine lv_goto (tgt := 19) hx hb dL_fits_12 (by decide) ?_
  refine lv_iconst (v := 0) hx hb dL_fits_19 (by decide) ?_
  rw [hQ]
  refine W.widen (k := 1) (n := 6) (by decide) (by decide) ?_
  exact W.iret (v := 0) hx hb hr (fun t ht hW => ⟨⟨0, ((vp_updL f7 (0 : Int32).toNatClampNeg (r2.toInt64))), rfl, hw, by rw [ht]; exact hP, va_K.moved hW.alike hK, hD⟩, hS.F ht⟩) hS.2.2 dL_fits_20
/-! LeadParkLaw.begin (LLeadPark;III[J)I -/
abbrev ceL_begin (cyI cyB cyJ cyZ : ClassId) (a0 a1 a2 a3 a4 a5 a6 a7 a8 a9 a10 a11 b0_tape b0_kept b0_draftGround b0_draftLaw b0_grid b0_pack b0_pieces b0_thinning b1_marks b10_steps b10_greatestAhead n11 : Nat) (g0_imageKept : Int32) (g0_wrongByte : Int32) (g1_drawSeed : Int32) (g2_texts : Int32) (g7_lines : Int32) (g2_ways : Int32) (g2_wallCount : Int32) (f3 : Nat → Int32) (f4 : Nat → Int32) (f5 : Nat → Int32) (f6 : Nat → Int32) (g7_size : Int32) (f9 : Nat → Int32) (f8 : Nat → Int32) (g10_underWay : Int32) (g10_way : Int32) (g10_other : Int32) (g10_lead : Int32) (g10_man : Int32) (g10_dog : Int32) (g10_gone : Int32) (g10_greatest : Int32) (g10_remembered : Int32) (f11 : Nat → Int64) : va_W := [(a0, .inr (10, [.ref b0_tape, .ref a1, .ref b0_kept, .ref b0_draftGround, .ref b0_draftLaw, .ref b0_grid, .ref b0_pack, .ref b0_pieces, .ref b0_thinning, .int g0_imageKept, .int g0_wrongByte])), (a1, .inr (6, [.ref a2, .ref a7, .ref b1_marks, .ref a10, .int g1_drawSeed])), (a2, .inr (1, [.ref a4, .ref a5, .ref a3, .ref a6, .int g2_ways, .int g2_wallCount, .int g2_texts])), (a3, .inl (cyI, 12, .inl f3)), (a4, .inl (cyI, 360, .inl f4)), (a5, .inl (cyI, 360, .inl f5)), (a6, .inl (cyI, 32, .inl f6)), (a7, .inr (2, [.ref a9, .ref a8, .int g7_size, .int g7_lines])), (a8, .inl (cyI, 7, .inl f8)), (a9, .inl (cyI, 400, .inl f9)), (a10, .inr (7, [.int g10_underWay, .int g10_way, .int g10_other, .int g10_lead, .int g10_man, .int g10_dog, .int g10_gone, .int g10_greatest, .int g10_remembered, .ref b10_steps, .ref b10_greatestAhead])), (a11, .inl (cyJ, n11, .inr (.inl f11)))]

abbrev rmL_begin : Room := { frames := 8, cells := 3, slots := 18, locals := 176 }
set_option maxRecDepth 100000 in
set_option maxHeartbeats 4000000 in
theorem ctL_begin (l : Launch) (hl0 : l.stackTraces = false) (dC : Nat → ClassId) (dI : Nat → Nat → Nat) (cyI cyB cyJ cyZ : ClassId) (sz : Nat) (a0 a1 a2 a3 a4 a5 a6 a7 a8 a9 a10 a11 b0_tape b0_kept b0_draftGround b0_draftLaw b0_grid b0_pack b0_pieces b0_thinning b1_marks b10_steps b10_greatestAhead n11 : Nat) (g0_imageKept : Int32) (g0_wrongByte : Int32) (g1_drawSeed : Int32) (g2_texts : Int32) (g7_lines : Int32) (g2_ways : Int32) (g2_wallCount : Int32) (f3 : Nat → Int32) (f4 : Nat → Int32) (f5 : Nat → Int32) (f6 : Nat → Int32) (g7_size : Int32) (f9 : Nat → Int32) (f8 : Nat → Int32) (g10_underWay : Int32) (g10_way : Int32) (g10_other : Int32) (g10_lead : Int32) (g10_man : Int32) (g10_dog : Int32) (g10_gone : Int32) (g10_greatest : Int32) (g10_remembered : Int32) (f11 : Nat → Int64) (p1 : Int32) (p2 : Int32) (p3 : Int32) (post : Int32 → ((Nat → Int32) × Int32 × Int32 × Int32 × Int32 × Int32 × Int32 × Int32 × Int32 × Int32 × (Nat → Int64)) → Prop) (adS : Nat → Nat) (hw : wpL_begin n11 post g2_ways g2_wallCount f3 f4 f5 f6 g7_size f9 f8 g10_underWay g10_way g10_other g10_lead g10_man g10_dog g10_gone g10_greatest g10_remembered f11 p1 p2 p3) : Met l yL_begin wsL_begin rmL_begin (va_Pc [.ref a0, .int p1, .int p2, .int p3, .ref a11] (wPreX dC dI cyI cyB cyJ cyZ sz (ceL_begin cyI cyB cyJ cyZ a0 a1 a2 a3 a4 a5 a6 a7 a8 a9 a10 a11 b0_tape b0_kept b0_draftGround b0_draftLaw b0_grid b0_pack b0_pieces b0_thinning b1_marks b10_steps b10_greatestAhead n11 g0_imageKept g0_wrongByte g1_drawSeed g2_texts g7_lines g2_ways g2_wallCount f3 f4 f5 f6 g7_size f9 f8 g10_underWay g10_way g10_other g10_lead g10_man g10_dog g10_gone g10_greatest g10_remembered f11) (txL adS))) (va_Qi post (fun u : (Nat → Int32) × Int32 × Int32 × Int32 × Int32 × Int32 × Int32 × Int32 × Int32 × Int32 × (Nat → Int64) => wAt dC dI cyI cyB cyJ cyZ (va_A (ceL_begin cyI cyB cyJ cyZ a0 a1 a2 a3 a4 a5 a6 a7 a8 a9 a10 a11 b0_tape b0_kept b0_draftGround b0_draftLaw b0_grid b0_pack b0_pieces b0_thinning b1_marks b10_steps b10_greatestAhead n11 g0_imageKept g0_wrongByte g1_drawSeed g2_texts g7_lines g2_ways g2_wallCount f3 f4 f5 f6 g7_size f9 f8 g10_underWay g10_way g10_other g10_lead g10_man g10_dog g10_gone g10_greatest g10_remembered f11) sz) (ceL_begin cyI cyB cyJ cyZ a0 a1 a2 a3 a4 a5 a6 a7 a8 a9 a10 a11 b0_tape b0_kept b0_draftGround b0_draftLaw b0_grid b0_pack b0_pieces b0_thinning b1_marks b10_steps b10_greatestAhead n11 g0_imageKept g0_wrongByte g1_drawSeed g2_texts g7_lines g2_ways g2_wallCount f3 f4 f5 f6 g7_size f9 u.1 u.2.1 u.2.2.1 u.2.2.2.1 u.2.2.2.2.1 u.2.2.2.2.2.1 u.2.2.2.2.2.2.1 u.2.2.2.2.2.2.2.1 u.2.2.2.2.2.2.2.2.1 u.2.2.2.2.2.2.2.2.2.1 u.2.2.2.2.2.2.2.2.2.2)) (va_A (ceL_begin cyI cyB cyJ cyZ a0 a1 a2 a3 a4 a5 a6 a7 a8 a9 a10 a11 b0_tape b0_kept b0_draftGround b0_draftLaw b0_grid b0_pack b0_pieces b0_thinning b1_marks b10_steps b10_greatestAhead n11 g0_imageKept g0_wrongByte g1_drawSeed g2_texts g7_lines g2_ways g2_wallCount f3 f4 f5 f6 g7_size f9 f8 g10_underWay g10_way g10_other g10_lead g10_man g10_dog g10_gone g10_greatest g10_remembered f11) sz)) 3 18 (va_A (ceL_begin cyI cyB cyJ cyZ a0 a1 a2 a3 a4 a5 a6 a7 a8 a9 a10 a11 b0_tape b0_kept b0_draftGround b0_draftLaw b0_grid b0_pack b0_pieces b0_thinning b1_marks b10_steps b10_greatestAhead n11 g0_imageKept g0_wrongByte g1_drawSeed g2_texts g7_lines g2_ways g2_wallCount f3 f4 f5 f6 g7_size f9 f8 g10_underWay g10_way g10_other g10_lead g10_man g10_dog g10_gone g10_greatest g10_remembered f11) sz) := by
  refine mt_ofWH (cc := cL_begin) (maxL := 6) (ret := (some .int)) (by decide) rfl ?_
  intro p e s m args below meth c s₁ B hml hv
  obtain ⟨rfl, ⟨hsz, hP, hK, hD0, hN⟩, hXs⟩ := hv
  have hx := B.exec
  have hb := B.bytes
  have hr := B.returns
  have hts := atoms_spec (ws := wsL_begin) B.pre
  have hown : s.vm.findClass RL = some m.cls := findClass_of_methodNamed B.named
  have hlocks := B.notSynchronized
  have htb := vx_table (x := yL_begin) B (hts _ (List.mem_of_getElem? (i := 0) rfl))
  subst hsz
  have hD := hD0.self (sz := s.heap.size)
  generalize hAe : va_A (ceL_begin cyI cyB cyJ cyZ a0 a1 a2 a3 a4 a5 a6 a7 a8 a9 a10 a11 b0_tape b0_kept b0_draftGround b0_draftLaw b0_grid b0_pack b0_pieces b0_thinning b1_marks b10_steps b10_greatestAhead n11 g0_imageKept g0_wrongByte g1_drawSeed g2_texts g7_lines g2_ways g2_wallCount f3 f4 f5 f6 g7_size f9 f8 g10_underWay g10_way g10_other g10_lead g10_man g10_dog g10_gone g10_greatest g10_remembered f11) s.heap.size = A at hD hXs ⊢
  have hA : ∀ q : Nat, s.heap.size ≤ q → A q := fun q h => by rw [← hAe]; exact Or.inr h
  have hS : va_S A s.heap s.heap [] := va_S.rf
  have C0 : cxM p s m meth c _ wsL_begin RL cL_begin 6 (some .int) := ⟨hx, hb, hr, hml, hown, hts, hlocks⟩
  have hl := lv_entry ([.ref a0, .int p1, .int p2, .int p3, .ref a11]) (n := 6) (Nat.le_of_ble_eq_true rfl)
  rw [lg_entry_eq]
  generalize (lg_sl ([.ref a0, .int p1, .int p2, .int p3, .ref a11]) ++ List.replicate (6 - (lg_sl ([.ref a0, .int p1, .int p2, .int p3, .ref a11])).length) Slot.unset).toArray = ls at hl ⊢
  have hl : lv_has ls 6 [(0, .ref a0), (1, .int p1), (2, .int p2), (3, .int p3), (4, .ref a11)] := hl
  show W p l e rmL_begin s m _ below meth c _ _ _ _ _ _
  refine wq (fun Q hQ => ?_)
  refine lv_aload hx hb dL_begin_0 (lv_at hl 4 rfl) ?_
  refine lv_iconst (v := 0) hx hb dL_begin_2 (by decide) ?_
  refine lv_aload_n hx hb dL_begin_3 rfl (lv_at hl 0 rfl) ?_
  refine lv_iload_n hx hb dL_begin_4 rfl (lv_at hl 1 rfl) ?_
  refine lv_iload_n hx hb dL_begin_5 rfl (lv_at hl 2 rfl) ?_
  refine lv_iload_n hx hb dL_begin_6 rfl (lv_at hl 3 rfl) ?_
  have hPc := hP.sub (ws' := (ceX10_begin cyI cyB cyJ cyZ a0 a1 a2 a3 a4 a5 a6 a7 a8 a9 a10 b0_tape b0_kept b0_draftGround b0_draftLaw b0_grid b0_pack b0_pieces b0_thinning b1_marks b10_steps b10_greatestAhead g0_imageKept g0_wrongByte g1_drawSeed g2_texts g7_lines g2_ways g2_wallCount f3 f4 f5 f6 g7_size f9 f8 g10_underWay g10_way g10_other g10_lead g10_man g10_dog g10_gone g10_greatest g10_remembered)) [0, 1, 2, 3, 4, 5, 6, 7, 8, 9, 10] rfl
  have hDc := hD.sub (ws' := (ceX10_begin cyI cyB cyJ cyZ a0 a1 a2 a3 a4 a5 a6 a7 a8 a9 a10 b0_tape b0_kept b0_draftGround b0_draftLaw b0_grid b0_pack b0_pieces b0_thinning b1_marks b10_steps b10_greatestAhead g0_imageKept g0_wrongByte g1_drawSeed g2_texts g7_lines g2_ways g2_wallCount f3 f4 f5 f6 g7_size f9 f8 g10_underWay g10_way g10_other g10_lead g10_man g10_dog g10_gone g10_greatest g10_remembered)) [0, 1, 2, 3, 4, 5, 6, 7, 8, 9, 10] (by decide) rfl
  have hFc := va_free (wc := (ceX10_begin cyI cyB cyJ cyZ a0 a1 a2 a3 a4 a5 a6 a7 a8 a9 a10 b0_tape b0_kept b0_draftGround b0_draftLaw b0_grid b0_pack b0_pieces b0_thinning b1_marks b10_steps b10_greatestAhead g0_imageKept g0_wrongByte g1_drawSeed g2_texts g7_lines g2_ways g2_wallCount f3 f4 f5 f6 g7_size f9 f8 g10_underWay g10_way g10_other g10_lead g10_man g10_dog g10_gone g10_greatest g10_remembered)) hD hS hA [0, 1, 2, 3, 4, 5, 6, 7, 8, 9, 10] rfl
  refine vx_calli (vx_runV (As := [.int p1, .int p2, .int p3]) (rest := [.int 0, .ref a11]) ⟨hx, hb, hml, hown, hts⟩ (ctX10_begin l hl0 dC dI cyI cyB cyJ cyZ _ a0 a1 a2 a3 a4 a5 a6 a7 a8 a9 a10 b0_tape b0_kept b0_draftGround b0_draftLaw b0_grid b0_pack b0_pieces b0_thinning b1_marks b10_steps b10_greatestAhead g0_imageKept g0_wrongByte g1_drawSeed g2_texts g7_lines g2_ways g2_wallCount f3 f4 f5 f6 g7_size f9 f8 g10_underWay g10_way g10_other g10_lead g10_man g10_dog g10_gone g10_greatest g10_remembered p1 p2 p3 _ _ adS hw) (cwV 3 hts gL_begin_X10_begin rfl rfl rfl (by decide +kernel) ⟨Nat.le_of_ble_eq_true rfl, Nat.le_of_ble_eq_true rfl⟩) ⟨wPreX_blind (xOk_txT adS), va_recv hK hPc (ci := 10) (q0 := 0) rfl rfl, fun U hU hW => wPreX_of (xOk_txT adS) hPc hK hDc hN hXs.1 hS hFc hU hW⟩ rfl rfl hl.1 rfl (lv_room (Nat.le_of_ble_eq_true rfl)) dL_begin_7 ⟨(by decide), (by decide)⟩) hS (fun q _ h => hFc q h) hFc (fun q _ h => hFc q h) (fun E ce q9 u1 t H1 locs ht hvm hpx hBX hz1 hk1 hS hce hcv hcl => ?_) (fun r2 u1 t H1 locs ht hvm hw hB hz1 hk1 hS => ?_)
  · obtain ⟨hw, hP1, hK1, hD1⟩ := hBX
    rw [ht] at hP1
    obtain ⟨hP, hD⟩ := va_join (wr := pickW (ceL_begin cyI cyB cyJ cyZ a0 a1 a2 a3 a4 a5 a6 a7 a8 a9 a10 a11 b0_tape b0_kept b0_draftGround b0_draftLaw b0_grid b0_pack b0_pieces b0_thinning b1_marks b10_steps b10_greatestAhead n11 g0_imageKept g0_wrongByte g1_drawSeed g2_texts g7_lines g2_ways g2_wallCount f3 f4 f5 f6 g7_size f9 f8 g10_underWay g10_way g10_other g10_lead g10_man g10_dog g10_gone g10_greatest g10_remembered f11) [11]) (w1 := (ceX10_begin cyI cyB cyJ cyZ a0 a1 a2 a3 a4 a5 a6 a7 a8 a9 a10 b0_tape b0_kept b0_draftGround b0_draftLaw b0_grid b0_pack b0_pieces b0_thinning b1_marks b10_steps b10_greatestAhead g0_imageKept g0_wrongByte g1_drawSeed g2_texts g7_lines g2_ways g2_wallCount f3 f4 f5 f6 g7_size f9 u1.1 u1.2.1 u1.2.2.1 u1.2.2.2.1 u1.2.2.2.2.1 u1.2.2.2.2.2.1 u1.2.2.2.2.2.2.1 u1.2.2.2.2.2.2.2.1 u1.2.2.2.2.2.2.2.2.1 u1.2.2.2.2.2.2.2.2.2)) hP hD [0, 1, 2, 3, 4, 5, 6, 7, 8, 9, 10] [11] rfl rfl (by decide) (by decide) hk1 hFc hP1 hD1
    have hP := hP.sub (ws' := (ceL_begin cyI cyB cyJ cyZ a0 a1 a2 a3 a4 a5 a6 a7 a8 a9 a10 a11 b0_tape b0_kept b0_draftGround b0_draftLaw b0_grid b0_pack b0_pieces b0_thinning b1_marks b10_steps b10_greatestAhead n11 g0_imageKept g0_wrongByte g1_drawSeed g2_texts g7_lines g2_ways g2_wallCount f3 f4 f5 f6 g7_size f9 u1.1 u1.2.1 u1.2.2.1 u1.2.2.2.1 u1.2.2.2.2.1 u1.2.2.2.2.2.1 u1.2.2.2.2.2.2.1 u1.2.2.2.2.2.2.2.1 u1.2.2.2.2.2.2.2.2.1 u1.2.2.2.2.2.2.2.2.2 f11)) [1, 2, 3, 4, 5, 6, 7, 8, 9, 10, 11, 0] rfl
    have hD := hD.sub (ws' := (ceL_begin cyI cyB cyJ cyZ a0 a1 a2 a3 a4 a5 a6 a7 a8 a9 a10 a11 b0_tape b0_kept b0_draftGround b0_draftLaw b0_grid b0_pack b0_pieces b0_thinning b1_marks b10_steps b10_greatestAhead n11 g0_imageKept g0_wrongByte g1_drawSeed g2_texts g7_lines g2_ways g2_wallCount f3 f4 f5 f6 g7_size f9 u1.1 u1.2.1 u1.2.2.1 u1.2.2.2.1 u1.2.2.2.2.1 u1.2.2.2.2.2.1 u1.2.2.2.2.2.2.1 u1.2.2.2.2.2.2.2.1 u1.2.2.2.2.2.2.2.2.1 u1.2.2.2.2.2.2.2.2.2 f11)) [1, 2, 3, 4, 5, 6, 7, 8, 9, 10, 11, 0] (by decide) rfl
    obtain ⟨hw0, hw1, hE⟩ := hw
    rcases hE with rfl | rfl
    · have hw := hw0 rfl
      refine ec_catch (name := "java/lang/IndexOutOfBoundsException") hown [] _ _ (htb.trans rfl) (fun z hz => by cases hz) (by decide) (by decide) (hts (.classLink RL 24 "java/lang/IndexOutOfBoundsException") (List.mem_of_getElem? (i := 1) rfl)) (va_Nw.use rfl (hXs.1.2.2.2 (.castable "java/lang/IndexOutOfBoundsException" "java/lang/IndexOutOfBoundsException") (by decide +kernel))) hce hcv hcl ?_
      refine W.eq (g2 := F0 m 22 ls [.ref q9]) rfl ?_
      refine lv_astore (lv' := [(5, .ref q9), (0, .ref a0), (1, .int p1), (2, .int p2), (3, .int p3), (4, .ref a11)]) hx hb dL_begin_22 hl (by decide) rfl (fun ls hl => ?_)
      refine lv_iconst (v := 1) hx hb dL_begin_24 (by decide) ?_
      rw [hQ]
      refine W.widen (k := 3) (n := 18) (by decide) (by decide) ?_
      exact W.iret (v := 1) hx hb hr (fun t ht hW => ⟨⟨1, (u1.1, u1.2.1, u1.2.2.1, u1.2.2.2.1, u1.2.2.2.2.1, u1.2.2.2.2.2.1, u1.2.2.2.2.2.2.1, u1.2.2.2.2.2.2.2.1, u1.2.2.2.2.2.2.2.2.1, u1.2.2.2.2.2.2.2.2.2, f11), rfl, hw, by rw [ht]; exact hP, va_K.moved hW.alike hK, hD⟩, hS.F ht⟩) hS.2.2 dL_begin_25
    · have hw := hw1 rfl
      refine ec_catch (name := "java/lang/IllegalArgumentException") hown [_] _ _ (htb.trans rfl) (fun z hz => by rw [List.mem_singleton] at hz; subst hz; exact Or.inr ⟨by decide, "java/lang/IndexOutOfBoundsException", (hts (.classLink RL 24 "java/lang/IndexOutOfBoundsException") (List.mem_of_getElem? (i := 1) rfl)), hXs.2.1⟩) (by decide) (by decide) (hts (.classLink RL 13 "java/lang/IllegalArgumentException") (List.mem_of_getElem? (i := 2) rfl)) (va_Nw.use rfl (hXs.1.2.2.2 (.castable "java/lang/IllegalArgumentException" "java/lang/IllegalArgumentException") (by decide +kernel))) hce hcv hcl ?_
      refine W.eq (g2 := F0 m 26 ls [.ref q9]) rfl ?_
      refine lv_astore (lv' := [(5, .ref q9), (0, .ref a0), (1, .int p1), (2, .int p2), (3, .int p3), (4, .ref a11)]) hx hb dL_begin_26 hl (by decide) rfl (fun ls hl => ?_)
      refine lv_iconst (v := 2) hx hb dL_begin_28 (by decide) ?_
      rw [hQ]
      refine W.widen (k := 3) (n := 18) (by decide) (by decide) ?_
      exact W.iret (v := 2) hx hb hr (fun t ht hW => ⟨⟨2, (u1.1, u1.2.1, u1.2.2.1, u1.2.2.2.1, u1.2.2.2.2.1, u1.2.2.2.2.2.1, u1.2.2.2.2.2.2.1, u1.2.2.2.2.2.2.2.1, u1.2.2.2.2.2.2.2.2.1, u1.2.2.2.2.2.2.2.2.2, f11), rfl, hw, by rw [ht]; exact hP, va_K.moved hW.alike hK, hD⟩, hS.F ht⟩) hS.2.2 dL_begin_29
  -- returned
  obtain ⟨hP1, hK1, hD1⟩ := hB
  rw [ht] at hP1
  obtain ⟨hP, hD⟩ := va_join (wr := pickW (ceL_begin cyI cyB cyJ cyZ a0 a1 a2 a3 a4 a5 a6 a7 a8 a9 a10 a11 b0_tape b0_kept b0_draftGround b0_draftLaw b0_grid b0_pack b0_pieces b0_thinning b1_marks b10_steps b10_greatestAhead n11 g0_imageKept g0_wrongByte g1_drawSeed g2_texts g7_lines g2_ways g2_wallCount f3 f4 f5 f6 g7_size f9 f8 g10_underWay g10_way g10_other g10_lead g10_man g10_dog g10_gone g10_greatest g10_remembered f11) [11]) (w1 := (ceX10_begin cyI cyB cyJ cyZ a0 a1 a2 a3 a4 a5 a6 a7 a8 a9 a10 b0_tape b0_kept b0_draftGround b0_draftLaw b0_grid b0_pack b0_pieces b0_thinning b1_marks b10_steps b10_greatestAhead g0_imageKept g0_wrongByte g1_drawSeed g2_texts g7_lines g2_ways g2_wallCount f3 f4 f5 f6 g7_size f9 u1.1 u1.2.1 u1.2.2.1 u1.2.2.2.1 u1.2.2.2.2.1 u1.2.2.2.2.2.1 u1.2.2.2.2.2.2.1 u1.2.2.2.2.2.2.2.1 u1.2.2.2.2.2.2.2.2.1 u1.2.2.2.2.2.2.2.2.2)) hP hD [0, 1, 2, 3, 4, 5, 6, 7, 8, 9, 10] [11] rfl rfl (by decide) (by decide) hk1 hFc hP1 hD1
  have hP := hP.sub (ws' := (ceL_begin cyI cyB cyJ cyZ a0 a1 a2 a3 a4 a5 a6 a7 a8 a9 a10 a11 b0_tape b0_kept b0_draftGround b0_draftLaw b0_grid b0_pack b0_pieces b0_thinning b1_marks b10_steps b10_greatestAhead n11 g0_imageKept g0_wrongByte g1_drawSeed g2_texts g7_lines g2_ways g2_wallCount f3 f4 f5 f6 g7_size f9 u1.1 u1.2.1 u1.2.2.1 u1.2.2.2.1 u1.2.2.2.2.1 u1.2.2.2.2.2.1 u1.2.2.2.2.2.2.1 u1.2.2.2.2.2.2.2.1 u1.2.2.2.2.2.2.2.2.1 u1.2.2.2.2.2.2.2.2.2 f11)) [1, 2, 3, 4, 5, 6, 7, 8, 9, 10, 11, 0] rfl
  have hD := hD.sub (ws' := (ceL_begin cyI cyB cyJ cyZ a0 a1 a2 a3 a4 a5 a6 a7 a8 a9 a10 a11 b0_tape b0_kept b0_draftGround b0_draftLaw b0_grid b0_pack b0_pieces b0_thinning b1_marks b10_steps b10_greatestAhead n11 g0_imageKept g0_wrongByte g1_drawSeed g2_texts g7_lines g2_ways g2_wallCount f3 f4 f5 f6 g7_size f9 u1.1 u1.2.1 u1.2.2.1 u1.2.2.2.1 u1.2.2.2.2.1 u1.2.2.2.2.2.1 u1.2.2.2.2.2.2.1 u1.2.2.2.2.2.2.2.1 u1.2.2.2.2.2.2.2.2.1 u1.2.2.2.2.2.2.2.2.2 f11)) [1, 2, 3, 4, 5, 6, 7, 8, 9, 10, 11, 0] (by decide) rfl
  generalize H1 = H at hP hS ⊢
  refine W.widen (k := 3) (n := 18) (by decide) (by decide) ?_
  refine lv_if_eq (tgt := 17) hx hb dL_begin_10 (by decide) (fun hc => ?_) (fun hc => ?_)
  · have hw := hw.1 hc
    refine lv_lconst (v := 0) hx hb dL_begin_17 (by decide) ?_
    obtain ⟨hi, hw⟩ := hw
    refine va_last hx hb hK hP hD hS 11 2 rfl rfl hi dL_begin_18 (fun H locs hP hD hS => ?_)
    have hP : va_P (dC, dI) vwCl (ceL_begin cyI cyB cyJ cyZ a0 a1 a2 a3 a4 a5 a6 a7 a8 a9 a10 a11 b0_tape b0_kept b0_draftGround b0_draftLaw b0_grid b0_pack b0_pieces b0_thinning b1_marks b10_steps b10_greatestAhead n11 g0_imageKept g0_wrongByte g1_drawSeed g2_texts g7_lines g2_ways g2_wallCount f3 f4 f5 f6 g7_size f9 u1.1 u1.2.1 u1.2.2.1 u1.2.2.2.1 u1.2.2.2.2.1 u1.2.2.2.2.2.1 u1.2.2.2.2.2.2.1 u1.2.2.2.2.2.2.2.1 u1.2.2.2.2.2.2.2.2.1 u1.2.2.2.2.2.2.2.2.2 (vp_updL f11 (0 : Int32).toNatClampNeg 0)) H := hP
    have hD : va_D A (ceL_begin cyI cyB cyJ cyZ a0 a1 a2 a3 a4 a5 a6 a7 a8 a9 a10 a11 b0_tape b0_kept b0_draftGround b0_draftLaw b0_grid b0_pack b0_pieces b0_thinning b1_marks b10_steps b10_greatestAhead n11 g0_imageKept g0_wrongByte g1_drawSeed g2_texts g7_lines g2_ways g2_wallCount f3 f4 f5 f6 g7_size f9 u1.1 u1.2.1 u1.2.2.1 u1.2.2.2.1 u1.2.2.2.2.1 u1.2.2.2.2.2.1 u1.2.2.2.2.2.2.1 u1.2.2.2.2.2.2.2.1 u1.2.2.2.2.2.2.2.2.1 u1.2.2.2.2.2.2.2.2.2 (vp_updL f11 (0 : Int32).toNatClampNeg 0)) := hD
    refine lv_goto (tgt := 30) hx hb dL_begin_19 (by decide) ?_
    refine lv_iconst (v := 0) hx hb dL_begin_30 (by decide) ?_
    rw [hQ]
    refine W.widen (k := 3) (n := 18) (by decide) (by decide) ?_
    exact W.iret (v := 0) hx hb hr (fun t ht hW => ⟨⟨0, (u1.1, u1.2.1, u1.2.2.1, u1.2.2.2.1, u1.2.2.2.2.1, u1.2.2.2.2.2.1, u1.2.2.2.2.2.2.1, u1.2.2.2.2.2.2.2.1, u1.2.2.2.2.2.2.2.2.1, u1.2.2.2.2.2.2.2.2.2, (vp_updL f11 (0 : Int32).toNatClampNeg 0)), rfl, hw, by rw [ht]; exact hP, va_K.moved hW.alike hK, hD⟩, hS.F ht⟩) hS.2.2 dL_begin_31
  · have hw := hw.2 hc
    refine lv_lconst (v := 1) hx hb dL_begin_13 (by decide) ?_
    refine lv_goto (tgt := 18) hx hb dL_begin_14 (by decide) ?_
    obtain ⟨hi, hw⟩ := hw
    refine va_last hx hb hK hP hD hS 11 2 rfl rfl hi dL_begin_18 (fun H locs hP hD hS => ?_)
    have hP : va_P (dC, dI) vwCl (ceL_begin cyI cyB cyJ cyZ a0 a1 a2 a3 a4 a5 a6 a7 a8 a9 a10 a11 b0_tape b0_kept b0_draftGround b0_draftLaw b0_grid b0_pack b0_pieces b0_thinning b1_marks b10_steps b10_greatestAhead n11 g0_imageKept g0_wrongByte g1_drawSeed g2_texts g7_lines g2_ways g2_wallCount f3 f4 f5 f6 g7_size f9 u1.1 u1.2.1 u1.2.2.1 u1.2.2.2.1 u1.2.2.2.2.1 u1.2.2.2.2.2.1 u1.2.2.2.2.2.2.1 u1.2.2.2.2.2.2.2.1 u1.2.2.2.2.2.2.2.2.1 u1.2.2.2.2.2.2.2.2.2 (vp_updL f11 (0 : Int32).toNatClampNeg 1)) H := hP
    have hD : va_D A (ceL_begin cyI cyB cyJ cyZ a0 a1 a2 a3 a4 a5 a6 a7 a8 a9 a10 a11 b0_tape b0_kept b0_draftGround b0_draftLaw b0_grid b0_pack b0_pieces b0_thinning b1_marks b10_steps b10_greatestAhead n11 g0_imageKept g0_wrongByte g1_drawSeed g2_texts g7_lines g2_ways g2_wallCount f3 f4 f5 f6 g7_size f9 u1.1 u1.2.1 u1.2.2.1 u1.2.2.2.1 u1.2.2.2.2.1 u1.2.2.2.2.2.1 u1.2.2.2.2.2.2.1 u1.2.2.2.2.2.2.2.1 u1.2.2.2.2.2.2.2.2.1 u1.2.2.2.2.2.2.2.2.2 (vp_updL f11 (0 : Int32).toNatClampNeg 1)) := hD
    refine lv_goto (tgt := 30) hx hb dL_begin_19 (by decide) ?_
    refine lv_iconst (v := 0) hx hb dL_begin_30 (by decide) ?_
    rw [hQ]
    refine W.widen (k := 3) (n := 18) (by decide) (by decide) ?_
    exact W.iret (v := 0) hx hb hr (fun t ht hW => ⟨⟨0, (u1.1, u1.2.1, u1.2.2.1, u1.2.2.2.1, u1.2.2.2.2.1, u1.2.2.2.2.2.1, u1.2.2.2.2.2.2.1, u1.2.2.2.2.2.2.2.1, u1.2.2.2.2.2.2.2.2.1, u1.2.2.2.2.2.2.2.2.2, (vp_updL f11 (0 : Int32).toNatClampNeg 1)), rfl, hw, by rw [ht]; exact hP, va_K.moved hW.alike hK, hD⟩, hS.F ht⟩) hS.2.2 dL_begin_31
/-! LeadParkLaw.step (LLeadPark;I[J)I -/
abbrev ceL_step (cyI cyB cyJ cyZ : ClassId) (a0 a1 a2 a3 a4 a5 a6 a7 a8 a9 a10 a11 a12 a13 b0_tape b0_kept b0_draftGround b0_draftLaw b0_grid b0_pack b0_pieces b0_thinning b1_marks n13 : Nat) (g0_imageKept : Int32) (g0_wrongByte : Int32) (g1_drawSeed : Int32) (g5_texts : Int32) (g10_lines : Int32) (g2_underWay : Int32) (g2_way : Int32) (g2_other : Int32) (g2_lead : Int32) (g5_ways : Int32) (g5_wallCount : Int32) (f6 : Nat → Int32) (f7 : Nat → Int32) (f8 : Nat → Int32) (f9 : Nat → Int32) (g10_size : Int32) (f12 : Nat → Int32) (g2_man : Int32) (g2_dog : Int32) (g2_gone : Int32) (g2_greatest : Int32) (g2_remembered : Int32) (f3 : Nat → Int32) (f4 : Nat → Int32) (f11 : Nat → Int32) (f13 : Nat → Int64) : va_W := [(a0, .inr (10, [.ref b0_tape, .ref a1, .ref b0_kept, .ref b0_draftGround, .ref b0_draftLaw, .ref b0_grid, .ref b0_pack, .ref b0_pieces, .ref b0_thinning, .int g0_imageKept, .int g0_wrongByte])), (a1, .inr (6, [.ref a5, .ref a10, .ref b1_marks, .ref a2, .int g1_drawSeed])), (a2, .inr (7, [.int g2_underWay, .int g2_way, .int g2_other, .int g2_lead, .int g2_man, .int g2_dog, .int g2_gone, .int g2_greatest, .int g2_remembered, .ref a3, .ref a4])), (a3, .inl (cyI, 58, .inl f3)), (a4, .inl (cyI, 58, .inl f4)), (a5, .inr (1, [.ref a7, .ref a8, .ref a6, .ref a9, .int g5_ways, .int g5_wallCount, .int g5_texts])), (a6, .inl (cyI, 12, .inl f6)), (a7, .inl (cyI, 360, .inl f7)), (a8, .inl (cyI, 360, .inl f8)), (a9, .inl (cyI, 32, .inl f9)), (a10, .inr (2, [.ref a12, .ref a11, .int g10_size, .int g10_lines])), (a11, .inl (cyI, 7, .inl f11)), (a12, .inl (cyI, 400, .inl f12)), (a13, .inl (cyJ, n13, .inr (.inl f13)))]

abbrev rmL_step : Room := { frames := 7, cells := 1, slots := 6, locals := 195 }
set_option maxRecDepth 100000 in
set_option maxHeartbeats 4000000 in
theorem ctL_step (l : Launch) (hl0 : l.stackTraces = false) (dC : Nat → ClassId) (dI : Nat → Nat → Nat) (cyI cyB cyJ cyZ : ClassId) (sz : Nat) (a0 a1 a2 a3 a4 a5 a6 a7 a8 a9 a10 a11 a12 a13 b0_tape b0_kept b0_draftGround b0_draftLaw b0_grid b0_pack b0_pieces b0_thinning b1_marks n13 : Nat) (g0_imageKept : Int32) (g0_wrongByte : Int32) (g1_drawSeed : Int32) (g5_texts : Int32) (g10_lines : Int32) (g2_underWay : Int32) (g2_way : Int32) (g2_other : Int32) (g2_lead : Int32) (g5_ways : Int32) (g5_wallCount : Int32) (f6 : Nat → Int32) (f7 : Nat → Int32) (f8 : Nat → Int32) (f9 : Nat → Int32) (g10_size : Int32) (f12 : Nat → Int32) (g2_man : Int32) (g2_dog : Int32) (g2_gone : Int32) (g2_greatest : Int32) (g2_remembered : Int32) (f3 : Nat → Int32) (f4 : Nat → Int32) (f11 : Nat → Int32) (f13 : Nat → Int64) (p1 : Int32) (post : Int32 → (Int32 × Int32 × Int32 × Int32 × Int32 × (Nat → Int32) × (Nat → Int32) × (Nat → Int32) × (Nat → Int64)) → Prop) (adS : Nat → Nat) (hw : wpL_step n13 post g2_underWay g2_way g2_other g2_lead g5_ways g5_wallCount f6 f7 f8 f9 g10_size f12 g2_man g2_dog g2_gone g2_greatest g2_remembered f3 f4 f11 f13 p1) : Met l yL_step wsL_step rmL_step (va_Pc [.ref a0, .int p1, .ref a13] (wPreX dC dI cyI cyB cyJ cyZ sz (ceL_step cyI cyB cyJ cyZ a0 a1 a2 a3 a4 a5 a6 a7 a8 a9 a10 a11 a12 a13 b0_tape b0_kept b0_draftGround b0_draftLaw b0_grid b0_pack b0_pieces b0_thinning b1_marks n13 g0_imageKept g0_wrongByte g1_drawSeed g5_texts g10_lines g2_underWay g2_way g2_other g2_lead g5_ways g5_wallCount f6 f7 f8 f9 g10_size f12 g2_man g2_dog g2_gone g2_greatest g2_remembered f3 f4 f11 f13) (txL adS))) (va_Qi post (fun u : Int32 × Int32 × Int32 × Int32 × Int32 × (Nat → Int32) × (Nat → Int32) × (Nat → Int32) × (Nat → Int64) => wAt dC dI cyI cyB cyJ cyZ (va_A (ceL_step cyI cyB cyJ cyZ a0 a1 a2 a3 a4 a5 a6 a7 a8 a9 a10 a11 a12 a13 b0_tape b0_kept b0_draftGround b0_draftLaw b0_grid b0_pack b0_pieces b0_thinning b1_marks n13 g0_imageKept g0_wrongByte g1_drawSeed g5_texts g10_lines g2_underWay g2_way g2_other g2_lead g5_ways g5_wallCount f6 f7 f8 f9 g10_size f12 g2_man g2_dog g2_gone g2_greatest g2_remembered f3 f4 f11 f13) sz) (ceL_step cyI cyB cyJ cyZ a0 a1 a2 a3 a4 a5 a6 a7 a8 a9 a10 a11 a12 a13 b0_tape b0_kept b0_draftGround b0_draftLaw b0_grid b0_pack b0_pieces b0_thinning b1_marks n13 g0_imageKept g0_wrongByte g1_drawSeed g5_texts g10_lines g2_underWay g2_way g2_other g2_lead g5_ways g5_wallCount f6 f7 f8 f9 g10_size f12 u.1 u.2.1 u.2.2.1 u.2.2.2.1 u.2.2.2.2.1 u.2.2.2.2.2.1 u.2.2.2.2.2.2.1 u.2.2.2.2.2.2.2.1 u.2.2.2.2.2.2.2.2)) (va_A (ceL_step cyI cyB cyJ cyZ a0 a1 a2 a3 a4 a5 a6 a7 a8 a9 a10 a11 a12 a13 b0_tape b0_kept b0_draftGround b0_draftLaw b0_grid b0_pack b0_pieces b0_thinning b1_marks n13 g0_imageKept g0_wrongByte g1_drawSeed g5_texts g10_lines g2_underWay g2_way g2_other g2_lead g5_ways g5_wallCount f6 f7 f8 f9 g10_size f12 g2_man g2_dog g2_gone g2_greatest g2_remembered f3 f4 f11 f13) sz)) 1 6 (va_A (ceL_step cyI cyB cyJ cyZ a0 a1 a2 a3 a4 a5 a6 a7 a8 a9 a10 a11 a12 a13 b0_tape b0_kept b0_draftGround b0_draftLaw b0_grid b0_pack b0_pieces b0_thinning b1_marks n13 g0_imageKept g0_wrongByte g1_drawSeed g5_texts g10_lines g2_underWay g2_way g2_other g2_lead g5_ways g5_wallCount f6 f7 f8 f9 g10_size f12 g2_man g2_dog g2_gone g2_greatest g2_remembered f3 f4 f11 f13) sz) := by
  refine mt_ofWH (cc := cL_step) (maxL := 4) (ret := (some .int)) (by decide) rfl ?_
  intro p e s m args below meth c s₁ B hml hv
  obtain ⟨rfl, ⟨hsz, hP, hK, hD0, hN⟩, hXs⟩ := hv
  have hx := B.exec
  have hb := B.bytes
  have hr := B.returns
  have hts := atoms_spec (ws := wsL_step) B.pre
  have hown : s.vm.findClass RL = some m.cls := findClass_of_methodNamed B.named
  have hlocks := B.notSynchronized
  have htb := vx_table (x := yL_step) B (hts _ (List.mem_of_getElem? (i := 0) rfl))
  subst hsz
  have hD := hD0.self (sz := s.heap.size)
  generalize hAe : va_A (ceL_step cyI cyB cyJ cyZ a0 a1 a2 a3 a4 a5 a6 a7 a8 a9 a10 a11 a12 a13 b0_tape b0_kept b0_draftGround b0_draftLaw b0_grid b0_pack b0_pieces b0_thinning b1_marks n13 g0_imageKept g0_wrongByte g1_drawSeed g5_texts g10_lines g2_underWay g2_way g2_other g2_lead g5_ways g5_wallCount f6 f7 f8 f9 g10_size f12 g2_man g2_dog g2_gone g2_greatest g2_remembered f3 f4 f11 f13) s.heap.size = A at hD hXs ⊢
  have hA : ∀ q : Nat, s.heap.size ≤ q → A q := fun q h => by rw [← hAe]; exact Or.inr h
  have hS : va_S A s.heap s.heap [] := va_S.rf
  have C0 : cxM p s m meth c _ wsL_step RL cL_step 4 (some .int) := ⟨hx, hb, hr, hml, hown, hts, hlocks⟩
  have hl := lv_entry ([.ref a0, .int p1, .ref a13]) (n := 4) (Nat.le_of_ble_eq_true rfl)
  rw [lg_entry_eq]
  generalize (lg_sl ([.ref a0, .int p1, .ref a13]) ++ List.replicate (4 - (lg_sl ([.ref a0, .int p1, .ref a13])).length) Slot.unset).toArray = ls at hl ⊢
  have hl : lv_has ls 4 [(0, .ref a0), (1, .int p1), (2, .ref a13)] := hl
  show W p l e rmL_step s m _ below meth c _ _ _ _ _ _
  refine wq (fun Q hQ => ?_)
  refine lv_aload_n hx hb dL_step_0 rfl (lv_at hl 2 rfl) ?_
  refine lv_iconst (v := 0) hx hb dL_step_1 (by decide) ?_
  refine lv_aload_n hx hb dL_step_2 rfl (lv_at hl 0 rfl) ?_
  refine lv_iload_n hx hb dL_step_3 rfl (lv_at hl 1 rfl) ?_
  have hPc := hP.sub (ws' := (ceX10_step cyI cyB cyJ cyZ a0 a1 a2 a3 a4 a5 a6 a7 a8 a9 a10 a11 a12 b0_tape b0_kept b0_draftGround b0_draftLaw b0_grid b0_pack b0_pieces b0_thinning b1_marks g0_imageKept g0_wrongByte g1_drawSeed g5_texts g10_lines g2_underWay g2_way g2_other g2_lead g5_ways g5_wallCount f6 f7 f8 f9 g10_size f12 g2_man g2_dog g2_gone g2_greatest g2_remembered f3 f4 f11)) [0, 1, 2, 3, 4, 5, 6, 7, 8, 9, 10, 11, 12] rfl
  have hDc := hD.sub (ws' := (ceX10_step cyI cyB cyJ cyZ a0 a1 a2 a3 a4 a5 a6 a7 a8 a9 a10 a11 a12 b0_tape b0_kept b0_draftGround b0_draftLaw b0_grid b0_pack b0_pieces b0_thinning b1_marks g0_imageKept g0_wrongByte g1_drawSeed g5_texts g10_lines g2_underWay g2_way g2_other g2_lead g5_ways g5_wallCount f6 f7 f8 f9 g10_size f12 g2_man g2_dog g2_gone g2_greatest g2_remembered f3 f4 f11)) [0, 1, 2, 3, 4, 5, 6, 7, 8, 9, 10, 11, 12] (by decide) rfl
  have hFc := va_free (wc := (ceX10_step cyI cyB cyJ cyZ a0 a1 a2 a3 a4 a5 a6 a7 a8 a9 a10 a11 a12 b0_tape b0_kept b0_draftGround b0_draftLaw b0_grid b0_pack b0_pieces b0_thinning b1_marks g0_imageKept g0_wrongByte g1_drawSeed g5_texts g10_lines g2_underWay g2_way g2_other g2_lead g5_ways g5_wallCount f6 f7 f8 f9 g10_size f12 g2_man g2_dog g2_gone g2_greatest g2_remembered f3 f4 f11)) hD hS hA [0, 1, 2, 3, 4, 5, 6, 7, 8, 9, 10, 11, 12] rfl
  refine vx_calli (vx_runV (As := [.int p1]) (rest := [.int 0, .ref a13]) ⟨hx, hb, hml, hown, hts⟩ (ctX10_step l hl0 dC dI cyI cyB cyJ cyZ _ a0 a1 a2 a3 a4 a5 a6 a7 a8 a9 a10 a11 a12 b0_tape b0_kept b0_draftGround b0_draftLaw b0_grid b0_pack b0_pieces b0_thinning b1_marks g0_imageKept g0_wrongByte g1_drawSeed g5_texts g10_lines g2_underWay g2_way g2_other g2_lead g5_ways g5_wallCount f6 f7 f8 f9 g10_size f12 g2_man g2_dog g2_gone g2_greatest g2_remembered f3 f4 f11 p1 _ _ adS hw) (cwV 1 hts gL_step_X10_step rfl rfl rfl (by decide +kernel) ⟨Nat.le_of_ble_eq_true rfl, Nat.le_of_ble_eq_true rfl⟩) ⟨wPreX_blind (xOk_txT adS), va_recv hK hPc (ci := 10) (q0 := 0) rfl rfl, fun U hU hW => wPreX_of (xOk_txT adS) hPc hK hDc hN hXs.1 hS hFc hU hW⟩ rfl rfl hl.1 rfl (lv_room (Nat.le_of_ble_eq_true rfl)) dL_step_4 ⟨(by decide), (by decide)⟩) hS (fun q _ h => hFc q h) hFc (fun q _ h => hFc q h) (fun E ce q9 u1 t H1 locs ht hvm hpx hBX hz1 hk1 hS hce hcv hcl => ?_) (fun r2 u1 t H1 locs ht hvm hw hB hz1 hk1 hS => ?_)
  · obtain ⟨hw, hP1, hK1, hD1⟩ := hBX
    rw [ht] at hP1
    obtain ⟨hP, hD⟩ := va_join (wr := pickW (ceL_step cyI cyB cyJ cyZ a0 a1 a2 a3 a4 a5 a6 a7 a8 a9 a10 a11 a12 a13 b0_tape b0_kept b0_draftGround b0_draftLaw b0_grid b0_pack b0_pieces b0_thinning b1_marks n13 g0_imageKept g0_wrongByte g1_drawSeed g5_texts g10_lines g2_underWay g2_way g2_other g2_lead g5_ways g5_wallCount f6 f7 f8 f9 g10_size f12 g2_man g2_dog g2_gone g2_greatest g2_remembered f3 f4 f11 f13) [13]) (w1 := (ceX10_step cyI cyB cyJ cyZ a0 a1 a2 a3 a4 a5 a6 a7 a8 a9 a10 a11 a12 b0_tape b0_kept b0_draftGround b0_draftLaw b0_grid b0_pack b0_pieces b0_thinning b1_marks g0_imageKept g0_wrongByte g1_drawSeed g5_texts g10_lines g2_underWay g2_way g2_other g2_lead g5_ways g5_wallCount f6 f7 f8 f9 g10_size f12 u1.1 u1.2.1 u1.2.2.1 u1.2.2.2.1 u1.2.2.2.2.1 u1.2.2.2.2.2.1 u1.2.2.2.2.2.2.1 u1.2.2.2.2.2.2.2)) hP hD [0, 1, 2, 3, 4, 5, 6, 7, 8, 9, 10, 11, 12] [13] rfl rfl (by decide) (by decide) hk1 hFc hP1 hD1
    have hP := hP.sub (ws' := (ceL_step cyI cyB cyJ cyZ a0 a1 a2 a3 a4 a5 a6 a7 a8 a9 a10 a11 a12 a13 b0_tape b0_kept b0_draftGround b0_draftLaw b0_grid b0_pack b0_pieces b0_thinning b1_marks n13 g0_imageKept g0_wrongByte g1_drawSeed g5_texts g10_lines g2_underWay g2_way g2_other g2_lead g5_ways g5_wallCount f6 f7 f8 f9 g10_size f12 u1.1 u1.2.1 u1.2.2.1 u1.2.2.2.1 u1.2.2.2.2.1 u1.2.2.2.2.2.1 u1.2.2.2.2.2.2.1 u1.2.2.2.2.2.2.2 f13)) [1, 2, 3, 4, 5, 6, 7, 8, 9, 10, 11, 12, 13, 0] rfl
    have hD := hD.sub (ws' := (ceL_step cyI cyB cyJ cyZ a0 a1 a2 a3 a4 a5 a6 a7 a8 a9 a10 a11 a12 a13 b0_tape b0_kept b0_draftGround b0_draftLaw b0_grid b0_pack b0_pieces b0_thinning b1_marks n13 g0_imageKept g0_wrongByte g1_drawSeed g5_texts g10_lines g2_underWay g2_way g2_other g2_lead g5_ways g5_wallCount f6 f7 f8 f9 g10_size f12 u1.1 u1.2.1 u1.2.2.1 u1.2.2.2.1 u1.2.2.2.2.1 u1.2.2.2.2.2.1 u1.2.2.2.2.2.2.1 u1.2.2.2.2.2.2.2 f13)) [1, 2, 3, 4, 5, 6, 7, 8, 9, 10, 11, 12, 13, 0] (by decide) rfl
    obtain ⟨hw0, hE⟩ := hw
    subst hE
    have hw := hw0 rfl
    refine ec_catch (name := "java/lang/IllegalArgumentException") hown [] _ _ (htb.trans rfl) (fun z hz => by cases hz) (by decide) (by decide) (hts (.classLink RL 13 "java/lang/IllegalArgumentException") (List.mem_of_getElem? (i := 1) rfl)) (va_Nw.use rfl (hXs.1.2.2.2 (.castable "java/lang/IllegalArgumentException" "java/lang/IllegalArgumentException") (by decide +kernel))) hce hcv hcl ?_
    refine W.eq (g2 := F0 m 12 ls [.ref q9]) rfl ?_
    refine lv_astore_n (lv' := [(3, .ref q9), (0, .ref a0), (1, .int p1), (2, .ref a13)]) hx hb dL_step_12 rfl hl (by decide) rfl (fun ls hl => ?_)
    refine lv_iconst (v := 1) hx hb dL_step_13 (by decide) ?_
    rw [hQ]
    refine W.widen (k := 1) (n := 6) (by decide) (by decide) ?_
    exact W.iret (v := 1) hx hb hr (fun t ht hW => ⟨⟨1, (u1.1, u1.2.1, u1.2.2.1, u1.2.2.2.1, u1.2.2.2.2.1, u1.2.2.2.2.2.1, u1.2.2.2.2.2.2.1, u1.2.2.2.2.2.2.2, f13), rfl, hw, by rw [ht]; exact hP, va_K.moved hW.alike hK, hD⟩, hS.F ht⟩) hS.2.2 dL_step_14
  -- returned
  obtain ⟨hP1, hK1, hD1⟩ := hB
  rw [ht] at hP1
  obtain ⟨hP, hD⟩ := va_join (wr := pickW (ceL_step cyI cyB cyJ cyZ a0 a1 a2 a3 a4 a5 a6 a7 a8 a9 a10 a11 a12 a13 b0_tape b0_kept b0_draftGround b0_draftLaw b0_grid b0_pack b0_pieces b0_thinning b1_marks n13 g0_imageKept g0_wrongByte g1_drawSeed g5_texts g10_lines g2_underWay g2_way g2_other g2_lead g5_ways g5_wallCount f6 f7 f8 f9 g10_size f12 g2_man g2_dog g2_gone g2_greatest g2_remembered f3 f4 f11 f13) [13]) (w1 := (ceX10_step cyI cyB cyJ cyZ a0 a1 a2 a3 a4 a5 a6 a7 a8 a9 a10 a11 a12 b0_tape b0_kept b0_draftGround b0_draftLaw b0_grid b0_pack b0_pieces b0_thinning b1_marks g0_imageKept g0_wrongByte g1_drawSeed g5_texts g10_lines g2_underWay g2_way g2_other g2_lead g5_ways g5_wallCount f6 f7 f8 f9 g10_size f12 u1.1 u1.2.1 u1.2.2.1 u1.2.2.2.1 u1.2.2.2.2.1 u1.2.2.2.2.2.1 u1.2.2.2.2.2.2.1 u1.2.2.2.2.2.2.2)) hP hD [0, 1, 2, 3, 4, 5, 6, 7, 8, 9, 10, 11, 12] [13] rfl rfl (by decide) (by decide) hk1 hFc hP1 hD1
  have hP := hP.sub (ws' := (ceL_step cyI cyB cyJ cyZ a0 a1 a2 a3 a4 a5 a6 a7 a8 a9 a10 a11 a12 a13 b0_tape b0_kept b0_draftGround b0_draftLaw b0_grid b0_pack b0_pieces b0_thinning b1_marks n13 g0_imageKept g0_wrongByte g1_drawSeed g5_texts g10_lines g2_underWay g2_way g2_other g2_lead g5_ways g5_wallCount f6 f7 f8 f9 g10_size f12 u1.1 u1.2.1 u1.2.2.1 u1.2.2.2.1 u1.2.2.2.2.1 u1.2.2.2.2.2.1 u1.2.2.2.2.2.2.1 u1.2.2.2.2.2.2.2 f13)) [1, 2, 3, 4, 5, 6, 7, 8, 9, 10, 11, 12, 13, 0] rfl
  have hD := hD.sub (ws' := (ceL_step cyI cyB cyJ cyZ a0 a1 a2 a3 a4 a5 a6 a7 a8 a9 a10 a11 a12 a13 b0_tape b0_kept b0_draftGround b0_draftLaw b0_grid b0_pack b0_pieces b0_thinning b1_marks n13 g0_imageKept g0_wrongByte g1_drawSeed g5_texts g10_lines g2_underWay g2_way g2_other g2_lead g5_ways g5_wallCount f6 f7 f8 f9 g10_size f12 u1.1 u1.2.1 u1.2.2.1 u1.2.2.2.1 u1.2.2.2.2.1 u1.2.2.2.2.2.1 u1.2.2.2.2.2.2.1 u1.2.2.2.2.2.2.2 f13)) [1, 2, 3, 4, 5, 6, 7, 8, 9, 10, 11, 12, 13, 0] (by decide) rfl
  generalize H1 = H at hP hS ⊢
  refine W.widen (k := 1) (n := 6) (by decide) (by decide) ?_
  refine lv_i2l hx hb dL_step_7 rfl ?_
  obtain ⟨hi, hw⟩ := hw
  refine va_last hx hb hK hP hD hS 13 2 rfl rfl hi dL_step_8 (fun H locs hP hD hS => ?_)
  have hP : va_P (dC, dI) vwCl (ceL_step cyI cyB cyJ cyZ a0 a1 a2 a3 a4 a5 a6 a7 a8 a9 a10 a11 a12 a13 b0_tape b0_kept b0_draftGround b0_draftLaw b0_grid b0_pack b0_pieces b0_thinning b1_marks n13 g0_imageKept g0_wrongByte g1_drawSeed g5_texts g10_lines g2_underWay g2_way g2_other g2_lead g5_ways g5_wallCount f6 f7 f8 f9 g10_size f12 u1.1 u1.2.1 u1.2.2.1 u1.2.2.2.1 u1.2.2.2.2.1 u1.2.2.2.2.2.1 u1.2.2.2.2.2.2.1 u1.2.2.2.2.2.2.2 (vp_updL f13 (0 : Int32).toNatClampNeg (r2.toInt64))) H := hP
  have hD : va_D A (ceL_step cyI cyB cyJ cyZ a0 a1 a2 a3 a4 a5 a6 a7 a8 a9 a10 a11 a12 a13 b0_tape b0_kept b0_draftGround b0_draftLaw b0_grid b0_pack b0_pieces b0_thinning b1_marks n13 g0_imageKept g0_wrongByte g1_drawSeed g5_texts g10_lines g2_underWay g2_way g2_other g2_lead g5_ways g5_wallCount f6 f7 f8 f9 g10_size f12 u1.1 u1.2.1 u1.2.2.1 u1.2.2.2.1 u1.2.2.2.2.1 u1.2.2.2.2.2.1 u1.2.2.2.2.2.2.1 u1.2.2.2.2.2.2.2 (vp_updL f13 (0 : Int32).toNatClampNeg (r2.toInt64))) := hD
  refine lv_goto (tgt := 15) hx hb dL_step_9 (by decide) ?_
  refine lv_iconst (v := 0) hx hb dL_step_15 (by decide) ?_
  rw [hQ]
  refine W.widen (k := 1) (n := 6) (by decide) (by decide) ?_
  exact W.iret (v := 0) hx hb hr (fun t ht hW => ⟨⟨0, (u1.1, u1.2.1, u1.2.2.1, u1.2.2.2.1, u1.2.2.2.2.1, u1.2.2.2.2.2.1, u1.2.2.2.2.2.2.1, u1.2.2.2.2.2.2.2, (vp_updL f13 (0 : Int32).toNatClampNeg (r2.toInt64))), rfl, hw, by rw [ht]; exact hP, va_K.moved hW.alike hK, hD⟩, hS.F ht⟩) hS.2.2 dL_step_16
/-! LeadParkLaw.live (LLeadPark;I[J)I -/
abbrev ceL_live (cyI cyB cyJ cyZ : ClassId) (a0 a1 a2 a3 a4 a5 a6 a7 a8 a9 a10 a11 a12 a13 b0_tape b0_kept b0_draftGround b0_draftLaw b0_grid b0_pack b0_pieces b0_thinning b1_marks n13 : Nat) (g0_imageKept : Int32) (g0_wrongByte : Int32) (g5_texts : Int32) (g10_lines : Int32) (g2_underWay : Int32) (g2_way : Int32) (g2_other : Int32) (g2_lead : Int32) (g5_ways : Int32) (g5_wallCount : Int32) (f6 : Nat → Int32) (f7 : Nat → Int32) (f8 : Nat → Int32) (f9 : Nat → Int32) (g10_size : Int32) (f12 : Nat → Int32) (g1_drawSeed : Int32) (g2_man : Int32) (g2_dog : Int32) (g2_gone : Int32) (g2_greatest : Int32) (g2_remembered : Int32) (f3 : Nat → Int32) (f4 : Nat → Int32) (f11 : Nat → Int32) (f13 : Nat → Int64) : va_W := [(a0, .inr (10, [.ref b0_tape, .ref a1, .ref b0_kept, .ref b0_draftGround, .ref b0_draftLaw, .ref b0_grid, .ref b0_pack, .ref b0_pieces, .ref b0_thinning, .int g0_imageKept, .int g0_wrongByte])), (a1, .inr (6, [.ref a5, .ref a10, .ref b1_marks, .ref a2, .int g1_drawSeed])), (a2, .inr (7, [.int g2_underWay, .int g2_way, .int g2_other, .int g2_lead, .int g2_man, .int g2_dog, .int g2_gone, .int g2_greatest, .int g2_remembered, .ref a3, .ref a4])), (a3, .inl (cyI, 58, .inl f3)), (a4, .inl (cyI, 58, .inl f4)), (a5, .inr (1, [.ref a7, .ref a8, .ref a6, .ref a9, .int g5_ways, .int g5_wallCount, .int g5_texts])), (a6, .inl (cyI, 12, .inl f6)), (a7, .inl (cyI, 360, .inl f7)), (a8, .inl (cyI, 360, .inl f8)), (a9, .inl (cyI, 32, .inl f9)), (a10, .inr (2, [.ref a12, .ref a11, .int g10_size, .int g10_lines])), (a11, .inl (cyI, 7, .inl f11)), (a12, .inl (cyI, 400, .inl f12)), (a13, .inl (cyJ, n13, .inr (.inl f13)))]

abbrev rmL_live : Room := { frames := 8, cells := 1, slots := 6, locals := 222 }
set_option maxRecDepth 100000 in
set_option maxHeartbeats 4000000 in
theorem ctL_live (l : Launch) (hl0 : l.stackTraces = false) (dC : Nat → ClassId) (dI : Nat → Nat → Nat) (cyI cyB cyJ cyZ : ClassId) (sz : Nat) (a0 a1 a2 a3 a4 a5 a6 a7 a8 a9 a10 a11 a12 a13 b0_tape b0_kept b0_draftGround b0_draftLaw b0_grid b0_pack b0_pieces b0_thinning b1_marks n13 : Nat) (g0_imageKept : Int32) (g0_wrongByte : Int32) (g5_texts : Int32) (g10_lines : Int32) (g2_underWay : Int32) (g2_way : Int32) (g2_other : Int32) (g2_lead : Int32) (g5_ways : Int32) (g5_wallCount : Int32) (f6 : Nat → Int32) (f7 : Nat → Int32) (f8 : Nat → Int32) (f9 : Nat → Int32) (g10_size : Int32) (f12 : Nat → Int32) (g1_drawSeed : Int32) (g2_man : Int32) (g2_dog : Int32) (g2_gone : Int32) (g2_greatest : Int32) (g2_remembered : Int32) (f3 : Nat → Int32) (f4 : Nat → Int32) (f11 : Nat → Int32) (f13 : Nat → Int64) (p1 : Int32) (post : Int32 → (Int32 × Int32 × Int32 × Int32 × Int32 × Int32 × (Nat → Int32) × (Nat → Int32) × (Nat → Int32) × (Nat → Int64)) → Prop) (adS : Nat → Nat) (hw : wpL_live n13 post g2_underWay g2_way g2_other g2_lead g5_ways g5_wallCount f6 f7 f8 f9 g10_size f12 g1_drawSeed g2_man g2_dog g2_gone g2_greatest g2_remembered f3 f4 f11 f13 p1) : Met l yL_live wsL_live rmL_live (va_Pc [.ref a0, .int p1, .ref a13] (wPreX dC dI cyI cyB cyJ cyZ sz (ceL_live cyI cyB cyJ cyZ a0 a1 a2 a3 a4 a5 a6 a7 a8 a9 a10 a11 a12 a13 b0_tape b0_kept b0_draftGround b0_draftLaw b0_grid b0_pack b0_pieces b0_thinning b1_marks n13 g0_imageKept g0_wrongByte g5_texts g10_lines g2_underWay g2_way g2_other g2_lead g5_ways g5_wallCount f6 f7 f8 f9 g10_size f12 g1_drawSeed g2_man g2_dog g2_gone g2_greatest g2_remembered f3 f4 f11 f13) (txL adS))) (va_Qi post (fun u : Int32 × Int32 × Int32 × Int32 × Int32 × Int32 × (Nat → Int32) × (Nat → Int32) × (Nat → Int32) × (Nat → Int64) => wAt dC dI cyI cyB cyJ cyZ (va_A (ceL_live cyI cyB cyJ cyZ a0 a1 a2 a3 a4 a5 a6 a7 a8 a9 a10 a11 a12 a13 b0_tape b0_kept b0_draftGround b0_draftLaw b0_grid b0_pack b0_pieces b0_thinning b1_marks n13 g0_imageKept g0_wrongByte g5_texts g10_lines g2_underWay g2_way g2_other g2_lead g5_ways g5_wallCount f6 f7 f8 f9 g10_size f12 g1_drawSeed g2_man g2_dog g2_gone g2_greatest g2_remembered f3 f4 f11 f13) sz) (ceL_live cyI cyB cyJ cyZ a0 a1 a2 a3 a4 a5 a6 a7 a8 a9 a10 a11 a12 a13 b0_tape b0_kept b0_draftGround b0_draftLaw b0_grid b0_pack b0_pieces b0_thinning b1_marks n13 g0_imageKept g0_wrongByte g5_texts g10_lines g2_underWay g2_way g2_other g2_lead g5_ways g5_wallCount f6 f7 f8 f9 g10_size f12 u.1 u.2.1 u.2.2.1 u.2.2.2.1 u.2.2.2.2.1 u.2.2.2.2.2.1 u.2.2.2.2.2.2.1 u.2.2.2.2.2.2.2.1 u.2.2.2.2.2.2.2.2.1 u.2.2.2.2.2.2.2.2.2)) (va_A (ceL_live cyI cyB cyJ cyZ a0 a1 a2 a3 a4 a5 a6 a7 a8 a9 a10 a11 a12 a13 b0_tape b0_kept b0_draftGround b0_draftLaw b0_grid b0_pack b0_pieces b0_thinning b1_marks n13 g0_imageKept g0_wrongByte g5_texts g10_lines g2_underWay g2_way g2_other g2_lead g5_ways g5_wallCount f6 f7 f8 f9 g10_size f12 g1_drawSeed g2_man g2_dog g2_gone g2_greatest g2_remembered f3 f4 f11 f13) sz)) 1 6 (va_A (ceL_live cyI cyB cyJ cyZ a0 a1 a2 a3 a4 a5 a6 a7 a8 a9 a10 a11 a12 a13 b0_tape b0_kept b0_draftGround b0_draftLaw b0_grid b0_pack b0_pieces b0_thinning b1_marks n13 g0_imageKept g0_wrongByte g5_texts g10_lines g2_underWay g2_way g2_other g2_lead g5_ways g5_wallCount f6 f7 f8 f9 g10_size f12 g1_drawSeed g2_man g2_dog g2_gone g2_greatest g2_remembered f3 f4 f11 f13) sz) := by
  refine mt_ofWH (cc := cL_live) (maxL := 4) (ret := (some .int)) (by decide) rfl ?_
  intro p e s m args below meth c s₁ B hml hv
  obtain ⟨rfl, ⟨hsz, hP, hK, hD0, hN⟩, hXs⟩ := hv
  have hx := B.exec
  have hb := B.bytes
  have hr := B.returns
  have hts := atoms_spec (ws := wsL_live) B.pre
  have hown : s.vm.findClass RL = some m.cls := findClass_of_methodNamed B.named
  have hlocks := B.notSynchronized
  have htb := vx_table (x := yL_live) B (hts _ (List.mem_of_getElem? (i := 0) rfl))
  subst hsz
  have hD := hD0.self (sz := s.heap.size)
  generalize hAe : va_A (ceL_live cyI cyB cyJ cyZ a0 a1 a2 a3 a4 a5 a6 a7 a8 a9 a10 a11 a12 a13 b0_tape b0_kept b0_draftGround b0_draftLaw b0_grid b0_pack b0_pieces b0_thinning b1_marks n13 g0_imageKept g0_wrongByte g5_texts g10_lines g2_underWay g2_way g2_other g2_lead g5_ways g5_wallCount f6 f7 f8 f9 g10_size f12 g1_drawSeed g2_man g2_dog g2_gone g2_greatest g2_remembered f3 f4 f11 f13) s.heap.size = A at hD hXs ⊢
  have hA : ∀ q : Nat, s.heap.size ≤ q → A q := fun q h => by rw [← hAe]; exact Or.inr h
  have hS : va_S A s.heap s.heap [] := va_S.rf
  have C0 : cxM p s m meth c _ wsL_live RL cL_live 4 (some .int) := ⟨hx, hb, hr, hml, hown, hts, hlocks⟩
  have hl := lv_entry ([.ref a0, .int p1, .ref a13]) (n := 4) (Nat.le_of_ble_eq_true rfl)
  rw [lg_entry_eq]
  generalize (lg_sl ([.ref a0, .int p1, .ref a13]) ++ List.replicate (4 - (lg_sl ([.ref a0, .int p1, .ref a13])).length) Slot.unset).toArray = ls at hl ⊢
  have hl : lv_has ls 4 [(0, .ref a0), (1, .int p1), (2, .ref a13)] := hl
  show W p l e rmL_live s m _ below meth c _ _ _ _ _ _
  refine wq (fun Q hQ => ?_)
  refine lv_aload_n hx hb dL_live_0 rfl (lv_at hl 2 rfl) ?_
  refine lv_iconst (v := 0) hx hb dL_live_1 (by decide) ?_
  refine lv_aload_n hx hb dL_live_2 rfl (lv_at hl 0 rfl) ?_
  refine lv_iload_n hx hb dL_live_3 rfl (lv_at hl 1 rfl) ?_
  have hPc := hP.sub (ws' := (ceX10_live cyI cyB cyJ cyZ a0 a1 a2 a3 a4 a5 a6 a7 a8 a9 a10 a11 a12 b0_tape b0_kept b0_draftGround b0_draftLaw b0_grid b0_pack b0_pieces b0_thinning b1_marks g0_imageKept g0_wrongByte g5_texts g10_lines g2_underWay g2_way g2_other g2_lead g5_ways g5_wallCount f6 f7 f8 f9 g10_size f12 g1_drawSeed g2_man g2_dog g2_gone g2_greatest g2_remembered f3 f4 f11)) [0, 1, 2, 3, 4, 5, 6, 7, 8, 9, 10, 11, 12] rfl
  have hDc := hD.sub (ws' := (ceX10_live cyI cyB cyJ cyZ a0 a1 a2 a3 a4 a5 a6 a7 a8 a9 a10 a11 a12 b0_tape b0_kept b0_draftGround b0_draftLaw b0_grid b0_pack b0_pieces b0_thinning b1_marks g0_imageKept g0_wrongByte g5_texts g10_lines g2_underWay g2_way g2_other g2_lead g5_ways g5_wallCount f6 f7 f8 f9 g10_size f12 g1_drawSeed g2_man g2_dog g2_gone g2_greatest g2_remembered f3 f4 f11)) [0, 1, 2, 3, 4, 5, 6, 7, 8, 9, 10, 11, 12] (by decide) rfl
  have hFc := va_free (wc := (ceX10_live cyI cyB cyJ cyZ a0 a1 a2 a3 a4 a5 a6 a7 a8 a9 a10 a11 a12 b0_tape b0_kept b0_draftGround b0_draftLaw b0_grid b0_pack b0_pieces b0_thinning b1_marks g0_imageKept g0_wrongByte g5_texts g10_lines g2_underWay g2_way g2_other g2_lead g5_ways g5_wallCount f6 f7 f8 f9 g10_size f12 g1_drawSeed g2_man g2_dog g2_gone g2_greatest g2_remembered f3 f4 f11)) hD hS hA [0, 1, 2, 3, 4, 5, 6, 7, 8, 9, 10, 11, 12] rfl
  refine vx_calli (vx_runV (As := [.int p1]) (rest := [.int 0, .ref a13]) ⟨hx, hb, hml, hown, hts⟩ (ctX10_live l hl0 dC dI cyI cyB cyJ cyZ _ a0 a1 a2 a3 a4 a5 a6 a7 a8 a9 a10 a11 a12 b0_tape b0_kept b0_draftGround b0_draftLaw b0_grid b0_pack b0_pieces b0_thinning b1_marks g0_imageKept g0_wrongByte g5_texts g10_lines g2_underWay g2_way g2_other g2_lead g5_ways g5_wallCount f6 f7 f8 f9 g10_size f12 g1_drawSeed g2_man g2_dog g2_gone g2_greatest g2_remembered f3 f4 f11 p1 _ _ adS hw) (cwV 1 hts gL_live_X10_live rfl rfl rfl (by decide +kernel) ⟨Nat.le_of_ble_eq_true rfl, Nat.le_of_ble_eq_true rfl⟩) ⟨wPreX_blind (xOk_txT adS), va_recv hK hPc (ci := 10) (q0 := 0) rfl rfl, fun U hU hW => wPreX_of (xOk_txT adS) hPc hK hDc hN hXs.1 hS hFc hU hW⟩ rfl rfl hl.1 rfl (lv_room (Nat.le_of_ble_eq_true rfl)) dL_live_4 ⟨(by decide), (by decide)⟩) hS (fun q _ h => hFc q h) hFc (fun q _ h => hFc q h) (fun E ce q9 u1 t H1 locs ht hvm hpx hBX hz1 hk1 hS hce hcv hcl => ?_) (fun r2 u1 t H1 locs ht hvm hw hB hz1 hk1 hS => ?_)
  · obtain ⟨hw, hP1, hK1, hD1⟩ := hBX
    rw [ht] at hP1
    obtain ⟨hP, hD⟩ := va_join (wr := pickW (ceL_live cyI cyB cyJ cyZ a0 a1 a2 a3 a4 a5 a6 a7 a8 a9 a10 a11 a12 a13 b0_tape b0_kept b0_draftGround b0_draftLaw b0_grid b0_pack b0_pieces b0_thinning b1_marks n13 g0_imageKept g0_wrongByte g5_texts g10_lines g2_underWay g2_way g2_other g2_lead g5_ways g5_wallCount f6 f7 f8 f9 g10_size f12 g1_drawSeed g2_man g2_dog g2_gone g2_greatest g2_remembered f3 f4 f11 f13) [13]) (w1 := (ceX10_live cyI cyB cyJ cyZ a0 a1 a2 a3 a4 a5 a6 a7 a8 a9 a10 a11 a12 b0_tape b0_kept b0_draftGround b0_draftLaw b0_grid b0_pack b0_pieces b0_thinning b1_marks g0_imageKept g0_wrongByte g5_texts g10_lines g2_underWay g2_way g2_other g2_lead g5_ways g5_wallCount f6 f7 f8 f9 g10_size f12 u1.1 u1.2.1 u1.2.2.1 u1.2.2.2.1 u1.2.2.2.2.1 u1.2.2.2.2.2.1 u1.2.2.2.2.2.2.1 u1.2.2.2.2.2.2.2.1 u1.2.2.2.2.2.2.2.2)) hP hD [0, 1, 2, 3, 4, 5, 6, 7, 8, 9, 10, 11, 12] [13] rfl rfl (by decide) (by decide) hk1 hFc hP1 hD1
    have hP := hP.sub (ws' := (ceL_live cyI cyB cyJ cyZ a0 a1 a2 a3 a4 a5 a6 a7 a8 a9 a10 a11 a12 a13 b0_tape b0_kept b0_draftGround b0_draftLaw b0_grid b0_pack b0_pieces b0_thinning b1_marks n13 g0_imageKept g0_wrongByte g5_texts g10_lines g2_underWay g2_way g2_other g2_lead g5_ways g5_wallCount f6 f7 f8 f9 g10_size f12 u1.1 u1.2.1 u1.2.2.1 u1.2.2.2.1 u1.2.2.2.2.1 u1.2.2.2.2.2.1 u1.2.2.2.2.2.2.1 u1.2.2.2.2.2.2.2.1 u1.2.2.2.2.2.2.2.2 f13)) [1, 2, 3, 4, 5, 6, 7, 8, 9, 10, 11, 12, 13, 0] rfl
    have hD := hD.sub (ws' := (ceL_live cyI cyB cyJ cyZ a0 a1 a2 a3 a4 a5 a6 a7 a8 a9 a10 a11 a12 a13 b0_tape b0_kept b0_draftGround b0_draftLaw b0_grid b0_pack b0_pieces b0_thinning b1_marks n13 g0_imageKept g0_wrongByte g5_texts g10_lines g2_underWay g2_way g2_other g2_lead g5_ways g5_wallCount f6 f7 f8 f9 g10_size f12 u1.1 u1.2.1 u1.2.2.1 u1.2.2.2.1 u1.2.2.2.2.1 u1.2.2.2.2.2.1 u1.2.2.2.2.2.2.1 u1.2.2.2.2.2.2.2.1 u1.2.2.2.2.2.2.2.2 f13)) [1, 2, 3, 4, 5, 6, 7, 8, 9, 10, 11, 12, 13, 0] (by decide) rfl
    obtain ⟨hw0, hE⟩ := hw
    subst hE
    have hw := hw0 rfl
    refine ec_catch (name := "java/lang/IllegalArgumentException") hown [] _ _ (htb.trans rfl) (fun z hz => by cases hz) (by decide) (by decide) (hts (.classLink RL 13 "java/lang/IllegalArgumentException") (List.mem_of_getElem? (i := 1) rfl)) (va_Nw.use rfl (hXs.1.2.2.2 (.castable "java/lang/IllegalArgumentException" "java/lang/IllegalArgumentException") (by decide +kernel))) hce hcv hcl ?_
    refine W.eq (g2 := F0 m 12 ls [.ref q9]) rfl ?_
    refine lv_astore_n (lv' := [(3, .ref q9), (0, .ref a0), (1, .int p1), (2, .ref a13)]) hx hb dL_live_12 rfl hl (by decide) rfl (fun ls hl => ?_)
    refine lv_iconst (v := 1) hx hb dL_live_13 (by decide) ?_
    rw [hQ]
    refine W.widen (k := 1) (n := 6) (by decide) (by decide) ?_
    exact W.iret (v := 1) hx hb hr (fun t ht hW => ⟨⟨1, (u1.1, u1.2.1, u1.2.2.1, u1.2.2.2.1, u1.2.2.2.2.1, u1.2.2.2.2.2.1, u1.2.2.2.2.2.2.1, u1.2.2.2.2.2.2.2.1, u1.2.2.2.2.2.2.2.2, f13), rfl, hw, by rw [ht]; exact hP, va_K.moved hW.alike hK, hD⟩, hS.F ht⟩) hS.2.2 dL_live_14
  -- returned
  obtain ⟨hP1, hK1, hD1⟩ := hB
  rw [ht] at hP1
  obtain ⟨hP, hD⟩ := va_join (wr := pickW (ceL_live cyI cyB cyJ cyZ a0 a1 a2 a3 a4 a5 a6 a7 a8 a9 a10 a11 a12 a13 b0_tape b0_kept b0_draftGround b0_draftLaw b0_grid b0_pack b0_pieces b0_thinning b1_marks n13 g0_imageKept g0_wrongByte g5_texts g10_lines g2_underWay g2_way g2_other g2_lead g5_ways g5_wallCount f6 f7 f8 f9 g10_size f12 g1_drawSeed g2_man g2_dog g2_gone g2_greatest g2_remembered f3 f4 f11 f13) [13]) (w1 := (ceX10_live cyI cyB cyJ cyZ a0 a1 a2 a3 a4 a5 a6 a7 a8 a9 a10 a11 a12 b0_tape b0_kept b0_draftGround b0_draftLaw b0_grid b0_pack b0_pieces b0_thinning b1_marks g0_imageKept g0_wrongByte g5_texts g10_lines g2_underWay g2_way g2_other g2_lead g5_ways g5_wallCount f6 f7 f8 f9 g10_size f12 u1.1 u1.2.1 u1.2.2.1 u1.2.2.2.1 u1.2.2.2.2.1 u1.2.2.2.2.2.1 u1.2.2.2.2.2.2.1 u1.2.2.2.2.2.2.2.1 u1.2.2.2.2.2.2.2.2)) hP hD [0, 1, 2, 3, 4, 5, 6, 7, 8, 9, 10, 11, 12] [13] rfl rfl (by decide) (by decide) hk1 hFc hP1 hD1
  have hP := hP.sub (ws' := (ceL_live cyI cyB cyJ cyZ a0 a1 a2 a3 a4 a5 a6 a7 a8 a9 a10 a11 a12 a13 b0_tape b0_kept b0_draftGround b0_draftLaw b0_grid b0_pack b0_pieces b0_thinning b1_marks n13 g0_imageKept g0_wrongByte g5_texts g10_lines g2_underWay g2_way g2_other g2_lead g5_ways g5_wallCount f6 f7 f8 f9 g10_size f12 u1.1 u1.2.1 u1.2.2.1 u1.2.2.2.1 u1.2.2.2.2.1 u1.2.2.2.2.2.1 u1.2.2.2.2.2.2.1 u1.2.2.2.2.2.2.2.1 u1.2.2.2.2.2.2.2.2 f13)) [1, 2, 3, 4, 5, 6, 7, 8, 9, 10, 11, 12, 13, 0] rfl
  have hD := hD.sub (ws' := (ceL_live cyI cyB cyJ cyZ a0 a1 a2 a3 a4 a5 a6 a7 a8 a9 a10 a11 a12 a13 b0_tape b0_kept b0_draftGround b0_draftLaw b0_grid b0_pack b0_pieces b0_thinning b1_marks n13 g0_imageKept g0_wrongByte g5_texts g10_lines g2_underWay g2_way g2_other g2_lead g5_ways g5_wallCount f6 f7 f8 f9 g10_size f12 u1.1 u1.2.1 u1.2.2.1 u1.2.2.2.1 u1.2.2.2.2.1 u1.2.2.2.2.2.1 u1.2.2.2.2.2.2.1 u1.2.2.2.2.2.2.2.1 u1.2.2.2.2.2.2.2.2 f13)) [1, 2, 3, 4, 5, 6, 7, 8, 9, 10, 11, 12, 13, 0] (by decide) rfl
  generalize H1 = H at hP hS ⊢
  refine W.widen (k := 1) (n := 6) (by decide) (by decide) ?_
  refine lv_i2l hx hb dL_live_7 rfl ?_
  obtain ⟨hi, hw⟩ := hw
  refine va_last hx hb hK hP hD hS 13 2 rfl rfl hi dL_live_8 (fun H locs hP hD hS => ?_)
  have hP : va_P (dC, dI) vwCl (ceL_live cyI cyB cyJ cyZ a0 a1 a2 a3 a4 a5 a6 a7 a8 a9 a10 a11 a12 a13 b0_tape b0_kept b0_draftGround b0_draftLaw b0_grid b0_pack b0_pieces b0_thinning b1_marks n13 g0_imageKept g0_wrongByte g5_texts g10_lines g2_underWay g2_way g2_other g2_lead g5_ways g5_wallCount f6 f7 f8 f9 g10_size f12 u1.1 u1.2.1 u1.2.2.1 u1.2.2.2.1 u1.2.2.2.2.1 u1.2.2.2.2.2.1 u1.2.2.2.2.2.2.1 u1.2.2.2.2.2.2.2.1 u1.2.2.2.2.2.2.2.2 (vp_updL f13 (0 : Int32).toNatClampNeg (r2.toInt64))) H := hP
  have hD : va_D A (ceL_live cyI cyB cyJ cyZ a0 a1 a2 a3 a4 a5 a6 a7 a8 a9 a10 a11 a12 a13 b0_tape b0_kept b0_draftGround b0_draftLaw b0_grid b0_pack b0_pieces b0_thinning b1_marks n13 g0_imageKept g0_wrongByte g5_texts g10_lines g2_underWay g2_way g2_other g2_lead g5_ways g5_wallCount f6 f7 f8 f9 g10_size f12 u1.1 u1.2.1 u1.2.2.1 u1.2.2.2.1 u1.2.2.2.2.1 u1.2.2.2.2.2.1 u1.2.2.2.2.2.2.1 u1.2.2.2.2.2.2.2.1 u1.2.2.2.2.2.2.2.2 (vp_updL f13 (0 : Int32).toNatClampNeg (r2.toInt64))) := hD
  refine lv_goto (tgt := 15) hx hb dL_live_9 (by decide) ?_
  refine lv_iconst (v := 0) hx hb dL_live_15 (by decide) ?_
  rw [hQ]
  refine W.widen (k := 1) (n := 6) (by decide) (by decide) ?_
  exact W.iret (v := 0) hx hb hr (fun t ht hW => ⟨⟨0, (u1.1, u1.2.1, u1.2.2.1, u1.2.2.2.1, u1.2.2.2.2.1, u1.2.2.2.2.2.1, u1.2.2.2.2.2.2.1, u1.2.2.2.2.2.2.2.1, u1.2.2.2.2.2.2.2.2, (vp_updL f13 (0 : Int32).toNatClampNeg (r2.toInt64))), rfl, hw, by rw [ht]; exact hP, va_K.moved hW.alike hK, hD⟩, hS.F ht⟩) hS.2.2 dL_live_16
/-! LeadParkLaw.on (LLeadPark;I[J)I -/
abbrev ceL_on (cyI cyB cyJ cyZ : ClassId) (a0 a1 a2 a3 a4 a5 b0_tape b0_kept b0_draftGround b0_draftLaw b0_grid b0_pack b0_pieces b0_thinning b1_law b1_marks b2_steps b2_greatestAhead b3_xs b3_ys b3_walls n5 : Nat) (g0_imageKept : Int32) (g0_wrongByte : Int32) (g1_drawSeed : Int32) (g3_wallCount : Int32) (g3_texts : Int32) (g2_underWay : Int32) (g2_way : Int32) (g2_other : Int32) (g2_lead : Int32) (g2_man : Int32) (g2_dog : Int32) (g2_gone : Int32) (g2_greatest : Int32) (g2_remembered : Int32) (g3_ways : Int32) (f4 : Nat → Int32) (f5 : Nat → Int64) : va_W := [(a0, .inr (10, [.ref b0_tape, .ref a1, .ref b0_kept, .ref b0_draftGround, .ref b0_draftLaw, .ref b0_grid, .ref b0_pack, .ref b0_pieces, .ref b0_thinning, .int g0_imageKept, .int g0_wrongByte])), (a1, .inr (6, [.ref a3, .ref b1_law, .ref b1_marks, .ref a2, .int g1_drawSeed])), (a2, .inr (7, [.int g2_underWay, .int g2_way, .int g2_other, .int g2_lead, .int g2_man, .int g2_dog, .int g2_gone, .int g2_greatest, .int g2_remembered, .ref b2_steps, .ref b2_greatestAhead])), (a3, .inr (1, [.ref b3_xs, .ref b3_ys, .ref a4, .ref b3_walls, .int g3_ways, .int g3_wallCount, .int g3_texts])), (a4, .inl (cyI, 12, .inl f4)), (a5, .inl (cyJ, n5, .inr (.inl f5)))]

abbrev rmL_on : Room := { frames := 7, cells := 1, slots := 6, locals := 121 }
set_option maxRecDepth 100000 in
set_option maxHeartbeats 4000000 in
theorem ctL_on (l : Launch) (hl0 : l.stackTraces = false) (dC : Nat → ClassId) (dI : Nat → Nat → Nat) (cyI cyB cyJ cyZ : ClassId) (sz : Nat) (a0 a1 a2 a3 a4 a5 b0_tape b0_kept b0_draftGround b0_draftLaw b0_grid b0_pack b0_pieces b0_thinning b1_law b1_marks b2_steps b2_greatestAhead b3_xs b3_ys b3_walls n5 : Nat) (g0_imageKept : Int32) (g0_wrongByte : Int32) (g1_drawSeed : Int32) (g3_wallCount : Int32) (g3_texts : Int32) (g2_underWay : Int32) (g2_way : Int32) (g2_other : Int32) (g2_lead : Int32) (g2_man : Int32) (g2_dog : Int32) (g2_gone : Int32) (g2_greatest : Int32) (g2_remembered : Int32) (g3_ways : Int32) (f4 : Nat → Int32) (f5 : Nat → Int64) (p1 : Int32) (post : Int32 → ((Nat → Int64)) → Prop) (adS : Nat → Nat) (hw : wpL_on n5 post g2_underWay g2_way g2_other g2_lead g2_man g2_dog g2_gone g2_greatest g2_remembered g3_ways f4 f5 p1) : Met l yL_on wsL_on rmL_on (va_Pc [.ref a0, .int p1, .ref a5] (wPreX dC dI cyI cyB cyJ cyZ sz (ceL_on cyI cyB cyJ cyZ a0 a1 a2 a3 a4 a5 b0_tape b0_kept b0_draftGround b0_draftLaw b0_grid b0_pack b0_pieces b0_thinning b1_law b1_marks b2_steps b2_greatestAhead b3_xs b3_ys b3_walls n5 g0_imageKept g0_wrongByte g1_drawSeed g3_wallCount g3_texts g2_underWay g2_way g2_other g2_lead g2_man g2_dog g2_gone g2_greatest g2_remembered g3_ways f4 f5) (txL adS))) (va_Qi post (fun u : (Nat → Int64) => wAt dC dI cyI cyB cyJ cyZ (va_A (ceL_on cyI cyB cyJ cyZ a0 a1 a2 a3 a4 a5 b0_tape b0_kept b0_draftGround b0_draftLaw b0_grid b0_pack b0_pieces b0_thinning b1_law b1_marks b2_steps b2_greatestAhead b3_xs b3_ys b3_walls n5 g0_imageKept g0_wrongByte g1_drawSeed g3_wallCount g3_texts g2_underWay g2_way g2_other g2_lead g2_man g2_dog g2_gone g2_greatest g2_remembered g3_ways f4 f5) sz) (ceL_on cyI cyB cyJ cyZ a0 a1 a2 a3 a4 a5 b0_tape b0_kept b0_draftGround b0_draftLaw b0_grid b0_pack b0_pieces b0_thinning b1_law b1_marks b2_steps b2_greatestAhead b3_xs b3_ys b3_walls n5 g0_imageKept g0_wrongByte g1_drawSeed g3_wallCount g3_texts g2_underWay g2_way g2_other g2_lead g2_man g2_dog g2_gone g2_greatest g2_remembered g3_ways f4 u)) (va_A (ceL_on cyI cyB cyJ cyZ a0 a1 a2 a3 a4 a5 b0_tape b0_kept b0_draftGround b0_draftLaw b0_grid b0_pack b0_pieces b0_thinning b1_law b1_marks b2_steps b2_greatestAhead b3_xs b3_ys b3_walls n5 g0_imageKept g0_wrongByte g1_drawSeed g3_wallCount g3_texts g2_underWay g2_way g2_other g2_lead g2_man g2_dog g2_gone g2_greatest g2_remembered g3_ways f4 f5) sz)) 1 6 (va_A (ceL_on cyI cyB cyJ cyZ a0 a1 a2 a3 a4 a5 b0_tape b0_kept b0_draftGround b0_draftLaw b0_grid b0_pack b0_pieces b0_thinning b1_law b1_marks b2_steps b2_greatestAhead b3_xs b3_ys b3_walls n5 g0_imageKept g0_wrongByte g1_drawSeed g3_wallCount g3_texts g2_underWay g2_way g2_other g2_lead g2_man g2_dog g2_gone g2_greatest g2_remembered g3_ways f4 f5) sz) := by
  refine mt_ofWH (cc := cL_on) (maxL := 4) (ret := (some .int)) (by decide) rfl ?_
  intro p e s m args below meth c s₁ B hml hv
  obtain ⟨rfl, ⟨hsz, hP, hK, hD0, hN⟩, hXs⟩ := hv
  have hx := B.exec
  have hb := B.bytes
  have hr := B.returns
  have hts := atoms_spec (ws := wsL_on) B.pre
  have hown : s.vm.findClass RL = some m.cls := findClass_of_methodNamed B.named
  have hlocks := B.notSynchronized
  have htb := vx_table (x := yL_on) B (hts _ (List.mem_of_getElem? (i := 0) rfl))
  subst hsz
  have hD := hD0.self (sz := s.heap.size)
  generalize hAe : va_A (ceL_on cyI cyB cyJ cyZ a0 a1 a2 a3 a4 a5 b0_tape b0_kept b0_draftGround b0_draftLaw b0_grid b0_pack b0_pieces b0_thinning b1_law b1_marks b2_steps b2_greatestAhead b3_xs b3_ys b3_walls n5 g0_imageKept g0_wrongByte g1_drawSeed g3_wallCount g3_texts g2_underWay g2_way g2_other g2_lead g2_man g2_dog g2_gone g2_greatest g2_remembered g3_ways f4 f5) s.heap.size = A at hD hXs ⊢
  have hA : ∀ q : Nat, s.heap.size ≤ q → A q := fun q h => by rw [← hAe]; exact Or.inr h
  have hS : va_S A s.heap s.heap [] := va_S.rf
  have C0 : cxM p s m meth c _ wsL_on RL cL_on 4 (some .int) := ⟨hx, hb, hr, hml, hown, hts, hlocks⟩
  have hl := lv_entry ([.ref a0, .int p1, .ref a5]) (n := 4) (Nat.le_of_ble_eq_true rfl)
  rw [lg_entry_eq]
  generalize (lg_sl ([.ref a0, .int p1, .ref a5]) ++ List.replicate (4 - (lg_sl ([.ref a0, .int p1, .ref a5])).length) Slot.unset).toArray = ls at hl ⊢
  have hl : lv_has ls 4 [(0, .ref a0), (1, .int p1), (2, .ref a5)] := hl
  show W p l e rmL_on s m _ below meth c _ _ _ _ _ _
  refine wq (fun Q hQ => ?_)
  refine lv_aload_n hx hb dL_on_0 rfl (lv_at hl 2 rfl) ?_
  refine lv_iconst (v := 0) hx hb dL_on_1 (by decide) ?_
  refine lv_aload_n hx hb dL_on_2 rfl (lv_at hl 0 rfl) ?_
  refine lv_iload_n hx hb dL_on_3 rfl (lv_at hl 1 rfl) ?_
  have hPc := hP.sub (ws' := (ceX10_on cyI cyB cyJ cyZ a0 a1 a2 a3 a4 b0_tape b0_kept b0_draftGround b0_draftLaw b0_grid b0_pack b0_pieces b0_thinning b1_law b1_marks b2_steps b2_greatestAhead b3_xs b3_ys b3_walls g0_imageKept g0_wrongByte g1_drawSeed g3_wallCount g3_texts g2_underWay g2_way g2_other g2_lead g2_man g2_dog g2_gone g2_greatest g2_remembered g3_ways f4)) [0, 1, 2, 3, 4] rfl
  have hDc := hD.sub (ws' := (ceX10_on cyI cyB cyJ cyZ a0 a1 a2 a3 a4 b0_tape b0_kept b0_draftGround b0_draftLaw b0_grid b0_pack b0_pieces b0_thinning b1_law b1_marks b2_steps b2_greatestAhead b3_xs b3_ys b3_walls g0_imageKept g0_wrongByte g1_drawSeed g3_wallCount g3_texts g2_underWay g2_way g2_other g2_lead g2_man g2_dog g2_gone g2_greatest g2_remembered g3_ways f4)) [0, 1, 2, 3, 4] (by decide) rfl
  have hFc := va_free (wc := (ceX10_on cyI cyB cyJ cyZ a0 a1 a2 a3 a4 b0_tape b0_kept b0_draftGround b0_draftLaw b0_grid b0_pack b0_pieces b0_thinning b1_law b1_marks b2_steps b2_greatestAhead b3_xs b3_ys b3_walls g0_imageKept g0_wrongByte g1_drawSeed g3_wallCount g3_texts g2_underWay g2_way g2_other g2_lead g2_man g2_dog g2_gone g2_greatest g2_remembered g3_ways f4)) hD hS hA [0, 1, 2, 3, 4] rfl
  refine vx_calli (vx_runV (As := [.int p1]) (rest := [.int 0, .ref a5]) ⟨hx, hb, hml, hown, hts⟩ (ctX10_on l hl0 dC dI cyI cyB cyJ cyZ _ a0 a1 a2 a3 a4 b0_tape b0_kept b0_draftGround b0_draftLaw b0_grid b0_pack b0_pieces b0_thinning b1_law b1_marks b2_steps b2_greatestAhead b3_xs b3_ys b3_walls g0_imageKept g0_wrongByte g1_drawSeed g3_wallCount g3_texts g2_underWay g2_way g2_other g2_lead g2_man g2_dog g2_gone g2_greatest g2_remembered g3_ways f4 p1 _ _ adS hw) (cwV 1 hts gL_on_X10_on rfl rfl rfl (by decide +kernel) ⟨Nat.le_of_ble_eq_true rfl, Nat.le_of_ble_eq_true rfl⟩) ⟨wPreX_blind (xOk_txT adS), va_recv hK hPc (ci := 10) (q0 := 0) rfl rfl, fun U hU hW => wPreX_of (xOk_txT adS) hPc hK hDc hN hXs.1 hS hFc hU hW⟩ rfl rfl hl.1 rfl (lv_room (Nat.le_of_ble_eq_true rfl)) dL_on_4 ⟨(by decide), (by decide)⟩) hS (fun q _ h => hFc q h) hFc (fun q _ h => hFc q h) (fun E ce q9 u1 t H1 locs ht hvm hpx hBX hz1 hk1 hS hce hcv hcl => ?_) (fun r2 u1 t H1 locs ht hvm hw hB hz1 hk1 hS => ?_)
  · obtain ⟨hw, hP1, hK1, hD1⟩ := hBX
    rw [ht] at hP1
    obtain ⟨hP, hD⟩ := va_join (wr := pickW (ceL_on cyI cyB cyJ cyZ a0 a1 a2 a3 a4 a5 b0_tape b0_kept b0_draftGround b0_draftLaw b0_grid b0_pack b0_pieces b0_thinning b1_law b1_marks b2_steps b2_greatestAhead b3_xs b3_ys b3_walls n5 g0_imageKept g0_wrongByte g1_drawSeed g3_wallCount g3_texts g2_underWay g2_way g2_other g2_lead g2_man g2_dog g2_gone g2_greatest g2_remembered g3_ways f4 f5) [5]) (w1 := (ceX10_on cyI cyB cyJ cyZ a0 a1 a2 a3 a4 b0_tape b0_kept b0_draftGround b0_draftLaw b0_grid b0_pack b0_pieces b0_thinning b1_law b1_marks b2_steps b2_greatestAhead b3_xs b3_ys b3_walls g0_imageKept g0_wrongByte g1_drawSeed g3_wallCount g3_texts g2_underWay g2_way g2_other g2_lead g2_man g2_dog g2_gone g2_greatest g2_remembered g3_ways f4)) hP hD [0, 1, 2, 3, 4] [5] rfl rfl (by decide) (by decide) hk1 hFc hP1 hD1
    have hP := hP.sub (ws' := (ceL_on cyI cyB cyJ cyZ a0 a1 a2 a3 a4 a5 b0_tape b0_kept b0_draftGround b0_draftLaw b0_grid b0_pack b0_pieces b0_thinning b1_law b1_marks b2_steps b2_greatestAhead b3_xs b3_ys b3_walls n5 g0_imageKept g0_wrongByte g1_drawSeed g3_wallCount g3_texts g2_underWay g2_way g2_other g2_lead g2_man g2_dog g2_gone g2_greatest g2_remembered g3_ways f4 f5)) [1, 2, 3, 4, 5, 0] rfl
    have hD := hD.sub (ws' := (ceL_on cyI cyB cyJ cyZ a0 a1 a2 a3 a4 a5 b0_tape b0_kept b0_draftGround b0_draftLaw b0_grid b0_pack b0_pieces b0_thinning b1_law b1_marks b2_steps b2_greatestAhead b3_xs b3_ys b3_walls n5 g0_imageKept g0_wrongByte g1_drawSeed g3_wallCount g3_texts g2_underWay g2_way g2_other g2_lead g2_man g2_dog g2_gone g2_greatest g2_remembered g3_ways f4 f5)) [1, 2, 3, 4, 5, 0] (by decide) rfl
    obtain ⟨hw0, hE⟩ := hw
    subst hE
    have hw := hw0 rfl
    refine ec_catch (name := "java/util/NoSuchElementException") hown [] _ _ (htb.trans rfl) (fun z hz => by cases hz) (by decide) (by decide) (hts (.classLink RL 102 "java/util/NoSuchElementException") (List.mem_of_getElem? (i := 1) rfl)) (va_Nw.use rfl (hXs.1.2.2.2 (.castable "java/util/NoSuchElementException" "java/util/NoSuchElementException") (by decide +kernel))) hce hcv hcl ?_
    refine W.eq (g2 := F0 m 12 ls [.ref q9]) rfl ?_
    refine lv_astore_n (lv' := [(3, .ref q9), (0, .ref a0), (1, .int p1), (2, .ref a5)]) hx hb dL_on_12 rfl hl (by decide) rfl (fun ls hl => ?_)
    refine lv_iconst (v := 1) hx hb dL_on_13 (by decide) ?_
    rw [hQ]
    refine W.widen (k := 1) (n := 6) (by decide) (by decide) ?_
    exact W.iret (v := 1) hx hb hr (fun t ht hW => ⟨⟨1, (f5), rfl, hw, by rw [ht]; exact hP, va_K.moved hW.alike hK, hD⟩, hS.F ht⟩) hS.2.2 dL_on_14
  -- returned
  obtain ⟨hP1, hK1, hD1⟩ := hB
  rw [ht] at hP1
  obtain ⟨hP, hD⟩ := va_join (wr := pickW (ceL_on cyI cyB cyJ cyZ a0 a1 a2 a3 a4 a5 b0_tape b0_kept b0_draftGround b0_draftLaw b0_grid b0_pack b0_pieces b0_thinning b1_law b1_marks b2_steps b2_greatestAhead b3_xs b3_ys b3_walls n5 g0_imageKept g0_wrongByte g1_drawSeed g3_wallCount g3_texts g2_underWay g2_way g2_other g2_lead g2_man g2_dog g2_gone g2_greatest g2_remembered g3_ways f4 f5) [5]) (w1 := (ceX10_on cyI cyB cyJ cyZ a0 a1 a2 a3 a4 b0_tape b0_kept b0_draftGround b0_draftLaw b0_grid b0_pack b0_pieces b0_thinning b1_law b1_marks b2_steps b2_greatestAhead b3_xs b3_ys b3_walls g0_imageKept g0_wrongByte g1_drawSeed g3_wallCount g3_texts g2_underWay g2_way g2_other g2_lead g2_man g2_dog g2_gone g2_greatest g2_remembered g3_ways f4)) hP hD [0, 1, 2, 3, 4] [5] rfl rfl (by decide) (by decide) hk1 hFc hP1 hD1
  have hP := hP.sub (ws' := (ceL_on cyI cyB cyJ cyZ a0 a1 a2 a3 a4 a5 b0_tape b0_kept b0_draftGround b0_draftLaw b0_grid b0_pack b0_pieces b0_thinning b1_law b1_marks b2_steps b2_greatestAhead b3_xs b3_ys b3_walls n5 g0_imageKept g0_wrongByte g1_drawSeed g3_wallCount g3_texts g2_underWay g2_way g2_other g2_lead g2_man g2_dog g2_gone g2_greatest g2_remembered g3_ways f4 f5)) [1, 2, 3, 4, 5, 0] rfl
  have hD := hD.sub (ws' := (ceL_on cyI cyB cyJ cyZ a0 a1 a2 a3 a4 a5 b0_tape b0_kept b0_draftGround b0_draftLaw b0_grid b0_pack b0_pieces b0_thinning b1_law b1_marks b2_steps b2_greatestAhead b3_xs b3_ys b3_walls n5 g0_imageKept g0_wrongByte g1_drawSeed g3_wallCount g3_texts g2_underWay g2_way g2_other g2_lead g2_man g2_dog g2_gone g2_greatest g2_remembered g3_ways f4 f5)) [1, 2, 3, 4, 5, 0] (by decide) rfl
  generalize H1 = H at hP hS ⊢
  refine W.widen (k := 1) (n := 6) (by decide) (by decide) ?_
  refine lv_i2l hx hb dL_on_7 rfl ?_
  obtain ⟨hi, hw⟩ := hw
  refine va_last hx hb hK hP hD hS 5 2 rfl rfl hi dL_on_8 (fun H locs hP hD hS => ?_)
  have hP : va_P (dC, dI) vwCl (ceL_on cyI cyB cyJ cyZ a0 a1 a2 a3 a4 a5 b0_tape b0_kept b0_draftGround b0_draftLaw b0_grid b0_pack b0_pieces b0_thinning b1_law b1_marks b2_steps b2_greatestAhead b3_xs b3_ys b3_walls n5 g0_imageKept g0_wrongByte g1_drawSeed g3_wallCount g3_texts g2_underWay g2_way g2_other g2_lead g2_man g2_dog g2_gone g2_greatest g2_remembered g3_ways f4 (vp_updL f5 (0 : Int32).toNatClampNeg (r2.toInt64))) H := hP
  have hD : va_D A (ceL_on cyI cyB cyJ cyZ a0 a1 a2 a3 a4 a5 b0_tape b0_kept b0_draftGround b0_draftLaw b0_grid b0_pack b0_pieces b0_thinning b1_law b1_marks b2_steps b2_greatestAhead b3_xs b3_ys b3_walls n5 g0_imageKept g0_wrongByte g1_drawSeed g3_wallCount g3_texts g2_underWay g2_way g2_other g2_lead g2_man g2_dog g2_gone g2_greatest g2_remembered g3_ways f4 (vp_updL f5 (0 : Int32).toNatClampNeg (r2.toInt64))) := hD
  refine lv_goto (tgt := 15) hx hb dL_on_9 (by decide) ?_
  refine lv_iconst (v := 0) hx hb dL_on_15 (by decide) ?_
  rw [hQ]
  refine W.widen (k := 1) (n := 6) (by decide) (by decide) ?_
  exact W.iret (v := 0) hx hb hr (fun t ht hW => ⟨⟨0, ((vp_updL f5 (0 : Int32).toNatClampNeg (r2.toInt64))), rfl, hw, by rw [ht]; exact hP, va_K.moved hW.alike hK, hD⟩, hS.F ht⟩) hS.2.2 dL_on_16
