/-! LeadParkLaw.judge (LLeadPark;III[J)I -/
abbrev ceL_judge (cyI cyB cyJ cyZ : ClassId) (a0 a1 a2 a3 a4 a5 a6 a7 a8 a9 a10 a11 a12 b0_kept b0_draftGround b0_draftLaw b0_grid b0_pack b0_pieces b0_thinning b3_marks b3_stroll n12 : Nat) (g0_imageKept : Int32) (g0_wrongByte : Int32) (g1_here : Int32) (g1_behind : Int32) (g1_digits : Int32) (g1_value : Int32) (g3_drawSeed : Int32) (g4_texts : Int32) (g9_lines : Int32) (f2 : Nat → Int32) (g4_ways : Int32) (g4_wallCount : Int32) (f5 : Nat → Int32) (f6 : Nat → Int32) (f7 : Nat → Int32) (f8 : Nat → Int32) (g9_size : Int32) (f11 : Nat → Int32) (g1_size : Int32) (f10 : Nat → Int32) (f12 : Nat → Int64) : va_W := [(a0, .inr (10, [.ref a1, .ref a3, .ref b0_kept, .ref b0_draftGround, .ref b0_draftLaw, .ref b0_grid, .ref b0_pack, .ref b0_pieces, .ref b0_thinning, .int g0_imageKept, .int g0_wrongByte])), (a1, .inr (8, [.ref a2, .int g1_size, .int g1_here, .int g1_behind, .int g1_digits, .int g1_value])), (a2, .inl (cyB, 400, .inl f2)), (a3, .inr (6, [.ref a4, .ref a9, .ref b3_marks, .ref b3_stroll, .int g3_drawSeed])), (a4, .inr (1, [.ref a6, .ref a7, .ref a5, .ref a8, .int g4_ways, .int g4_wallCount, .int g4_texts])), (a5, .inl (cyI, 12, .inl f5)), (a6, .inl (cyI, 360, .inl f6)), (a7, .inl (cyI, 360, .inl f7)), (a8, .inl (cyI, 32, .inl f8)), (a9, .inr (2, [.ref a11, .ref a10, .int g9_size, .int g9_lines])), (a10, .inl (cyI, 7, .inl f10)), (a11, .inl (cyI, 400, .inl f11)), (a12, .inl (cyJ, n12, .inr (.inl f12)))]

abbrev rmL_judge : Room := { frames := 8, cells := 3, slots := 18, locals := 181 }
set_option maxRecDepth 100000 in
set_option maxHeartbeats 4000000 in
theorem ctL_judge (l : Launch) (hl0 : l.stackTraces = false) (dC : Nat → ClassId) (dI : Nat → Nat → Nat) (cyI cyB cyJ cyZ : ClassId) (sz : Nat) (a0 a1 a2 a3 a4 a5 a6 a7 a8 a9 a10 a11 a12 b0_kept b0_draftGround b0_draftLaw b0_grid b0_pack b0_pieces b0_thinning b3_marks b3_stroll n12 : Nat) (g0_imageKept : Int32) (g0_wrongByte : Int32) (g1_here : Int32) (g1_behind : Int32) (g1_digits : Int32) (g1_value : Int32) (g3_drawSeed : Int32) (g4_texts : Int32) (g9_lines : Int32) (f2 : Nat → Int32) (g4_ways : Int32) (g4_wallCount : Int32) (f5 : Nat → Int32) (f6 : Nat → Int32) (f7 : Nat → Int32) (f8 : Nat → Int32) (g9_size : Int32) (f11 : Nat → Int32) (g1_size : Int32) (f10 : Nat → Int32) (f12 : Nat → Int64) (p1 : Int32) (p2 : Int32) (p3 : Int32) (post : Int32 → (Int32 × (Nat → Int32) × (Nat → Int64)) → Prop) (adS : Nat → Nat) (hw : wpL_judge n12 post f2 g4_ways g4_wallCount f5 f6 f7 f8 g9_size f11 g1_size f10 f12 p1 p2 p3) : Met l yL_judge wsL_judge rmL_judge (va_Pc [.ref a0, .int p1, .int p2, .int p3, .ref a12] (wPreX dC dI cyI cyB cyJ cyZ sz (ceL_judge cyI cyB cyJ cyZ a0 a1 a2 a3 a4 a5 a6 a7 a8 a9 a10 a11 a12 b0_kept b0_draftGround b0_draftLaw b0_grid b0_pack b0_pieces b0_thinning b3_marks b3_stroll n12 g0_imageKept g0_wrongByte g1_here g1_behind g1_digits g1_value g3_drawSeed g4_texts g9_lines f2 g4_ways g4_wallCount f5 f6 f7 f8 g9_size f11 g1_size f10 f12) (txL adS))) (va_Qi post (fun u : Int32 × (Nat → Int32) × (Nat → Int64) => wAt dC dI cyI cyB cyJ cyZ (va_A (ceL_judge cyI cyB cyJ cyZ a0 a1 a2 a3 a4 a5 a6 a7 a8 a9 a10 a11 a12 b0_kept b0_draftGround b0_draftLaw b0_grid b0_pack b0_pieces b0_thinning b3_marks b3_stroll n12 g0_imageKept g0_wrongByte g1_here g1_behind g1_digits g1_value g3_drawSeed g4_texts g9_lines f2 g4_ways g4_wallCount f5 f6 f7 f8 g9_size f11 g1_size f10 f12) sz) (ceL_judge cyI cyB cyJ cyZ a0 a1 a2 a3 a4 a5 a6 a7 a8 a9 a10 a11 a12 b0_kept b0_draftGround b0_draftLaw b0_grid b0_pack b0_pieces b0_thinning b3_marks b3_stroll n12 g0_imageKept g0_wrongByte g1_here g1_behind g1_digits g1_value g3_drawSeed g4_texts g9_lines f2 g4_ways g4_wallCount f5 f6 f7 f8 g9_size f11 u.1 u.2.1 u.2.2)) (va_A (ceL_judge cyI cyB cyJ cyZ a0 a1 a2 a3 a4 a5 a6 a7 a8 a9 a10 a11 a12 b0_kept b0_draftGround b0_draftLaw b0_grid b0_pack b0_pieces b0_thinning b3_marks b3_stroll n12 g0_imageKept g0_wrongByte g1_here g1_behind g1_digits g1_value g3_drawSeed g4_texts g9_lines f2 g4_ways g4_wallCount f5 f6 f7 f8 g9_size f11 g1_size f10 f12) sz)) 3 18 (va_A (ceL_judge cyI cyB cyJ cyZ a0 a1 a2 a3 a4 a5 a6 a7 a8 a9 a10 a11 a12 b0_kept b0_draftGround b0_draftLaw b0_grid b0_pack b0_pieces b0_thinning b3_marks b3_stroll n12 g0_imageKept g0_wrongByte g1_here g1_behind g1_digits g1_value g3_drawSeed g4_texts g9_lines f2 g4_ways g4_wallCount f5 f6 f7 f8 g9_size f11 g1_size f10 f12) sz) := by
  refine mt_ofWH (cc := cL_judge) (maxL := 6) (ret := (some .int)) (by decide) rfl ?_
  intro p e s m args below meth c s₁ B hml hv
  obtain ⟨rfl, ⟨hsz, hP, hK, hD0, hN⟩, hXs⟩ := hv
  have hx := B.exec
  have hb := B.bytes
  have hr := B.returns
  have hts := atoms_spec (ws := wsL_judge) B.pre
  have hown : s.vm.findClass RL = some m.cls := findClass_of_methodNamed B.named
  have hlocks := B.notSynchronized
  have htb := vx_table (x := yL_judge) B (hts _ (List.mem_of_getElem? (i := 0) rfl))
  subst hsz
  have hD := hD0.self (sz := s.heap.size)
  generalize hAe : va_A (ceL_judge cyI cyB cyJ cyZ a0 a1 a2 a3 a4 a5 a6 a7 a8 a9 a10 a11 a12 b0_kept b0_draftGround b0_draftLaw b0_grid b0_pack b0_pieces b0_thinning b3_marks b3_stroll n12 g0_imageKept g0_wrongByte g1_here g1_behind g1_digits g1_value g3_drawSeed g4_texts g9_lines f2 g4_ways g4_wallCount f5 f6 f7 f8 g9_size f11 g1_size f10 f12) s.heap.size = A at hD hXs ⊢
  have hA : ∀ q : Nat, s.heap.size ≤ q → A q := fun q h => by rw [← hAe]; exact Or.inr h
  have hS : va_S A s.heap s.heap [] := va_S.rf
  have C0 : cxM p s m meth c _ wsL_judge RL cL_judge 6 (some .int) := ⟨hx, hb, hr, hml, hown, hts, hlocks⟩
  have hl := lv_entry ([.ref a0, .int p1, .int p2, .int p3, .ref a12]) (n := 6) (Nat.le_of_ble_eq_true rfl)
  rw [lg_entry_eq]
  generalize (lg_sl ([.ref a0, .int p1, .int p2, .int p3, .ref a12]) ++ List.replicate (6 - (lg_sl ([.ref a0, .int p1, .int p2, .int p3, .ref a12])).length) Slot.unset).toArray = ls at hl ⊢
  have hl : lv_has ls 6 [(0, .ref a0), (1, .int p1), (2, .int p2), (3, .int p3), (4, .ref a12)] := hl
  show W p l e rmL_judge s m _ below meth c _ _ _ _ _ _
  refine wq (fun Q hQ => ?_)
  refine lv_aload hx hb dL_judge_0 (lv_at hl 4 rfl) ?_
  refine lv_iconst (v := 0) hx hb dL_judge_2 (by decide) ?_
  refine lv_aload_n hx hb dL_judge_3 rfl (lv_at hl 0 rfl) ?_
  refine lv_iload_n hx hb dL_judge_4 rfl (lv_at hl 1 rfl) ?_
  refine lv_iload_n hx hb dL_judge_5 rfl (lv_at hl 2 rfl) ?_
  refine lv_iload_n hx hb dL_judge_6 rfl (lv_at hl 3 rfl) ?_
  have hPc := hP.sub (ws' := (ceX10_judge cyI cyB cyJ cyZ a0 a1 a2 a3 a4 a5 a6 a7 a8 a9 a10 a11 b0_kept b0_draftGround b0_draftLaw b0_grid b0_pack b0_pieces b0_thinning b3_marks b3_stroll g0_imageKept g0_wrongByte g1_here g1_behind g1_digits g1_value g3_drawSeed g4_texts g9_lines f2 g4_ways g4_wallCount f5 f6 f7 f8 g9_size f11 g1_size f10)) [0, 1, 2, 3, 4, 5, 6, 7, 8, 9, 10, 11] rfl
  have hDc := hD.sub (ws' := (ceX10_judge cyI cyB cyJ cyZ a0 a1 a2 a3 a4 a5 a6 a7 a8 a9 a10 a11 b0_kept b0_draftGround b0_draftLaw b0_grid b0_pack b0_pieces b0_thinning b3_marks b3_stroll g0_imageKept g0_wrongByte g1_here g1_behind g1_digits g1_value g3_drawSeed g4_texts g9_lines f2 g4_ways g4_wallCount f5 f6 f7 f8 g9_size f11 g1_size f10)) [0, 1, 2, 3, 4, 5, 6, 7, 8, 9, 10, 11] (by decide) rfl
  have hFc := va_free (wc := (ceX10_judge cyI cyB cyJ cyZ a0 a1 a2 a3 a4 a5 a6 a7 a8 a9 a10 a11 b0_kept b0_draftGround b0_draftLaw b0_grid b0_pack b0_pieces b0_thinning b3_marks b3_stroll g0_imageKept g0_wrongByte g1_here g1_behind g1_digits g1_value g3_drawSeed g4_texts g9_lines f2 g4_ways g4_wallCount f5 f6 f7 f8 g9_size f11 g1_size f10)) hD hS hA [0, 1, 2, 3, 4, 5, 6, 7, 8, 9, 10, 11] rfl
  refine vx_calli (vx_runV (As := [.int p1, .int p2, .int p3]) (rest := [.int 0, .ref a12]) ⟨hx, hb, hml, hown, hts⟩ (ctX10_judge l hl0 dC dI cyI cyB cyJ cyZ _ a0 a1 a2 a3 a4 a5 a6 a7 a8 a9 a10 a11 b0_kept b0_draftGround b0_draftLaw b0_grid b0_pack b0_pieces b0_thinning b3_marks b3_stroll g0_imageKept g0_wrongByte g1_here g1_behind g1_digits g1_value g3_drawSeed g4_texts g9_lines f2 g4_ways g4_wallCount f5 f6 f7 f8 g9_size f11 g1_size f10 p1 p2 p3 _ _ adS hw) (cwV 3 hts gL_judge_X10_judge rfl rfl rfl (by decide +kernel) ⟨Nat.le_of_ble_eq_true rfl, Nat.le_of_ble_eq_true rfl⟩) ⟨wPreX_blind (xOk_txT adS), va_recv hK hPc (ci := 10) (q0 := 0) rfl rfl, fun U hU hW => wPreX_of (xOk_txT adS) hPc hK hDc hN hXs.1 hS hFc hU hW⟩ rfl rfl hl.1 rfl (lv_room (Nat.le_of_ble_eq_true rfl)) dL_judge_7 ⟨(by decide), (by decide)⟩) hS (fun q _ h => hFc q h) hFc (fun q _ h => hFc q h) (fun E ce q9 u1 t H1 locs ht hvm hpx hBX hz1 hk1 hS hce hcv hcl => ?_) (fun r2 u1 t H1 locs ht hvm hw hB hz1 hk1 hS => ?_)
  · obtain ⟨hw, hP1, hK1, hD1⟩ := hBX
    rw [ht] at hP1
    obtain ⟨hP, hD⟩ := va_join (wr := pickW (ceL_judge cyI cyB cyJ cyZ a0 a1 a2 a3 a4 a5 a6 a7 a8 a9 a10 a11 a12 b0_kept b0_draftGround b0_draftLaw b0_grid b0_pack b0_pieces b0_thinning b3_marks b3_stroll n12 g0_imageKept g0_wrongByte g1_here g1_behind g1_digits g1_value g3_drawSeed g4_texts g9_lines f2 g4_ways g4_wallCount f5 f6 f7 f8 g9_size f11 g1_size f10 f12) [12]) (w1 := (ceX10_judge cyI cyB cyJ cyZ a0 a1 a2 a3 a4 a5 a6 a7 a8 a9 a10 a11 b0_kept b0_draftGround b0_draftLaw b0_grid b0_pack b0_pieces b0_thinning b3_marks b3_stroll g0_imageKept g0_wrongByte g1_here g1_behind g1_digits g1_value g3_drawSeed g4_texts g9_lines f2 g4_ways g4_wallCount f5 f6 f7 f8 g9_size f11 u1.1 u1.2)) hP hD [0, 1, 2, 3, 4, 5, 6, 7, 8, 9, 10, 11] [12] rfl rfl (by decide) (by decide) hk1 hFc hP1 hD1
    have hP := hP.sub (ws' := (ceL_judge cyI cyB cyJ cyZ a0 a1 a2 a3 a4 a5 a6 a7 a8 a9 a10 a11 a12 b0_kept b0_draftGround b0_draftLaw b0_grid b0_pack b0_pieces b0_thinning b3_marks b3_stroll n12 g0_imageKept g0_wrongByte g1_here g1_behind g1_digits g1_value g3_drawSeed g4_texts g9_lines f2 g4_ways g4_wallCount f5 f6 f7 f8 g9_size f11 u1.1 u1.2 f12)) [1, 2, 3, 4, 5, 6, 7, 8, 9, 10, 11, 12, 0] rfl
    have hD := hD.sub (ws' := (ceL_judge cyI cyB cyJ cyZ a0 a1 a2 a3 a4 a5 a6 a7 a8 a9 a10 a11 a12 b0_kept b0_draftGround b0_draftLaw b0_grid b0_pack b0_pieces b0_thinning b3_marks b3_stroll n12 g0_imageKept g0_wrongByte g1_here g1_behind g1_digits g1_value g3_drawSeed g4_texts g9_lines f2 g4_ways g4_wallCount f5 f6 f7 f8 g9_size f11 u1.1 u1.2 f12)) [1, 2, 3, 4, 5, 6, 7, 8, 9, 10, 11, 12, 0] (by decide) rfl
    obtain ⟨hw0, hw1, hE⟩ := hw
    rcases hE with rfl | rfl
    · have hw := hw0 rfl
      refine ec_catch (name := "java/lang/IndexOutOfBoundsException") hown [] _ _ (htb.trans rfl) (fun z hz => by cases hz) (by decide) (by decide) (hts (.classLink RL 24 "java/lang/IndexOutOfBoundsException") (List.mem_of_getElem? (i := 1) rfl)) (va_Nw.use rfl (hXs.1.2.2.2 (.castable "java/lang/IndexOutOfBoundsException" "java/lang/IndexOutOfBoundsException") (by decide +kernel))) hce hcv hcl ?_
      refine W.eq (g2 := F0 m 15 ls [.ref q9]) rfl ?_
      refine lv_astore (lv' := [(5, .ref q9), (0, .ref a0), (1, .int p1), (2, .int p2), (3, .int p3), (4, .ref a12)]) hx hb dL_judge_15 hl (by decide) rfl (fun ls hl => ?_)
      refine lv_iconst (v := 1) hx hb dL_judge_17 (by decide) ?_
      rw [hQ]
      refine W.widen (k := 3) (n := 18) (by decide) (by decide) ?_
      exact W.iret (v := 1) hx hb hr (fun t ht hW => ⟨⟨1, (u1.1, u1.2, f12), rfl, hw, by rw [ht]; exact hP, va_K.moved hW.alike hK, hD⟩, hS.F ht⟩) hS.2.2 dL_judge_18
    · have hw := hw1 rfl
      refine ec_catch (name := "java/lang/IllegalArgumentException") hown [_] _ _ (htb.trans rfl) (fun z hz => by rw [List.mem_singleton] at hz; subst hz; exact Or.inr ⟨by decide, "java/lang/IndexOutOfBoundsException", (hts (.classLink RL 24 "java/lang/IndexOutOfBoundsException") (List.mem_of_getElem? (i := 1) rfl)), hXs.2.1⟩) (by decide) (by decide) (hts (.classLink RL 13 "java/lang/IllegalArgumentException") (List.mem_of_getElem? (i := 2) rfl)) (va_Nw.use rfl (hXs.1.2.2.2 (.castable "java/lang/IllegalArgumentException" "java/lang/IllegalArgumentException") (by decide +kernel))) hce hcv hcl ?_
      refine W.eq (g2 := F0 m 19 ls [.ref q9]) rfl ?_
      refine lv_astore (lv' := [(5, .ref q9), (0, .ref a0), (1, .int p1), (2, .int p2), (3, .int p3), (4, .ref a12)]) hx hb dL_judge_19 hl (by decide) rfl (fun ls hl => ?_)
      refine lv_iconst (v := 2) hx hb dL_judge_21 (by decide) ?_
      rw [hQ]
      refine W.widen (k := 3) (n := 18) (by decide) (by decide) ?_
      exact W.iret (v := 2) hx hb hr (fun t ht hW => ⟨⟨2, (u1.1, u1.2, f12), rfl, hw, by rw [ht]; exact hP, va_K.moved hW.alike hK, hD⟩, hS.F ht⟩) hS.2.2 dL_judge_22
  -- returned
  obtain ⟨hP1, hK1, hD1⟩ := hB
  rw [ht] at hP1
  obtain ⟨hP, hD⟩ := va_join (wr := pickW (ceL_judge cyI cyB cyJ cyZ a0 a1 a2 a3 a4 a5 a6 a7 a8 a9 a10 a11 a12 b0_kept b0_draftGround b0_draftLaw b0_grid b0_pack b0_pieces b0_thinning b3_marks b3_stroll n12 g0_imageKept g0_wrongByte g1_here g1_behind g1_digits g1_value g3_drawSeed g4_texts g9_lines f2 g4_ways g4_wallCount f5 f6 f7 f8 g9_size f11 g1_size f10 f12) [12]) (w1 := (ceX10_judge cyI cyB cyJ cyZ a0 a1 a2 a3 a4 a5 a6 a7 a8 a9 a10 a11 b0_kept b0_draftGround b0_draftLaw b0_grid b0_pack b0_pieces b0_thinning b3_marks b3_stroll g0_imageKept g0_wrongByte g1_here g1_behind g1_digits g1_value g3_drawSeed g4_texts g9_lines f2 g4_ways g4_wallCount f5 f6 f7 f8 g9_size f11 u1.1 u1.2)) hP hD [0, 1, 2, 3, 4, 5, 6, 7, 8, 9, 10, 11] [12] rfl rfl (by decide) (by decide) hk1 hFc hP1 hD1
  have hP := hP.sub (ws' := (ceL_judge cyI cyB cyJ cyZ a0 a1 a2 a3 a4 a5 a6 a7 a8 a9 a10 a11 a12 b0_kept b0_draftGround b0_draftLaw b0_grid b0_pack b0_pieces b0_thinning b3_marks b3_stroll n12 g0_imageKept g0_wrongByte g1_here g1_behind g1_digits g1_value g3_drawSeed g4_texts g9_lines f2 g4_ways g4_wallCount f5 f6 f7 f8 g9_size f11 u1.1 u1.2 f12)) [1, 2, 3, 4, 5, 6, 7, 8, 9, 10, 11, 12, 0] rfl
  have hD := hD.sub (ws' := (ceL_judge cyI cyB cyJ cyZ a0 a1 a2 a3 a4 a5 a6 a7 a8 a9 a10 a11 a12 b0_kept b0_draftGround b0_draftLaw b0_grid b0_pack b0_pieces b0_thinning b3_marks b3_stroll n12 g0_imageKept g0_wrongByte g1_here g1_behind g1_digits g1_value g3_drawSeed g4_texts g9_lines f2 g4_ways g4_wallCount f5 f6 f7 f8 g9_size f11 u1.1 u1.2 f12)) [1, 2, 3, 4, 5, 6, 7, 8, 9, 10, 11, 12, 0] (by decide) rfl
  generalize H1 = H at hP hS ⊢
  refine W.widen (k := 3) (n := 18) (by decide) (by decide) ?_
  refine lv_i2l hx hb dL_judge_10 rfl ?_
  obtain ⟨hi, hw⟩ := hw
  refine va_last hx hb hK hP hD hS 12 2 rfl rfl hi dL_judge_11 (fun H locs hP hD hS => ?_)
  have hP : va_P (dC, dI) vwCl (ceL_judge cyI cyB cyJ cyZ a0 a1 a2 a3 a4 a5 a6 a7 a8 a9 a10 a11 a12 b0_kept b0_draftGround b0_draftLaw b0_grid b0_pack b0_pieces b0_thinning b3_marks b3_stroll n12 g0_imageKept g0_wrongByte g1_here g1_behind g1_digits g1_value g3_drawSeed g4_texts g9_lines f2 g4_ways g4_wallCount f5 f6 f7 f8 g9_size f11 u1.1 u1.2 (vp_updL f12 (0 : Int32).toNatClampNeg (r2.toInt64))) H := hP
  have hD : va_D A (ceL_judge cyI cyB cyJ cyZ a0 a1 a2 a3 a4 a5 a6 a7 a8 a9 a10 a11 a12 b0_kept b0_draftGround b0_draftLaw b0_grid b0_pack b0_pieces b0_thinning b3_marks b3_stroll n12 g0_imageKept g0_wrongByte g1_here g1_behind g1_digits g1_value g3_drawSeed g4_texts g9_lines f2 g4_ways g4_wallCount f5 f6 f7 f8 g9_size f11 u1.1 u1.2 (vp_updL f12 (0 : Int32).toNatClampNeg (r2.toInt64))) := hD
  refine lv_goto (tgt := 23) hx hb dL_judge_12 (by decide) ?_
  refine lv_iconst (v := 0) hx hb dL_judge_23 (by decide) ?_
  rw [hQ]
  refine W.widen (k := 3) (n := 18) (by decide) (by decide) ?_
  exact W.iret (v := 0) hx hb hr (fun t ht hW => ⟨⟨0, (u1.1, u1.2, (vp_updL f12 (0 : Int32).toNatClampNeg (r2.toInt64))), rfl, hw, by rw [ht]; exact hP, va_K.moved hW.alike hK, hD⟩, hS.F ht⟩) hS.2.2 dL_judge_24
/-! LeadParkLaw.parts (LLeadPark;III[J)I -/
abbrev ceL_parts (cyI cyB cyJ cyZ : ClassId) (a0 a1 a2 a3 a4 a5 a6 a7 a8 a9 a10 a11 a12 b0_tape b0_kept b0_draftGround b0_draftLaw b0_grid b0_pack b0_thinning b1_law b1_marks b1_stroll b2_walls n12 : Nat) (g0_imageKept : Int32) (g0_wrongByte : Int32) (g1_drawSeed : Int32) (g2_wallCount : Int32) (g2_texts : Int32) (g2_ways : Int32) (f3 : Nat → Int32) (f4 : Nat → Int32) (f5 : Nat → Int32) (f7 : Nat → Int32) (f8 : Nat → Int32) (f9 : Nat → Int32) (f10 : Nat → Int32) (f11 : Nat → Int32) (f12 : Nat → Int64) : va_W := [(a0, .inr (10, [.ref b0_tape, .ref a1, .ref b0_kept, .ref b0_draftGround, .ref b0_draftLaw, .ref b0_grid, .ref b0_pack, .ref a6, .ref b0_thinning, .int g0_imageKept, .int g0_wrongByte])), (a1, .inr (6, [.ref a2, .ref b1_law, .ref b1_marks, .ref b1_stroll, .int g1_drawSeed])), (a2, .inr (1, [.ref a4, .ref a5, .ref a3, .ref b2_walls, .int g2_ways, .int g2_wallCount, .int g2_texts])), (a3, .inl (cyI, 12, .inl f3)), (a4, .inl (cyI, 360, .inl f4)), (a5, .inl (cyI, 360, .inl f5)), (a6, .inr (5, [.ref a7, .ref a8, .ref a9, .ref a10, .ref a11])), (a7, .inl (cyI, 233, .inl f7)), (a8, .inl (cyI, 233, .inl f8)), (a9, .inl (cyI, 233, .inl f9)), (a10, .inl (cyI, 233, .inl f10)), (a11, .inl (cyI, 234, .inl f11)), (a12, .inl (cyJ, n12, .inr (.inl f12)))]

abbrev rmL_parts : Room := { frames := 8, cells := 3, slots := 18, locals := 144 }
set_option maxRecDepth 100000 in
set_option maxHeartbeats 4000000 in
theorem ctL_parts (l : Launch) (hl0 : l.stackTraces = false) (dC : Nat → ClassId) (dI : Nat → Nat → Nat) (cyI cyB cyJ cyZ : ClassId) (sz : Nat) (a0 a1 a2 a3 a4 a5 a6 a7 a8 a9 a10 a11 a12 b0_tape b0_kept b0_draftGround b0_draftLaw b0_grid b0_pack b0_thinning b1_law b1_marks b1_stroll b2_walls n12 : Nat) (g0_imageKept : Int32) (g0_wrongByte : Int32) (g1_drawSeed : Int32) (g2_wallCount : Int32) (g2_texts : Int32) (g2_ways : Int32) (f3 : Nat → Int32) (f4 : Nat → Int32) (f5 : Nat → Int32) (f7 : Nat → Int32) (f8 : Nat → Int32) (f9 : Nat → Int32) (f10 : Nat → Int32) (f11 : Nat → Int32) (f12 : Nat → Int64) (p1 : Int32) (p2 : Int32) (p3 : Int32) (post : Int32 → ((Nat → Int32) × (Nat → Int32) × (Nat → Int32) × (Nat → Int32) × (Nat → Int32) × (Nat → Int64)) → Prop) (adS : Nat → Nat) (hw : wpL_parts n12 post g2_ways f3 f4 f5 f7 f8 f9 f10 f11 f12 p1 p2 p3) : Met l yL_parts wsL_parts rmL_parts (va_Pc [.ref a0, .int p1, .int p2, .int p3, .ref a12] (wPreX dC dI cyI cyB cyJ cyZ sz (ceL_parts cyI cyB cyJ cyZ a0 a1 a2 a3 a4 a5 a6 a7 a8 a9 a10 a11 a12 b0_tape b0_kept b0_draftGround b0_draftLaw b0_grid b0_pack b0_thinning b1_law b1_marks b1_stroll b2_walls n12 g0_imageKept g0_wrongByte g1_drawSeed g2_wallCount g2_texts g2_ways f3 f4 f5 f7 f8 f9 f10 f11 f12) (txL adS))) (va_Qi post (fun u : (Nat → Int32) × (Nat → Int32) × (Nat → Int32) × (Nat → Int32) × (Nat → Int32) × (Nat → Int64) => wAt dC dI cyI cyB cyJ cyZ (va_A (ceL_parts cyI cyB cyJ cyZ a0 a1 a2 a3 a4 a5 a6 a7 a8 a9 a10 a11 a12 b0_tape b0_kept b0_draftGround b0_draftLaw b0_grid b0_pack b0_thinning b1_law b1_marks b1_stroll b2_walls n12 g0_imageKept g0_wrongByte g1_drawSeed g2_wallCount g2_texts g2_ways f3 f4 f5 f7 f8 f9 f10 f11 f12) sz) (ceL_parts cyI cyB cyJ cyZ a0 a1 a2 a3 a4 a5 a6 a7 a8 a9 a10 a11 a12 b0_tape b0_kept b0_draftGround b0_draftLaw b0_grid b0_pack b0_thinning b1_law b1_marks b1_stroll b2_walls n12 g0_imageKept g0_wrongByte g1_drawSeed g2_wallCount g2_texts g2_ways f3 f4 f5 u.1 u.2.1 u.2.2.1 u.2.2.2.1 u.2.2.2.2.1 u.2.2.2.2.2)) (va_A (ceL_parts cyI cyB cyJ cyZ a0 a1 a2 a3 a4 a5 a6 a7 a8 a9 a10 a11 a12 b0_tape b0_kept b0_draftGround b0_draftLaw b0_grid b0_pack b0_thinning b1_law b1_marks b1_stroll b2_walls n12 g0_imageKept g0_wrongByte g1_drawSeed g2_wallCount g2_texts g2_ways f3 f4 f5 f7 f8 f9 f10 f11 f12) sz)) 3 18 (va_A (ceL_parts cyI cyB cyJ cyZ a0 a1 a2 a3 a4 a5 a6 a7 a8 a9 a10 a11 a12 b0_tape b0_kept b0_draftGround b0_draftLaw b0_grid b0_pack b0_thinning b1_law b1_marks b1_stroll b2_walls n12 g0_imageKept g0_wrongByte g1_drawSeed g2_wallCount g2_texts g2_ways f3 f4 f5 f7 f8 f9 f10 f11 f12) sz) := by
  refine mt_ofWH (cc := cL_parts) (maxL := 6) (ret := (some .int)) (by decide) rfl ?_
  intro p e s m args below meth c s₁ B hml hv
  obtain ⟨rfl, ⟨hsz, hP, hK, hD0, hN⟩, hXs⟩ := hv
  have hx := B.exec
  have hb := B.bytes
  have hr := B.returns
  have hts := atoms_spec (ws := wsL_parts) B.pre
  have hown : s.vm.findClass RL = some m.cls := findClass_of_methodNamed B.named
  have hlocks := B.notSynchronized
  have htb := vx_table (x := yL_parts) B (hts _ (List.mem_of_getElem? (i := 0) rfl))
  subst hsz
  have hD := hD0.self (sz := s.heap.size)
  generalize hAe : va_A (ceL_parts cyI cyB cyJ cyZ a0 a1 a2 a3 a4 a5 a6 a7 a8 a9 a10 a11 a12 b0_tape b0_kept b0_draftGround b0_draftLaw b0_grid b0_pack b0_thinning b1_law b1_marks b1_stroll b2_walls n12 g0_imageKept g0_wrongByte g1_drawSeed g2_wallCount g2_texts g2_ways f3 f4 f5 f7 f8 f9 f10 f11 f12) s.heap.size = A at hD hXs ⊢
  have hA : ∀ q : Nat, s.heap.size ≤ q → A q := fun q h => by rw [← hAe]; exact Or.inr h
  have hS : va_S A s.heap s.heap [] := va_S.rf
  have C0 : cxM p s m meth c _ wsL_parts RL cL_parts 6 (some .int) := ⟨hx, hb, hr, hml, hown, hts, hlocks⟩
  have hl := lv_entry ([.ref a0, .int p1, .int p2, .int p3, .ref a12]) (n := 6) (Nat.le_of_ble_eq_true rfl)
  rw [lg_entry_eq]
  generalize (lg_sl ([.ref a0, .int p1, .int p2, .int p3, .ref a12]) ++ List.replicate (6 - (lg_sl ([.ref a0, .int p1, .int p2, .int p3, .ref a12])).length) Slot.unset).toArray = ls at hl ⊢
  have hl : lv_has ls 6 [(0, .ref a0), (1, .int p1), (2, .int p2), (3, .int p3), (4, .ref a12)] := hl
  show W p l e rmL_parts s m _ below meth c _ _ _ _ _ _
  refine wq (fun Q hQ => ?_)
  refine lv_aload hx hb dL_parts_0 (lv_at hl 4 rfl) ?_
  refine lv_iconst (v := 0) hx hb dL_parts_2 (by decide) ?_
  refine lv_aload_n hx hb dL_parts_3 rfl (lv_at hl 0 rfl) ?_
  refine lv_iload_n hx hb dL_parts_4 rfl (lv_at hl 1 rfl) ?_
  refine lv_iload_n hx hb dL_parts_5 rfl (lv_at hl 2 rfl) ?_
  refine lv_iload_n hx hb dL_parts_6 rfl (lv_at hl 3 rfl) ?_
  have hPc := hP.sub (ws' := (ceX10_parts cyI cyB cyJ cyZ a0 a1 a2 a3 a4 a5 a6 a7 a8 a9 a10 a11 b0_tape b0_kept b0_draftGround b0_draftLaw b0_grid b0_pack b0_thinning b1_law b1_marks b1_stroll b2_walls g0_imageKept g0_wrongByte g1_drawSeed g2_wallCount g2_texts g2_ways f3 f4 f5 f7 f8 f9 f10 f11)) [0, 1, 2, 3, 4, 5, 6, 7, 8, 9, 10, 11] rfl
  have hDc := hD.sub (ws' := (ceX10_parts cyI cyB cyJ cyZ a0 a1 a2 a3 a4 a5 a6 a7 a8 a9 a10 a11 b0_tape b0_kept b0_draftGround b0_draftLaw b0_grid b0_pack b0_thinning b1_law b1_marks b1_stroll b2_walls g0_imageKept g0_wrongByte g1_drawSeed g2_wallCount g2_texts g2_ways f3 f4 f5 f7 f8 f9 f10 f11)) [0, 1, 2, 3, 4, 5, 6, 7, 8, 9, 10, 11] (by decide) rfl
  have hFc := va_free (wc := (ceX10_parts cyI cyB cyJ cyZ a0 a1 a2 a3 a4 a5 a6 a7 a8 a9 a10 a11 b0_tape b0_kept b0_draftGround b0_draftLaw b0_grid b0_pack b0_thinning b1_law b1_marks b1_stroll b2_walls g0_imageKept g0_wrongByte g1_drawSeed g2_wallCount g2_texts g2_ways f3 f4 f5 f7 f8 f9 f10 f11)) hD hS hA [0, 1, 2, 3, 4, 5, 6, 7, 8, 9, 10, 11] rfl
  refine vx_calll (vx_runV (As := [.int p1, .int p2, .int p3]) (rest := [.int 0, .ref a12]) ⟨hx, hb, hml, hown, hts⟩ (ctX10_parts l hl0 dC dI cyI cyB cyJ cyZ _ a0 a1 a2 a3 a4 a5 a6 a7 a8 a9 a10 a11 b0_tape b0_kept b0_draftGround b0_draftLaw b0_grid b0_pack b0_thinning b1_law b1_marks b1_stroll b2_walls g0_imageKept g0_wrongByte g1_drawSeed g2_wallCount g2_texts g2_ways f3 f4 f5 f7 f8 f9 f10 f11 p1 p2 p3 _ _ adS hw) (cwV 3 hts gL_parts_X10_parts rfl rfl rfl (by decide +kernel) ⟨Nat.le_of_ble_eq_true rfl, Nat.le_of_ble_eq_true rfl⟩) ⟨wPreX_blind (xOk_txT adS), va_recv hK hPc (ci := 10) (q0 := 0) rfl rfl, fun U hU hW => wPreX_of (xOk_txT adS) hPc hK hDc hN hXs.1 hS hFc hU hW⟩ rfl rfl hl.1 rfl (lv_room (Nat.le_of_ble_eq_true rfl)) dL_parts_7 ⟨(by decide), (by decide)⟩) hS (fun q _ h => hFc q h) hFc (fun q _ h => hFc q h) (fun E ce q9 u1 t H1 locs ht hvm hpx hBX hz1 hk1 hS hce hcv hcl => ?_) (fun r2 u1 t H1 locs ht hvm hw hB hz1 hk1 hS => ?_)
  · obtain ⟨hw, hP1, hK1, hD1⟩ := hBX
    rw [ht] at hP1
    obtain ⟨hP, hD⟩ := va_join (wr := pickW (ceL_parts cyI cyB cyJ cyZ a0 a1 a2 a3 a4 a5 a6 a7 a8 a9 a10 a11 a12 b0_tape b0_kept b0_draftGround b0_draftLaw b0_grid b0_pack b0_thinning b1_law b1_marks b1_stroll b2_walls n12 g0_imageKept g0_wrongByte g1_drawSeed g2_wallCount g2_texts g2_ways f3 f4 f5 f7 f8 f9 f10 f11 f12) [12]) (w1 := (ceX10_parts cyI cyB cyJ cyZ a0 a1 a2 a3 a4 a5 a6 a7 a8 a9 a10 a11 b0_tape b0_kept b0_draftGround b0_draftLaw b0_grid b0_pack b0_thinning b1_law b1_marks b1_stroll b2_walls g0_imageKept g0_wrongByte g1_drawSeed g2_wallCount g2_texts g2_ways f3 f4 f5 u1.1 u1.2.1 u1.2.2.1 u1.2.2.2.1 u1.2.2.2.2)) hP hD [0, 1, 2, 3, 4, 5, 6, 7, 8, 9, 10, 11] [12] rfl rfl (by decide) (by decide) hk1 hFc hP1 hD1
    have hP := hP.sub (ws' := (ceL_parts cyI cyB cyJ cyZ a0 a1 a2 a3 a4 a5 a6 a7 a8 a9 a10 a11 a12 b0_tape b0_kept b0_draftGround b0_draftLaw b0_grid b0_pack b0_thinning b1_law b1_marks b1_stroll b2_walls n12 g0_imageKept g0_wrongByte g1_drawSeed g2_wallCount g2_texts g2_ways f3 f4 f5 u1.1 u1.2.1 u1.2.2.1 u1.2.2.2.1 u1.2.2.2.2 f12)) [1, 2, 3, 4, 5, 6, 7, 8, 9, 10, 11, 12, 0] rfl
    have hD := hD.sub (ws' := (ceL_parts cyI cyB cyJ cyZ a0 a1 a2 a3 a4 a5 a6 a7 a8 a9 a10 a11 a12 b0_tape b0_kept b0_draftGround b0_draftLaw b0_grid b0_pack b0_thinning b1_law b1_marks b1_stroll b2_walls n12 g0_imageKept g0_wrongByte g1_drawSeed g2_wallCount g2_texts g2_ways f3 f4 f5 u1.1 u1.2.1 u1.2.2.1 u1.2.2.2.1 u1.2.2.2.2 f12)) [1, 2, 3, 4, 5, 6, 7, 8, 9, 10, 11, 12, 0] (by decide) rfl
    obtain ⟨hw0, hw1, hE⟩ := hw
    rcases hE with rfl | rfl
    · have hw := hw0 rfl
      refine ec_catch (name := "java/lang/IndexOutOfBoundsException") hown [] _ _ (htb.trans rfl) (fun z hz => by cases hz) (by decide) (by decide) (hts (.classLink RL 24 "java/lang/IndexOutOfBoundsException") (List.mem_of_getElem? (i := 1) rfl)) (va_Nw.use rfl (hXs.1.2.2.2 (.castable "java/lang/IndexOutOfBoundsException" "java/lang/IndexOutOfBoundsException") (by decide +kernel))) hce hcv hcl ?_
      refine W.eq (g2 := F0 m 14 ls [.ref q9]) rfl ?_
      refine lv_astore (lv' := [(5, .ref q9), (0, .ref a0), (1, .int p1), (2, .int p2), (3, .int p3), (4, .ref a12)]) hx hb dL_parts_14 hl (by decide) rfl (fun ls hl => ?_)
      refine lv_iconst (v := 1) hx hb dL_parts_16 (by decide) ?_
      rw [hQ]
      refine W.widen (k := 3) (n := 18) (by decide) (by decide) ?_
      exact W.iret (v := 1) hx hb hr (fun t ht hW => ⟨⟨1, (u1.1, u1.2.1, u1.2.2.1, u1.2.2.2.1, u1.2.2.2.2, f12), rfl, hw, by rw [ht]; exact hP, va_K.moved hW.alike hK, hD⟩, hS.F ht⟩) hS.2.2 dL_parts_17
    · have hw := hw1 rfl
      refine ec_catch (name := "java/lang/IllegalArgumentException") hown [_] _ _ (htb.trans rfl) (fun z hz => by rw [List.mem_singleton] at hz; subst hz; exact Or.inr ⟨by decide, "java/lang/IndexOutOfBoundsException", (hts (.classLink RL 24 "java/lang/IndexOutOfBoundsException") (List.mem_of_getElem? (i := 1) rfl)), hXs.2.1⟩) (by decide) (by decide) (hts (.classLink RL 13 "java/lang/IllegalArgumentException") (List.mem_of_getElem? (i := 2) rfl)) (va_Nw.use rfl (hXs.1.2.2.2 (.castable "java/lang/IllegalArgumentException" "java/lang/IllegalArgumentException") (by decide +kernel))) hce hcv hcl ?_
      refine W.eq (g2 := F0 m 18 ls [.ref q9]) rfl ?_
      refine lv_astore (lv' := [(5, .ref q9), (0, .ref a0), (1, .int p1), (2, .int p2), (3, .int p3), (4, .ref a12)]) hx hb dL_parts_18 hl (by decide) rfl (fun ls hl => ?_)
      refine lv_iconst (v := 2) hx hb dL_parts_20 (by decide) ?_
      rw [hQ]
      refine W.widen (k := 3) (n := 18) (by decide) (by decide) ?_
      exact W.iret (v := 2) hx hb hr (fun t ht hW => ⟨⟨2, (u1.1, u1.2.1, u1.2.2.1, u1.2.2.2.1, u1.2.2.2.2, f12), rfl, hw, by rw [ht]; exact hP, va_K.moved hW.alike hK, hD⟩, hS.F ht⟩) hS.2.2 dL_parts_21
  -- returned
  obtain ⟨hP1, hK1, hD1⟩ := hB
  rw [ht] at hP1
  obtain ⟨hP, hD⟩ := va_join (wr := pickW (ceL_parts cyI cyB cyJ cyZ a0 a1 a2 a3 a4 a5 a6 a7 a8 a9 a10 a11 a12 b0_tape b0_kept b0_draftGround b0_draftLaw b0_grid b0_pack b0_thinning b1_law b1_marks b1_stroll b2_walls n12 g0_imageKept g0_wrongByte g1_drawSeed g2_wallCount g2_texts g2_ways f3 f4 f5 f7 f8 f9 f10 f11 f12) [12]) (w1 := (ceX10_parts cyI cyB cyJ cyZ a0 a1 a2 a3 a4 a5 a6 a7 a8 a9 a10 a11 b0_tape b0_kept b0_draftGround b0_draftLaw b0_grid b0_pack b0_thinning b1_law b1_marks b1_stroll b2_walls g0_imageKept g0_wrongByte g1_drawSeed g2_wallCount g2_texts g2_ways f3 f4 f5 u1.1 u1.2.1 u1.2.2.1 u1.2.2.2.1 u1.2.2.2.2)) hP hD [0, 1, 2, 3, 4, 5, 6, 7, 8, 9, 10, 11] [12] rfl rfl (by decide) (by decide) hk1 hFc hP1 hD1
  have hP := hP.sub (ws' := (ceL_parts cyI cyB cyJ cyZ a0 a1 a2 a3 a4 a5 a6 a7 a8 a9 a10 a11 a12 b0_tape b0_kept b0_draftGround b0_draftLaw b0_grid b0_pack b0_thinning b1_law b1_marks b1_stroll b2_walls n12 g0_imageKept g0_wrongByte g1_drawSeed g2_wallCount g2_texts g2_ways f3 f4 f5 u1.1 u1.2.1 u1.2.2.1 u1.2.2.2.1 u1.2.2.2.2 f12)) [1, 2, 3, 4, 5, 6, 7, 8, 9, 10, 11, 12, 0] rfl
  have hD := hD.sub (ws' := (ceL_parts cyI cyB cyJ cyZ a0 a1 a2 a3 a4 a5 a6 a7 a8 a9 a10 a11 a12 b0_tape b0_kept b0_draftGround b0_draftLaw b0_grid b0_pack b0_thinning b1_law b1_marks b1_stroll b2_walls n12 g0_imageKept g0_wrongByte g1_drawSeed g2_wallCount g2_texts g2_ways f3 f4 f5 u1.1 u1.2.1 u1.2.2.1 u1.2.2.2.1 u1.2.2.2.2 f12)) [1, 2, 3, 4, 5, 6, 7, 8, 9, 10, 11, 12, 0] (by decide) rfl
  generalize H1 = H at hP hS ⊢
  refine W.widen (k := 3) (n := 18) (by decide) (by decide) ?_
  obtain ⟨hi, hw⟩ := hw
  refine va_last hx hb hK hP hD hS 12 2 rfl rfl hi dL_parts_10 (fun H locs hP hD hS => ?_)
  have hP : va_P (dC, dI) vwCl (ceL_parts cyI cyB cyJ cyZ a0 a1 a2 a3 a4 a5 a6 a7 a8 a9 a10 a11 a12 b0_tape b0_kept b0_draftGround b0_draftLaw b0_grid b0_pack b0_thinning b1_law b1_marks b1_stroll b2_walls n12 g0_imageKept g0_wrongByte g1_drawSeed g2_wallCount g2_texts g2_ways f3 f4 f5 u1.1 u1.2.1 u1.2.2.1 u1.2.2.2.1 u1.2.2.2.2 (vp_updL f12 (0 : Int32).toNatClampNeg r2)) H := hP
  have hD : va_D A (ceL_parts cyI cyB cyJ cyZ a0 a1 a2 a3 a4 a5 a6 a7 a8 a9 a10 a11 a12 b0_tape b0_kept b0_draftGround b0_draftLaw b0_grid b0_pack b0_thinning b1_law b1_marks b1_stroll b2_walls n12 g0_imageKept g0_wrongByte g1_drawSeed g2_wallCount g2_texts g2_ways f3 f4 f5 u1.1 u1.2.1 u1.2.2.1 u1.2.2.2.1 u1.2.2.2.2 (vp_updL f12 (0 : Int32).toNatClampNeg r2)) := hD
  refine lv_goto (tgt := 22) hx hb dL_parts_11 (by decide) ?_
  refine lv_iconst (v := 0) hx hb dL_parts_22 (by decide) ?_
  rw [hQ]
  refine W.widen (k := 3) (n := 18) (by decide) (by decide) ?_
  exact W.iret (v := 0) hx hb hr (fun t ht hW => ⟨⟨0, (u1.1, u1.2.1, u1.2.2.1, u1.2.2.2.1, u1.2.2.2.2, (vp_updL f12 (0 : Int32).toNatClampNeg r2)), rfl, hw, by rw [ht]; exact hP, va_K.moved hW.alike hK, hD⟩, hS.F ht⟩) hS.2.2 dL_parts_23
/-! LeadParkLaw.back (LLeadPark;II[J)I -/
abbrev ceL_back (cyI cyB cyJ cyZ : ClassId) (a0 a1 a2 a3 a4 a5 a6 a7 a8 a9 a10 a11 a12 a13 b0_tape b0_kept b0_draftGround b0_draftLaw b0_pack b0_pieces b0_thinning b1_marks b1_stroll n13 : Nat) (g0_imageKept : Int32) (g0_wrongByte : Int32) (g1_drawSeed : Int32) (g2_texts : Int32) (g7_lines : Int32) (g2_ways : Int32) (g2_wallCount : Int32) (f3 : Nat → Int32) (f4 : Nat → Int32) (f5 : Nat → Int32) (f6 : Nat → Int32) (g7_size : Int32) (f9 : Nat → Int32) (f8 : Nat → Int32) (g10_rows : Int32) (g10_columns : Int32) (f11 : Nat → Int32) (f12 : Nat → Int32) (f13 : Nat → Int64) : va_W := [(a0, .inr (10, [.ref b0_tape, .ref a1, .ref b0_kept, .ref b0_draftGround, .ref b0_draftLaw, .ref a10, .ref b0_pack, .ref b0_pieces, .ref b0_thinning, .int g0_imageKept, .int g0_wrongByte])), (a1, .inr (6, [.ref a2, .ref a7, .ref b1_marks, .ref b1_stroll, .int g1_drawSeed])), (a2, .inr (1, [.ref a4, .ref a5, .ref a3, .ref a6, .int g2_ways, .int g2_wallCount, .int g2_texts])), (a3, .inl (cyI, 12, .inl f3)), (a4, .inl (cyI, 360, .inl f4)), (a5, .inl (cyI, 360, .inl f5)), (a6, .inl (cyI, 32, .inl f6)), (a7, .inr (2, [.ref a9, .ref a8, .int g7_size, .int g7_lines])), (a8, .inl (cyI, 7, .inl f8)), (a9, .inl (cyI, 400, .inl f9)), (a10, .inr (0, [.ref a11, .ref a12, .int g10_rows, .int g10_columns])), (a11, .inl (cyI, 1089, .inl f11)), (a12, .inl (cyI, 1089, .inl f12)), (a13, .inl (cyJ, n13, .inr (.inl f13)))]

abbrev rmL_back : Room := { frames := 8, cells := 2, slots := 12, locals := 175 }
set_option maxRecDepth 100000 in
set_option maxHeartbeats 4000000 in
theorem ctL_back (l : Launch) (hl0 : l.stackTraces = false) (dC : Nat → ClassId) (dI : Nat → Nat → Nat) (cyI cyB cyJ cyZ : ClassId) (sz : Nat) (a0 a1 a2 a3 a4 a5 a6 a7 a8 a9 a10 a11 a12 a13 b0_tape b0_kept b0_draftGround b0_draftLaw b0_pack b0_pieces b0_thinning b1_marks b1_stroll n13 : Nat) (g0_imageKept : Int32) (g0_wrongByte : Int32) (g1_drawSeed : Int32) (g2_texts : Int32) (g7_lines : Int32) (g2_ways : Int32) (g2_wallCount : Int32) (f3 : Nat → Int32) (f4 : Nat → Int32) (f5 : Nat → Int32) (f6 : Nat → Int32) (g7_size : Int32) (f9 : Nat → Int32) (f8 : Nat → Int32) (g10_rows : Int32) (g10_columns : Int32) (f11 : Nat → Int32) (f12 : Nat → Int32) (f13 : Nat → Int64) (p1 : Int32) (p2 : Int32) (post : Int32 → ((Nat → Int32) × Int32 × Int32 × (Nat → Int32) × (Nat → Int32) × (Nat → Int64)) → Prop) (adS : Nat → Nat) (hw : wpL_back n13 post g2_ways g2_wallCount f3 f4 f5 f6 g7_size f9 f8 g10_rows g10_columns f11 f12 f13 p1 p2) : Met l yL_back wsL_back rmL_back (va_Pc [.ref a0, .int p1, .int p2, .ref a13] (wPreX dC dI cyI cyB cyJ cyZ sz (ceL_back cyI cyB cyJ cyZ a0 a1 a2 a3 a4 a5 a6 a7 a8 a9 a10 a11 a12 a13 b0_tape b0_kept b0_draftGround b0_draftLaw b0_pack b0_pieces b0_thinning b1_marks b1_stroll n13 g0_imageKept g0_wrongByte g1_drawSeed g2_texts g7_lines g2_ways g2_wallCount f3 f4 f5 f6 g7_size f9 f8 g10_rows g10_columns f11 f12 f13) (txL adS))) (va_Qi post (fun u : (Nat → Int32) × Int32 × Int32 × (Nat → Int32) × (Nat → Int32) × (Nat → Int64) => wAt dC dI cyI cyB cyJ cyZ (va_A (ceL_back cyI cyB cyJ cyZ a0 a1 a2 a3 a4 a5 a6 a7 a8 a9 a10 a11 a12 a13 b0_tape b0_kept b0_draftGround b0_draftLaw b0_pack b0_pieces b0_thinning b1_marks b1_stroll n13 g0_imageKept g0_wrongByte g1_drawSeed g2_texts g7_lines g2_ways g2_wallCount f3 f4 f5 f6 g7_size f9 f8 g10_rows g10_columns f11 f12 f13) sz) (ceL_back cyI cyB cyJ cyZ a0 a1 a2 a3 a4 a5 a6 a7 a8 a9 a10 a11 a12 a13 b0_tape b0_kept b0_draftGround b0_draftLaw b0_pack b0_pieces b0_thinning b1_marks b1_stroll n13 g0_imageKept g0_wrongByte g1_drawSeed g2_texts g7_lines g2_ways g2_wallCount f3 f4 f5 f6 g7_size f9 u.1 u.2.1 u.2.2.1 u.2.2.2.1 u.2.2.2.2.1 u.2.2.2.2.2)) (va_A (ceL_back cyI cyB cyJ cyZ a0 a1 a2 a3 a4 a5 a6 a7 a8 a9 a10 a11 a12 a13 b0_tape b0_kept b0_draftGround b0_draftLaw b0_pack b0_pieces b0_thinning b1_marks b1_stroll n13 g0_imageKept g0_wrongByte g1_drawSeed g2_texts g7_lines g2_ways g2_wallCount f3 f4 f5 f6 g7_size f9 f8 g10_rows g10_columns f11 f12 f13) sz)) 2 12 (va_A (ceL_back cyI cyB cyJ cyZ a0 a1 a2 a3 a4 a5 a6 a7 a8 a9 a10 a11 a12 a13 b0_tape b0_kept b0_draftGround b0_draftLaw b0_pack b0_pieces b0_thinning b1_marks b1_stroll n13 g0_imageKept g0_wrongByte g1_drawSeed g2_texts g7_lines g2_ways g2_wallCount f3 f4 f5 f6 g7_size f9 f8 g10_rows g10_columns f11 f12 f13) sz) := by
  refine mt_ofWH (cc := cL_back) (maxL := 5) (ret := (some .int)) (by decide) rfl ?_
  intro p e s m args below meth c s₁ B hml hv
  obtain ⟨rfl, ⟨hsz, hP, hK, hD0, hN⟩, hXs⟩ := hv
  have hx := B.exec
  have hb := B.bytes
  have hr := B.returns
  have hts := atoms_spec (ws := wsL_back) B.pre
  have hown : s.vm.findClass RL = some m.cls := findClass_of_methodNamed B.named
  have hlocks := B.notSynchronized
  have htb := vx_table (x := yL_back) B (hts _ (List.mem_of_getElem? (i := 0) rfl))
  subst hsz
  have hD := hD0.self (sz := s.heap.size)
  generalize hAe : va_A (ceL_back cyI cyB cyJ cyZ a0 a1 a2 a3 a4 a5 a6 a7 a8 a9 a10 a11 a12 a13 b0_tape b0_kept b0_draftGround b0_draftLaw b0_pack b0_pieces b0_thinning b1_marks b1_stroll n13 g0_imageKept g0_wrongByte g1_drawSeed g2_texts g7_lines g2_ways g2_wallCount f3 f4 f5 f6 g7_size f9 f8 g10_rows g10_columns f11 f12 f13) s.heap.size = A at hD hXs ⊢
  have hA : ∀ q : Nat, s.heap.size ≤ q → A q := fun q h => by rw [← hAe]; exact Or.inr h
  have hS : va_S A s.heap s.heap [] := va_S.rf
  have C0 : cxM p s m meth c _ wsL_back RL cL_back 5 (some .int) := ⟨hx, hb, hr, hml, hown, hts, hlocks⟩
  have hl := lv_entry ([.ref a0, .int p1, .int p2, .ref a13]) (n := 5) (Nat.le_of_ble_eq_true rfl)
  rw [lg_entry_eq]
  generalize (lg_sl ([.ref a0, .int p1, .int p2, .ref a13]) ++ List.replicate (5 - (lg_sl ([.ref a0, .int p1, .int p2, .ref a13])).length) Slot.unset).toArray = ls at hl ⊢
  have hl : lv_has ls 5 [(0, .ref a0), (1, .int p1), (2, .int p2), (3, .ref a13)] := hl
  show W p l e rmL_back s m _ below meth c _ _ _ _ _ _
  refine wq (fun Q hQ => ?_)
  refine lv_aload_n hx hb dL_back_0 rfl (lv_at hl 3 rfl) ?_
  refine lv_iconst (v := 0) hx hb dL_back_1 (by decide) ?_
  refine lv_aload_n hx hb dL_back_2 rfl (lv_at hl 0 rfl) ?_
  refine lv_iload_n hx hb dL_back_3 rfl (lv_at hl 1 rfl) ?_
  refine lv_iload_n hx hb dL_back_4 rfl (lv_at hl 2 rfl) ?_
  have hPc := hP.sub (ws' := (ceX10_back cyI cyB cyJ cyZ a0 a1 a2 a3 a4 a5 a6 a7 a8 a9 a10 a11 a12 b0_tape b0_kept b0_draftGround b0_draftLaw b0_pack b0_pieces b0_thinning b1_marks b1_stroll g0_imageKept g0_wrongByte g1_drawSeed g2_texts g7_lines g2_ways g2_wallCount f3 f4 f5 f6 g7_size f9 f8 g10_rows g10_columns f11 f12)) [0, 1, 2, 3, 4, 5, 6, 7, 8, 9, 10, 11, 12] rfl
  have hDc := hD.sub (ws' := (ceX10_back cyI cyB cyJ cyZ a0 a1 a2 a3 a4 a5 a6 a7 a8 a9 a10 a11 a12 b0_tape b0_kept b0_draftGround b0_draftLaw b0_pack b0_pieces b0_thinning b1_marks b1_stroll g0_imageKept g0_wrongByte g1_drawSeed g2_texts g7_lines g2_ways g2_wallCount f3 f4 f5 f6 g7_size f9 f8 g10_rows g10_columns f11 f12)) [0, 1, 2, 3, 4, 5, 6, 7, 8, 9, 10, 11, 12] (by decide) rfl
  have hFc := va_free (wc := (ceX10_back cyI cyB cyJ cyZ a0 a1 a2 a3 a4 a5 a6 a7 a8 a9 a10 a11 a12 b0_tape b0_kept b0_draftGround b0_draftLaw b0_pack b0_pieces b0_thinning b1_marks b1_stroll g0_imageKept g0_wrongByte g1_drawSeed g2_texts g7_lines g2_ways g2_wallCount f3 f4 f5 f6 g7_size f9 f8 g10_rows g10_columns f11 f12)) hD hS hA [0, 1, 2, 3, 4, 5, 6, 7, 8, 9, 10, 11, 12] rfl
  refine vx_calli (vx_runV (As := [.int p1, .int p2]) (rest := [.int 0, .ref a13]) ⟨hx, hb, hml, hown, hts⟩ (ctX10_back l hl0 dC dI cyI cyB cyJ cyZ _ a0 a1 a2 a3 a4 a5 a6 a7 a8 a9 a10 a11 a12 b0_tape b0_kept b0_draftGround b0_draftLaw b0_pack b0_pieces b0_thinning b1_marks b1_stroll g0_imageKept g0_wrongByte g1_drawSeed g2_texts g7_lines g2_ways g2_wallCount f3 f4 f5 f6 g7_size f9 f8 g10_rows g10_columns f11 f12 p1 p2 _ _ adS hw) (cwV 2 hts gL_back_X10_back rfl rfl rfl (by decide +kernel) ⟨Nat.le_of_ble_eq_true rfl, Nat.le_of_ble_eq_true rfl⟩) ⟨wPreX_blind (xOk_txT adS), va_recv hK hPc (ci := 10) (q0 := 0) rfl rfl, fun U hU hW => wPreX_of (xOk_txT adS) hPc hK hDc hN hXs.1 hS hFc hU hW⟩ rfl rfl hl.1 rfl (lv_room (Nat.le_of_ble_eq_true rfl)) dL_back_5 ⟨(by decide), (by decide)⟩) hS (fun q _ h => hFc q h) hFc (fun q _ h => hFc q h) (fun E ce q9 u1 t H1 locs ht hvm hpx hBX hz1 hk1 hS hce hcv hcl => ?_) (fun r2 u1 t H1 locs ht hvm hw hB hz1 hk1 hS => ?_)
  · obtain ⟨hw, hP1, hK1, hD1⟩ := hBX
    rw [ht] at hP1
    obtain ⟨hP, hD⟩ := va_join (wr := pickW (ceL_back cyI cyB cyJ cyZ a0 a1 a2 a3 a4 a5 a6 a7 a8 a9 a10 a11 a12 a13 b0_tape b0_kept b0_draftGround b0_draftLaw b0_pack b0_pieces b0_thinning b1_marks b1_stroll n13 g0_imageKept g0_wrongByte g1_drawSeed g2_texts g7_lines g2_ways g2_wallCount f3 f4 f5 f6 g7_size f9 f8 g10_rows g10_columns f11 f12 f13) [13]) (w1 := (ceX10_back cyI cyB cyJ cyZ a0 a1 a2 a3 a4 a5 a6 a7 a8 a9 a10 a11 a12 b0_tape b0_kept b0_draftGround b0_draftLaw b0_pack b0_pieces b0_thinning b1_marks b1_stroll g0_imageKept g0_wrongByte g1_drawSeed g2_texts g7_lines g2_ways g2_wallCount f3 f4 f5 f6 g7_size f9 u1.1 u1.2.1 u1.2.2.1 u1.2.2.2.1 u1.2.2.2.2)) hP hD [0, 1, 2, 3, 4, 5, 6, 7, 8, 9, 10, 11, 12] [13] rfl rfl (by decide) (by decide) hk1 hFc hP1 hD1
    have hP := hP.sub (ws' := (ceL_back cyI cyB cyJ cyZ a0 a1 a2 a3 a4 a5 a6 a7 a8 a9 a10 a11 a12 a13 b0_tape b0_kept b0_draftGround b0_draftLaw b0_pack b0_pieces b0_thinning b1_marks b1_stroll n13 g0_imageKept g0_wrongByte g1_drawSeed g2_texts g7_lines g2_ways g2_wallCount f3 f4 f5 f6 g7_size f9 u1.1 u1.2.1 u1.2.2.1 u1.2.2.2.1 u1.2.2.2.2 f13)) [1, 2, 3, 4, 5, 6, 7, 8, 9, 10, 11, 12, 13, 0] rfl
    have hD := hD.sub (ws' := (ceL_back cyI cyB cyJ cyZ a0 a1 a2 a3 a4 a5 a6 a7 a8 a9 a10 a11 a12 a13 b0_tape b0_kept b0_draftGround b0_draftLaw b0_pack b0_pieces b0_thinning b1_marks b1_stroll n13 g0_imageKept g0_wrongByte g1_drawSeed g2_texts g7_lines g2_ways g2_wallCount f3 f4 f5 f6 g7_size f9 u1.1 u1.2.1 u1.2.2.1 u1.2.2.2.1 u1.2.2.2.2 f13)) [1, 2, 3, 4, 5, 6, 7, 8, 9, 10, 11, 12, 13, 0] (by decide) rfl
    obtain ⟨hw0, hE⟩ := hw
    subst hE
    have hw := hw0 rfl
    refine ec_catch (name := "java/lang/IndexOutOfBoundsException") hown [] _ _ (htb.trans rfl) (fun z hz => by cases hz) (by decide) (by decide) (hts (.classLink RL 24 "java/lang/IndexOutOfBoundsException") (List.mem_of_getElem? (i := 1) rfl)) (va_Nw.use rfl (hXs.1.2.2.2 (.castable "java/lang/IndexOutOfBoundsException" "java/lang/IndexOutOfBoundsException") (by decide +kernel))) hce hcv hcl ?_
    refine W.eq (g2 := F0 m 13 ls [.ref q9]) rfl ?_
    refine lv_astore (lv' := [(4, .ref q9), (0, .ref a0), (1, .int p1), (2, .int p2), (3, .ref a13)]) hx hb dL_back_13 hl (by decide) rfl (fun ls hl => ?_)
    refine lv_iconst (v := 1) hx hb dL_back_15 (by decide) ?_
    rw [hQ]
    refine W.widen (k := 2) (n := 12) (by decide) (by decide) ?_
    exact W.iret (v := 1) hx hb hr (fun t ht hW => ⟨⟨1, (u1.1, u1.2.1, u1.2.2.1, u1.2.2.2.1, u1.2.2.2.2, f13), rfl, hw, by rw [ht]; exact hP, va_K.moved hW.alike hK, hD⟩, hS.F ht⟩) hS.2.2 dL_back_16
  -- returned
  obtain ⟨hP1, hK1, hD1⟩ := hB
  rw [ht] at hP1
  obtain ⟨hP, hD⟩ := va_join (wr := pickW (ceL_back cyI cyB cyJ cyZ a0 a1 a2 a3 a4 a5 a6 a7 a8 a9 a10 a11 a12 a13 b0_tape b0_kept b0_draftGround b0_draftLaw b0_pack b0_pieces b0_thinning b1_marks b1_stroll n13 g0_imageKept g0_wrongByte g1_drawSeed g2_texts g7_lines g2_ways g2_wallCount f3 f4 f5 f6 g7_size f9 f8 g10_rows g10_columns f11 f12 f13) [13]) (w1 := (ceX10_back cyI cyB cyJ cyZ a0 a1 a2 a3 a4 a5 a6 a7 a8 a9 a10 a11 a12 b0_tape b0_kept b0_draftGround b0_draftLaw b0_pack b0_pieces b0_thinning b1_marks b1_stroll g0_imageKept g0_wrongByte g1_drawSeed g2_texts g7_lines g2_ways g2_wallCount f3 f4 f5 f6 g7_size f9 u1.1 u1.2.1 u1.2.2.1 u1.2.2.2.1 u1.2.2.2.2)) hP hD [0, 1, 2, 3, 4, 5, 6, 7, 8, 9, 10, 11, 12] [13] rfl rfl (by decide) (by decide) hk1 hFc hP1 hD1
  have hP := hP.sub (ws' := (ceL_back cyI cyB cyJ cyZ a0 a1 a2 a3 a4 a5 a6 a7 a8 a9 a10 a11 a12 a13 b0_tape b0_kept b0_draftGround b0_draftLaw b0_pack b0_pieces b0_thinning b1_marks b1_stroll n13 g0_imageKept g0_wrongByte g1_drawSeed g2_texts g7_lines g2_ways g2_wallCount f3 f4 f5 f6 g7_size f9 u1.1 u1.2.1 u1.2.2.1 u1.2.2.2.1 u1.2.2.2.2 f13)) [1, 2, 3, 4, 5, 6, 7, 8, 9, 10, 11, 12, 13, 0] rfl
  have hD := hD.sub (ws' := (ceL_back cyI cyB cyJ cyZ a0 a1 a2 a3 a4 a5 a6 a7 a8 a9 a10 a11 a12 a13 b0_tape b0_kept b0_draftGround b0_draftLaw b0_pack b0_pieces b0_thinning b1_marks b1_stroll n13 g0_imageKept g0_wrongByte g1_drawSeed g2_texts g7_lines g2_ways g2_wallCount f3 f4 f5 f6 g7_size f9 u1.1 u1.2.1 u1.2.2.1 u1.2.2.2.1 u1.2.2.2.2 f13)) [1, 2, 3, 4, 5, 6, 7, 8, 9, 10, 11, 12, 13, 0] (by decide) rfl
  generalize H1 = H at hP hS ⊢
  refine W.widen (k := 2) (n := 12) (by decide) (by decide) ?_
  refine lv_i2l hx hb dL_back_8 rfl ?_
  obtain ⟨hi, hw⟩ := hw
  refine va_last hx hb hK hP hD hS 13 2 rfl rfl hi dL_back_9 (fun H locs hP hD hS => ?_)
  have hP : va_P (dC, dI) vwCl (ceL_back cyI cyB cyJ cyZ a0 a1 a2 a3 a4 a5 a6 a7 a8 a9 a10 a11 a12 a13 b0_tape b0_kept b0_draftGround b0_draftLaw b0_pack b0_pieces b0_thinning b1_marks b1_stroll n13 g0_imageKept g0_wrongByte g1_drawSeed g2_texts g7_lines g2_ways g2_wallCount f3 f4 f5 f6 g7_size f9 u1.1 u1.2.1 u1.2.2.1 u1.2.2.2.1 u1.2.2.2.2 (vp_updL f13 (0 : Int32).toNatClampNeg (r2.toInt64))) H := hP
  have hD : va_D A (ceL_back cyI cyB cyJ cyZ a0 a1 a2 a3 a4 a5 a6 a7 a8 a9 a10 a11 a12 a13 b0_tape b0_kept b0_draftGround b0_draftLaw b0_pack b0_pieces b0_thinning b1_marks b1_stroll n13 g0_imageKept g0_wrongByte g1_drawSeed g2_texts g7_lines g2_ways g2_wallCount f3 f4 f5 f6 g7_size f9 u1.1 u1.2.1 u1.2.2.1 u1.2.2.2.1 u1.2.2.2.2 (vp_updL f13 (0 : Int32).toNatClampNeg (r2.toInt64))) := hD
  refine lv_goto (tgt := 17) hx hb dL_back_10 (by decide) ?_
  refine lv_iconst (v := 0) hx hb dL_back_17 (by decide) ?_
  rw [hQ]
  refine W.widen (k := 2) (n := 12) (by decide) (by decide) ?_
  exact W.iret (v := 0) hx hb hr (fun t ht hW => ⟨⟨0, (u1.1, u1.2.1, u1.2.2.1, u1.2.2.2.1, u1.2.2.2.2, (vp_updL f13 (0 : Int32).toNatClampNeg (r2.toInt64))), rfl, hw, by rw [ht]; exact hP, va_K.moved hW.alike hK, hD⟩, hS.F ht⟩) hS.2.2 dL_back_18
/-! LeadParkLaw.ring (LLeadPark;IIZ[J)I -/
abbrev ceL_ring (cyI cyB cyJ cyZ : ClassId) (a0 a1 a2 a3 a4 a5 a6 a7 a8 a9 a10 a11 a12 a13 b0_tape b0_kept b0_draftGround b0_draftLaw b0_pack b0_pieces b0_thinning b1_marks b1_stroll n13 : Nat) (g0_imageKept : Int32) (g0_wrongByte : Int32) (g1_drawSeed : Int32) (g2_texts : Int32) (g7_lines : Int32) (g2_ways : Int32) (g2_wallCount : Int32) (f3 : Nat → Int32) (f4 : Nat → Int32) (f5 : Nat → Int32) (f6 : Nat → Int32) (g7_size : Int32) (f9 : Nat → Int32) (f8 : Nat → Int32) (g10_rows : Int32) (g10_columns : Int32) (f11 : Nat → Int32) (f12 : Nat → Int32) (f13 : Nat → Int64) : va_W := [(a0, .inr (10, [.ref b0_tape, .ref a1, .ref b0_kept, .ref b0_draftGround, .ref b0_draftLaw, .ref a10, .ref b0_pack, .ref b0_pieces, .ref b0_thinning, .int g0_imageKept, .int g0_wrongByte])), (a1, .inr (6, [.ref a2, .ref a7, .ref b1_marks, .ref b1_stroll, .int g1_drawSeed])), (a2, .inr (1, [.ref a4, .ref a5, .ref a3, .ref a6, .int g2_ways, .int g2_wallCount, .int g2_texts])), (a3, .inl (cyI, 12, .inl f3)), (a4, .inl (cyI, 360, .inl f4)), (a5, .inl (cyI, 360, .inl f5)), (a6, .inl (cyI, 32, .inl f6)), (a7, .inr (2, [.ref a9, .ref a8, .int g7_size, .int g7_lines])), (a8, .inl (cyI, 7, .inl f8)), (a9, .inl (cyI, 400, .inl f9)), (a10, .inr (0, [.ref a11, .ref a12, .int g10_rows, .int g10_columns])), (a11, .inl (cyI, 1089, .inl f11)), (a12, .inl (cyI, 1089, .inl f12)), (a13, .inl (cyJ, n13, .inr (.inl f13)))]

abbrev rmL_ring : Room := { frames := 8, cells := 2, slots := 12, locals := 176 }
set_option maxRecDepth 100000 in
set_option maxHeartbeats 4000000 in
theorem ctL_ring (l : Launch) (hl0 : l.stackTraces = false) (dC : Nat → ClassId) (dI : Nat → Nat → Nat) (cyI cyB cyJ cyZ : ClassId) (sz : Nat) (a0 a1 a2 a3 a4 a5 a6 a7 a8 a9 a10 a11 a12 a13 b0_tape b0_kept b0_draftGround b0_draftLaw b0_pack b0_pieces b0_thinning b1_marks b1_stroll n13 : Nat) (g0_imageKept : Int32) (g0_wrongByte : Int32) (g1_drawSeed : Int32) (g2_texts : Int32) (g7_lines : Int32) (g2_ways : Int32) (g2_wallCount : Int32) (f3 : Nat → Int32) (f4 : Nat → Int32) (f5 : Nat → Int32) (f6 : Nat → Int32) (g7_size : Int32) (f9 : Nat → Int32) (f8 : Nat → Int32) (g10_rows : Int32) (g10_columns : Int32) (f11 : Nat → Int32) (f12 : Nat → Int32) (f13 : Nat → Int64) (p1 : Int32) (p2 : Int32) (p3 : Int32) (post : Int32 → ((Nat → Int32) × Int32 × Int32 × (Nat → Int32) × (Nat → Int32) × (Nat → Int64)) → Prop) (adS : Nat → Nat) (hw : wpL_ring n13 post g2_ways g2_wallCount f3 f4 f5 f6 g7_size f9 f8 g10_rows g10_columns f11 f12 f13 p1 p2 p3) : Met l yL_ring wsL_ring rmL_ring (va_Pc [.ref a0, .int p1, .int p2, .int p3, .ref a13] (wPreX dC dI cyI cyB cyJ cyZ sz (ceL_ring cyI cyB cyJ cyZ a0 a1 a2 a3 a4 a5 a6 a7 a8 a9 a10 a11 a12 a13 b0_tape b0_kept b0_draftGround b0_draftLaw b0_pack b0_pieces b0_thinning b1_marks b1_stroll n13 g0_imageKept g0_wrongByte g1_drawSeed g2_texts g7_lines g2_ways g2_wallCount f3 f4 f5 f6 g7_size f9 f8 g10_rows g10_columns f11 f12 f13) (txL adS))) (va_Qi post (fun u : (Nat → Int32) × Int32 × Int32 × (Nat → Int32) × (Nat → Int32) × (Nat → Int64) => wAt dC dI cyI cyB cyJ cyZ (va_A (ceL_ring cyI cyB cyJ cyZ a0 a1 a2 a3 a4 a5 a6 a7 a8 a9 a10 a11 a12 a13 b0_tape b0_kept b0_draftGround b0_draftLaw b0_pack b0_pieces b0_thinning b1_marks b1_stroll n13 g0_imageKept g0_wrongByte g1_drawSeed g2_texts g7_lines g2_ways g2_wallCount f3 f4 f5 f6 g7_size f9 f8 g10_rows g10_columns f11 f12 f13) sz) (ceL_ring cyI cyB cyJ cyZ a0 a1 a2 a3 a4 a5 a6 a7 a8 a9 a10 a11 a12 a13 b0_tape b0_kept b0_draftGround b0_draftLaw b0_pack b0_pieces b0_thinning b1_marks b1_stroll n13 g0_imageKept g0_wrongByte g1_drawSeed g2_texts g7_lines g2_ways g2_wallCount f3 f4 f5 f6 g7_size f9 u.1 u.2.1 u.2.2.1 u.2.2.2.1 u.2.2.2.2.1 u.2.2.2.2.2)) (va_A (ceL_ring cyI cyB cyJ cyZ a0 a1 a2 a3 a4 a5 a6 a7 a8 a9 a10 a11 a12 a13 b0_tape b0_kept b0_draftGround b0_draftLaw b0_pack b0_pieces b0_thinning b1_marks b1_stroll n13 g0_imageKept g0_wrongByte g1_drawSeed g2_texts g7_lines g2_ways g2_wallCount f3 f4 f5 f6 g7_size f9 f8 g10_rows g10_columns f11 f12 f13) sz)) 2 12 (va_A (ceL_ring cyI cyB cyJ cyZ a0 a1 a2 a3 a4 a5 a6 a7 a8 a9 a10 a11 a12 a13 b0_tape b0_kept b0_draftGround b0_draftLaw b0_pack b0_pieces b0_thinning b1_marks b1_stroll n13 g0_imageKept g0_wrongByte g1_drawSeed g2_texts g7_lines g2_ways g2_wallCount f3 f4 f5 f6 g7_size f9 f8 g10_rows g10_columns f11 f12 f13) sz) := by
  refine mt_ofWH (cc := cL_ring) (maxL := 6) (ret := (some .int)) (by decide) rfl ?_
  intro p e s m args below meth c s₁ B hml hv
  obtain ⟨rfl, ⟨hsz, hP, hK, hD0, hN⟩, hXs⟩ := hv
  have hx := B.exec
  have hb := B.bytes
  have hr := B.returns
  have hts := atoms_spec (ws := wsL_ring) B.pre
  have hown : s.vm.findClass RL = some m.cls := findClass_of_methodNamed B.named
  have hlocks := B.notSynchronized
  have htb := vx_table (x := yL_ring) B (hts _ (List.mem_of_getElem? (i := 0) rfl))
  subst hsz
  have hD := hD0.self (sz := s.heap.size)
  generalize hAe : va_A (ceL_ring cyI cyB cyJ cyZ a0 a1 a2 a3 a4 a5 a6 a7 a8 a9 a10 a11 a12 a13 b0_tape b0_kept b0_draftGround b0_draftLaw b0_pack b0_pieces b0_thinning b1_marks b1_stroll n13 g0_imageKept g0_wrongByte g1_drawSeed g2_texts g7_lines g2_ways g2_wallCount f3 f4 f5 f6 g7_size f9 f8 g10_rows g10_columns f11 f12 f13) s.heap.size = A at hD hXs ⊢
  have hA : ∀ q : Nat, s.heap.size ≤ q → A q := fun q h => by rw [← hAe]; exact Or.inr h
  have hS : va_S A s.heap s.heap [] := va_S.rf
  have C0 : cxM p s m meth c _ wsL_ring RL cL_ring 6 (some .int) := ⟨hx, hb, hr, hml, hown, hts, hlocks⟩
  have hl := lv_entry ([.ref a0, .int p1, .int p2, .int p3, .ref a13]) (n := 6) (Nat.le_of_ble_eq_true rfl)
  rw [lg_entry_eq]
  generalize (lg_sl ([.ref a0, .int p1, .int p2, .int p3, .ref a13]) ++ List.replicate (6 - (lg_sl ([.ref a0, .int p1, .int p2, .int p3, .ref a13])).length) Slot.unset).toArray = ls at hl ⊢
  have hl : lv_has ls 6 [(0, .ref a0), (1, .int p1), (2, .int p2), (3, .int p3), (4, .ref a13)] := hl
  show W p l e rmL_ring s m _ below meth c _ _ _ _ _ _
  refine wq (fun Q hQ => ?_)
  refine lv_aload hx hb dL_ring_0 (lv_at hl 4 rfl) ?_
  refine lv_iconst (v := 0) hx hb dL_ring_2 (by decide) ?_
  refine lv_aload_n hx hb dL_ring_3 rfl (lv_at hl 0 rfl) ?_
  refine lv_iload_n hx hb dL_ring_4 rfl (lv_at hl 1 rfl) ?_
  refine lv_iload_n hx hb dL_ring_5 rfl (lv_at hl 2 rfl) ?_
  refine lv_iload_n hx hb dL_ring_6 rfl (lv_at hl 3 rfl) ?_
  have hPc := hP.sub (ws' := (ceX10_ring cyI cyB cyJ cyZ a0 a1 a2 a3 a4 a5 a6 a7 a8 a9 a10 a11 a12 b0_tape b0_kept b0_draftGround b0_draftLaw b0_pack b0_pieces b0_thinning b1_marks b1_stroll g0_imageKept g0_wrongByte g1_drawSeed g2_texts g7_lines g2_ways g2_wallCount f3 f4 f5 f6 g7_size f9 f8 g10_rows g10_columns f11 f12)) [0, 1, 2, 3, 4, 5, 6, 7, 8, 9, 10, 11, 12] rfl
  have hDc := hD.sub (ws' := (ceX10_ring cyI cyB cyJ cyZ a0 a1 a2 a3 a4 a5 a6 a7 a8 a9 a10 a11 a12 b0_tape b0_kept b0_draftGround b0_draftLaw b0_pack b0_pieces b0_thinning b1_marks b1_stroll g0_imageKept g0_wrongByte g1_drawSeed g2_texts g7_lines g2_ways g2_wallCount f3 f4 f5 f6 g7_size f9 f8 g10_rows g10_columns f11 f12)) [0, 1, 2, 3, 4, 5, 6, 7, 8, 9, 10, 11, 12] (by decide) rfl
  have hFc := va_free (wc := (ceX10_ring cyI cyB cyJ cyZ a0 a1 a2 a3 a4 a5 a6 a7 a8 a9 a10 a11 a12 b0_tape b0_kept b0_draftGround b0_draftLaw b0_pack b0_pieces b0_thinning b1_marks b1_stroll g0_imageKept g0_wrongByte g1_drawSeed g2_texts g7_lines g2_ways g2_wallCount f3 f4 f5 f6 g7_size f9 f8 g10_rows g10_columns f11 f12)) hD hS hA [0, 1, 2, 3, 4, 5, 6, 7, 8, 9, 10, 11, 12] rfl
  refine vx_calli (vx_runV (As := [.int p1, .int p2, .int p3]) (rest := [.int 0, .ref a13]) ⟨hx, hb, hml, hown, hts⟩ (ctX10_ring l hl0 dC dI cyI cyB cyJ cyZ _ a0 a1 a2 a3 a4 a5 a6 a7 a8 a9 a10 a11 a12 b0_tape b0_kept b0_draftGround b0_draftLaw b0_pack b0_pieces b0_thinning b1_marks b1_stroll g0_imageKept g0_wrongByte g1_drawSeed g2_texts g7_lines g2_ways g2_wallCount f3 f4 f5 f6 g7_size f9 f8 g10_rows g10_columns f11 f12 p1 p2 p3 _ _ adS hw) (cwV 3 hts gL_ring_X10_ring rfl rfl rfl (by decide +kernel) ⟨Nat.le_of_ble_eq_true rfl, Nat.le_of_ble_eq_true rfl⟩) ⟨wPreX_blind (xOk_txT adS), va_recv hK hPc (ci := 10) (q0 := 0) rfl rfl, fun U hU hW => wPreX_of (xOk_txT adS) hPc hK hDc hN hXs.1 hS hFc hU hW⟩ rfl rfl hl.1 rfl (lv_room (Nat.le_of_ble_eq_true rfl)) dL_ring_7 ⟨(by decide), (by decide)⟩) hS (fun q _ h => hFc q h) hFc (fun q _ h => hFc q h) (fun E ce q9 u1 t H1 locs ht hvm hpx hBX hz1 hk1 hS hce hcv hcl => ?_) (fun r2 u1 t H1 locs ht hvm hw hB hz1 hk1 hS => ?_)
  · obtain ⟨hw, hP1, hK1, hD1⟩ := hBX
    rw [ht] at hP1
    obtain ⟨hP, hD⟩ := va_join (wr := pickW (ceL_ring cyI cyB cyJ cyZ a0 a1 a2 a3 a4 a5 a6 a7 a8 a9 a10 a11 a12 a13 b0_tape b0_kept b0_draftGround b0_draftLaw b0_pack b0_pieces b0_thinning b1_marks b1_stroll n13 g0_imageKept g0_wrongByte g1_drawSeed g2_texts g7_lines g2_ways g2_wallCount f3 f4 f5 f6 g7_size f9 f8 g10_rows g10_columns f11 f12 f13) [13]) (w1 := (ceX10_ring cyI cyB cyJ cyZ a0 a1 a2 a3 a4 a5 a6 a7 a8 a9 a10 a11 a12 b0_tape b0_kept b0_draftGround b0_draftLaw b0_pack b0_pieces b0_thinning b1_marks b1_stroll g0_imageKept g0_wrongByte g1_drawSeed g2_texts g7_lines g2_ways g2_wallCount f3 f4 f5 f6 g7_size f9 u1.1 u1.2.1 u1.2.2.1 u1.2.2.2.1 u1.2.2.2.2)) hP hD [0, 1, 2, 3, 4, 5, 6, 7, 8, 9, 10, 11, 12] [13] rfl rfl (by decide) (by decide) hk1 hFc hP1 hD1
    have hP := hP.sub (ws' := (ceL_ring cyI cyB cyJ cyZ a0 a1 a2 a3 a4 a5 a6 a7 a8 a9 a10 a11 a12 a13 b0_tape b0_kept b0_draftGround b0_draftLaw b0_pack b0_pieces b0_thinning b1_marks b1_stroll n13 g0_imageKept g0_wrongByte g1_drawSeed g2_texts g7_lines g2_ways g2_wallCount f3 f4 f5 f6 g7_size f9 u1.1 u1.2.1 u1.2.2.1 u1.2.2.2.1 u1.2.2.2.2 f13)) [1, 2, 3, 4, 5, 6, 7, 8, 9, 10, 11, 12, 13, 0] rfl
    have hD := hD.sub (ws' := (ceL_ring cyI cyB cyJ cyZ a0 a1 a2 a3 a4 a5 a6 a7 a8 a9 a10 a11 a12 a13 b0_tape b0_kept b0_draftGround b0_draftLaw b0_pack b0_pieces b0_thinning b1_marks b1_stroll n13 g0_imageKept g0_wrongByte g1_drawSeed g2_texts g7_lines g2_ways g2_wallCount f3 f4 f5 f6 g7_size f9 u1.1 u1.2.1 u1.2.2.1 u1.2.2.2.1 u1.2.2.2.2 f13)) [1, 2, 3, 4, 5, 6, 7, 8, 9, 10, 11, 12, 13, 0] (by decide) rfl
    obtain ⟨hw0, hE⟩ := hw
    subst hE
    have hw := hw0 rfl
    refine ec_catch (name := "java/lang/IndexOutOfBoundsException") hown [] _ _ (htb.trans rfl) (fun z hz => by cases hz) (by decide) (by decide) (hts (.classLink RL 24 "java/lang/IndexOutOfBoundsException") (List.mem_of_getElem? (i := 1) rfl)) (va_Nw.use rfl (hXs.1.2.2.2 (.castable "java/lang/IndexOutOfBoundsException" "java/lang/IndexOutOfBoundsException") (by decide +kernel))) hce hcv hcl ?_
    refine W.eq (g2 := F0 m 15 ls [.ref q9]) rfl ?_
    refine lv_astore (lv' := [(5, .ref q9), (0, .ref a0), (1, .int p1), (2, .int p2), (3, .int p3), (4, .ref a13)]) hx hb dL_ring_15 hl (by decide) rfl (fun ls hl => ?_)
    refine lv_iconst (v := 1) hx hb dL_ring_17 (by decide) ?_
    rw [hQ]
    refine W.widen (k := 2) (n := 12) (by decide) (by decide) ?_
    exact W.iret (v := 1) hx hb hr (fun t ht hW => ⟨⟨1, (u1.1, u1.2.1, u1.2.2.1, u1.2.2.2.1, u1.2.2.2.2, f13), rfl, hw, by rw [ht]; exact hP, va_K.moved hW.alike hK, hD⟩, hS.F ht⟩) hS.2.2 dL_ring_18
  -- returned
  obtain ⟨hP1, hK1, hD1⟩ := hB
  rw [ht] at hP1
  obtain ⟨hP, hD⟩ := va_join (wr := pickW (ceL_ring cyI cyB cyJ cyZ a0 a1 a2 a3 a4 a5 a6 a7 a8 a9 a10 a11 a12 a13 b0_tape b0_kept b0_draftGround b0_draftLaw b0_pack b0_pieces b0_thinning b1_marks b1_stroll n13 g0_imageKept g0_wrongByte g1_drawSeed g2_texts g7_lines g2_ways g2_wallCount f3 f4 f5 f6 g7_size f9 f8 g10_rows g10_columns f11 f12 f13) [13]) (w1 := (ceX10_ring cyI cyB cyJ cyZ a0 a1 a2 a3 a4 a5 a6 a7 a8 a9 a10 a11 a12 b0_tape b0_kept b0_draftGround b0_draftLaw b0_pack b0_pieces b0_thinning b1_marks b1_stroll g0_imageKept g0_wrongByte g1_drawSeed g2_texts g7_lines g2_ways g2_wallCount f3 f4 f5 f6 g7_size f9 u1.1 u1.2.1 u1.2.2.1 u1.2.2.2.1 u1.2.2.2.2)) hP hD [0, 1, 2, 3, 4, 5, 6, 7, 8, 9, 10, 11, 12] [13] rfl rfl (by decide) (by decide) hk1 hFc hP1 hD1
  have hP := hP.sub (ws' := (ceL_ring cyI cyB cyJ cyZ a0 a1 a2 a3 a4 a5 a6 a7 a8 a9 a10 a11 a12 a13 b0_tape b0_kept b0_draftGround b0_draftLaw b0_pack b0_pieces b0_thinning b1_marks b1_stroll n13 g0_imageKept g0_wrongByte g1_drawSeed g2_texts g7_lines g2_ways g2_wallCount f3 f4 f5 f6 g7_size f9 u1.1 u1.2.1 u1.2.2.1 u1.2.2.2.1 u1.2.2.2.2 f13)) [1, 2, 3, 4, 5, 6, 7, 8, 9, 10, 11, 12, 13, 0] rfl
  have hD := hD.sub (ws' := (ceL_ring cyI cyB cyJ cyZ a0 a1 a2 a3 a4 a5 a6 a7 a8 a9 a10 a11 a12 a13 b0_tape b0_kept b0_draftGround b0_draftLaw b0_pack b0_pieces b0_thinning b1_marks b1_stroll n13 g0_imageKept g0_wrongByte g1_drawSeed g2_texts g7_lines g2_ways g2_wallCount f3 f4 f5 f6 g7_size f9 u1.1 u1.2.1 u1.2.2.1 u1.2.2.2.1 u1.2.2.2.2 f13)) [1, 2, 3, 4, 5, 6, 7, 8, 9, 10, 11, 12, 13, 0] (by decide) rfl
  generalize H1 = H at hP hS ⊢
  refine W.widen (k := 2) (n := 12) (by decide) (by decide) ?_
  refine lv_i2l hx hb dL_ring_10 rfl ?_
  obtain ⟨hi, hw⟩ := hw
  refine va_last hx hb hK hP hD hS 13 2 rfl rfl hi dL_ring_11 (fun H locs hP hD hS => ?_)
  have hP : va_P (dC, dI) vwCl (ceL_ring cyI cyB cyJ cyZ a0 a1 a2 a3 a4 a5 a6 a7 a8 a9 a10 a11 a12 a13 b0_tape b0_kept b0_draftGround b0_draftLaw b0_pack b0_pieces b0_thinning b1_marks b1_stroll n13 g0_imageKept g0_wrongByte g1_drawSeed g2_texts g7_lines g2_ways g2_wallCount f3 f4 f5 f6 g7_size f9 u1.1 u1.2.1 u1.2.2.1 u1.2.2.2.1 u1.2.2.2.2 (vp_updL f13 (0 : Int32).toNatClampNeg (r2.toInt64))) H := hP
  have hD : va_D A (ceL_ring cyI cyB cyJ cyZ a0 a1 a2 a3 a4 a5 a6 a7 a8 a9 a10 a11 a12 a13 b0_tape b0_kept b0_draftGround b0_draftLaw b0_pack b0_pieces b0_thinning b1_marks b1_stroll n13 g0_imageKept g0_wrongByte g1_drawSeed g2_texts g7_lines g2_ways g2_wallCount f3 f4 f5 f6 g7_size f9 u1.1 u1.2.1 u1.2.2.1 u1.2.2.2.1 u1.2.2.2.2 (vp_updL f13 (0 : Int32).toNatClampNeg (r2.toInt64))) := hD
  refine lv_goto (tgt := 19) hx hb dL_ring_12 (by decide) ?_
  refine lv_iconst (v := 0) hx hb dL_ring_19 (by decide) ?_
  rw [hQ]
  refine W.widen (k := 2) (n := 12) (by decide) (by decide) ?_
  exact W.iret (v := 0) hx hb hr (fun t ht hW => ⟨⟨0, (u1.1, u1.2.1, u1.2.2.1, u1.2.2.2.1, u1.2.2.2.2, (vp_updL f13 (0 : Int32).toNatClampNeg (r2.toInt64))), rfl, hw, by rw [ht]; exact hP, va_K.moved hW.alike hK, hD⟩, hS.F ht⟩) hS.2.2 dL_ring_20
/-! LeadParkLaw.dogs (LLeadPark;III[J)I -/
abbrev ceL_dogs (cyI cyB cyJ cyZ : ClassId) (a0 a1 a2 a3 a4 a5 a6 a7 a8 a9 a10 a11 a12 a13 a14 a15 a16 b0_tape b0_kept b0_draftGround b0_draftLaw b0_grid b0_pieces b0_thinning b1_marks b1_stroll n16 : Nat) (g0_imageKept : Int32) (g0_wrongByte : Int32) (g1_drawSeed : Int32) (g2_texts : Int32) (g7_lines : Int32) (g2_ways : Int32) (g2_wallCount : Int32) (f3 : Nat → Int32) (f4 : Nat → Int32) (f5 : Nat → Int32) (f6 : Nat → Int32) (g7_size : Int32) (f9 : Nat → Int32) (f8 : Nat → Int32) (g10_ones : Int32) (g10_others : Int32) (f11 : Nat → Int32) (f12 : Nat → Int32) (f13 : Nat → Int32) (f14 : Nat → Int32) (f15 : Nat → Int32) (f16 : Nat → Int64) : va_W := [(a0, .inr (10, [.ref b0_tape, .ref a1, .ref b0_kept, .ref b0_draftGround, .ref b0_draftLaw, .ref b0_grid, .ref a10, .ref b0_pieces, .ref b0_thinning, .int g0_imageKept, .int g0_wrongByte])), (a1, .inr (6, [.ref a2, .ref a7, .ref b1_marks, .ref b1_stroll, .int g1_drawSeed])), (a2, .inr (1, [.ref a4, .ref a5, .ref a3, .ref a6, .int g2_ways, .int g2_wallCount, .int g2_texts])), (a3, .inl (cyI, 12, .inl f3)), (a4, .inl (cyI, 360, .inl f4)), (a5, .inl (cyI, 360, .inl f5)), (a6, .inl (cyI, 32, .inl f6)), (a7, .inr (2, [.ref a9, .ref a8, .int g7_size, .int g7_lines])), (a8, .inl (cyI, 7, .inl f8)), (a9, .inl (cyI, 400, .inl f9)), (a10, .inr (4, [.ref a14, .ref a15, .ref a11, .ref a12, .ref a13, .int g10_ones, .int g10_others])), (a11, .inl (cyI, 900, .inl f11)), (a12, .inl (cyI, 961, .inl f12)), (a13, .inl (cyI, 961, .inl f13)), (a14, .inl (cyI, 30, .inl f14)), (a15, .inl (cyI, 30, .inl f15)), (a16, .inl (cyJ, n16, .inr (.inl f16)))]

abbrev rmL_dogs : Room := { frames := 8, cells := 3, slots := 18, locals := 207 }
set_option maxRecDepth 100000 in
set_option maxHeartbeats 4000000 in
theorem ctL_dogs (l : Launch) (hl0 : l.stackTraces = false) (dC : Nat → ClassId) (dI : Nat → Nat → Nat) (cyI cyB cyJ cyZ : ClassId) (sz : Nat) (a0 a1 a2 a3 a4 a5 a6 a7 a8 a9 a10 a11 a12 a13 a14 a15 a16 b0_tape b0_kept b0_draftGround b0_draftLaw b0_grid b0_pieces b0_thinning b1_marks b1_stroll n16 : Nat) (g0_imageKept : Int32) (g0_wrongByte : Int32) (g1_drawSeed : Int32) (g2_texts : Int32) (g7_lines : Int32) (g2_ways : Int32) (g2_wallCount : Int32) (f3 : Nat → Int32) (f4 : Nat → Int32) (f5 : Nat → Int32) (f6 : Nat → Int32) (g7_size : Int32) (f9 : Nat → Int32) (f8 : Nat → Int32) (g10_ones : Int32) (g10_others : Int32) (f11 : Nat → Int32) (f12 : Nat → Int32) (f13 : Nat → Int32) (f14 : Nat → Int32) (f15 : Nat → Int32) (f16 : Nat → Int64) (p1 : Int32) (p2 : Int32) (p3 : Int32) (post : Int32 → ((Nat → Int32) × Int32 × Int32 × (Nat → Int32) × (Nat → Int32) × (Nat → Int32) × (Nat → Int32) × (Nat → Int32) × (Nat → Int64)) → Prop) (adS : Nat → Nat) (hw : wpL_dogs n16 post g2_ways g2_wallCount f3 f4 f5 f6 g7_size f9 f8 g10_ones g10_others f11 f12 f13 f14 f15 f16 p1 p2 p3) : Met l yL_dogs wsL_dogs rmL_dogs (va_Pc [.ref a0, .int p1, .int p2, .int p3, .ref a16] (wPreX dC dI cyI cyB cyJ cyZ sz (ceL_dogs cyI cyB cyJ cyZ a0 a1 a2 a3 a4 a5 a6 a7 a8 a9 a10 a11 a12 a13 a14 a15 a16 b0_tape b0_kept b0_draftGround b0_draftLaw b0_grid b0_pieces b0_thinning b1_marks b1_stroll n16 g0_imageKept g0_wrongByte g1_drawSeed g2_texts g7_lines g2_ways g2_wallCount f3 f4 f5 f6 g7_size f9 f8 g10_ones g10_others f11 f12 f13 f14 f15 f16) (txL adS))) (va_Qi post (fun u : (Nat → Int32) × Int32 × Int32 × (Nat → Int32) × (Nat → Int32) × (Nat → Int32) × (Nat → Int32) × (Nat → Int32) × (Nat → Int64) => wAt dC dI cyI cyB cyJ cyZ (va_A (ceL_dogs cyI cyB cyJ cyZ a0 a1 a2 a3 a4 a5 a6 a7 a8 a9 a10 a11 a12 a13 a14 a15 a16 b0_tape b0_kept b0_draftGround b0_draftLaw b0_grid b0_pieces b0_thinning b1_marks b1_stroll n16 g0_imageKept g0_wrongByte g1_drawSeed g2_texts g7_lines g2_ways g2_wallCount f3 f4 f5 f6 g7_size f9 f8 g10_ones g10_others f11 f12 f13 f14 f15 f16) sz) (ceL_dogs cyI cyB cyJ cyZ a0 a1 a2 a3 a4 a5 a6 a7 a8 a9 a10 a11 a12 a13 a14 a15 a16 b0_tape b0_kept b0_draftGround b0_draftLaw b0_grid b0_pieces b0_thinning b1_marks b1_stroll n16 g0_imageKept g0_wrongByte g1_drawSeed g2_texts g7_lines g2_ways g2_wallCount f3 f4 f5 f6 g7_size f9 u.1 u.2.1 u.2.2.1 u.2.2.2.1 u.2.2.2.2.1 u.2.2.2.2.2.1 u.2.2.2.2.2.2.1 u.2.2.2.2.2.2.2.1 u.2.2.2.2.2.2.2.2)) (va_A (ceL_dogs cyI cyB cyJ cyZ a0 a1 a2 a3 a4 a5 a6 a7 a8 a9 a10 a11 a12 a13 a14 a15 a16 b0_tape b0_kept b0_draftGround b0_draftLaw b0_grid b0_pieces b0_thinning b1_marks b1_stroll n16 g0_imageKept g0_wrongByte g1_drawSeed g2_texts g7_lines g2_ways g2_wallCount f3 f4 f5 f6 g7_size f9 f8 g10_ones g10_others f11 f12 f13 f14 f15 f16) sz)) 3 18 (va_A (ceL_dogs cyI cyB cyJ cyZ a0 a1 a2 a3 a4 a5 a6 a7 a8 a9 a10 a11 a12 a13 a14 a15 a16 b0_tape b0_kept b0_draftGround b0_draftLaw b0_grid b0_pieces b0_thinning b1_marks b1_stroll n16 g0_imageKept g0_wrongByte g1_drawSeed g2_texts g7_lines g2_ways g2_wallCount f3 f4 f5 f6 g7_size f9 f8 g10_ones g10_others f11 f12 f13 f14 f15 f16) sz) := by
  refine mt_ofWH (cc := cL_dogs) (maxL := 6) (ret := (some .int)) (by decide) rfl ?_
  intro p e s m args below meth c s₁ B hml hv
  obtain ⟨rfl, ⟨hsz, hP, hK, hD0, hN⟩, hXs⟩ := hv
  have hx := B.exec
  have hb := B.bytes
  have hr := B.returns
  have hts := atoms_spec (ws := wsL_dogs) B.pre
  have hown : s.vm.findClass RL = some m.cls := findClass_of_methodNamed B.named
  have hlocks := B.notSynchronized
  have htb := vx_table (x := yL_dogs) B (hts _ (List.mem_of_getElem? (i := 0) rfl))
  subst hsz
  have hD := hD0.self (sz := s.heap.size)
  generalize hAe : va_A (ceL_dogs cyI cyB cyJ cyZ a0 a1 a2 a3 a4 a5 a6 a7 a8 a9 a10 a11 a12 a13 a14 a15 a16 b0_tape b0_kept b0_draftGround b0_draftLaw b0_grid b0_pieces b0_thinning b1_marks b1_stroll n16 g0_imageKept g0_wrongByte g1_drawSeed g2_texts g7_lines g2_ways g2_wallCount f3 f4 f5 f6 g7_size f9 f8 g10_ones g10_others f11 f12 f13 f14 f15 f16) s.heap.size = A at hD hXs ⊢
  have hA : ∀ q : Nat, s.heap.size ≤ q → A q := fun q h => by rw [← hAe]; exact Or.inr h
  have hS : va_S A s.heap s.heap [] := va_S.rf
  have C0 : cxM p s m meth c _ wsL_dogs RL cL_dogs 6 (some .int) := ⟨hx, hb, hr, hml, hown, hts, hlocks⟩
  have hl := lv_entry ([.ref a0, .int p1, .int p2, .int p3, .ref a16]) (n := 6) (Nat.le_of_ble_eq_true rfl)
  rw [lg_entry_eq]
  generalize (lg_sl ([.ref a0, .int p1, .int p2, .int p3, .ref a16]) ++ List.replicate (6 - (lg_sl ([.ref a0, .int p1, .int p2, .int p3, .ref a16])).length) Slot.unset).toArray = ls at hl ⊢
  have hl : lv_has ls 6 [(0, .ref a0), (1, .int p1), (2, .int p2), (3, .int p3), (4, .ref a16)] := hl
  show W p l e rmL_dogs s m _ below meth c _ _ _ _ _ _
  refine wq (fun Q hQ => ?_)
  refine lv_aload hx hb dL_dogs_0 (lv_at hl 4 rfl) ?_
  refine lv_iconst (v := 0) hx hb dL_dogs_2 (by decide) ?_
  refine lv_aload_n hx hb dL_dogs_3 rfl (lv_at hl 0 rfl) ?_
  refine lv_iload_n hx hb dL_dogs_4 rfl (lv_at hl 1 rfl) ?_
  refine lv_iload_n hx hb dL_dogs_5 rfl (lv_at hl 2 rfl) ?_
  refine lv_iload_n hx hb dL_dogs_6 rfl (lv_at hl 3 rfl) ?_
  have hPc := hP.sub (ws' := (ceX10_dogs cyI cyB cyJ cyZ a0 a1 a2 a3 a4 a5 a6 a7 a8 a9 a10 a11 a12 a13 a14 a15 b0_tape b0_kept b0_draftGround b0_draftLaw b0_grid b0_pieces b0_thinning b1_marks b1_stroll g0_imageKept g0_wrongByte g1_drawSeed g2_texts g7_lines g2_ways g2_wallCount f3 f4 f5 f6 g7_size f9 f8 g10_ones g10_others f11 f12 f13 f14 f15)) [0, 1, 2, 3, 4, 5, 6, 7, 8, 9, 10, 11, 12, 13, 14, 15] rfl
  have hDc := hD.sub (ws' := (ceX10_dogs cyI cyB cyJ cyZ a0 a1 a2 a3 a4 a5 a6 a7 a8 a9 a10 a11 a12 a13 a14 a15 b0_tape b0_kept b0_draftGround b0_draftLaw b0_grid b0_pieces b0_thinning b1_marks b1_stroll g0_imageKept g0_wrongByte g1_drawSeed g2_texts g7_lines g2_ways g2_wallCount f3 f4 f5 f6 g7_size f9 f8 g10_ones g10_others f11 f12 f13 f14 f15)) [0, 1, 2, 3, 4, 5, 6, 7, 8, 9, 10, 11, 12, 13, 14, 15] (by decide) rfl
  have hFc := va_free (wc := (ceX10_dogs cyI cyB cyJ cyZ a0 a1 a2 a3 a4 a5 a6 a7 a8 a9 a10 a11 a12 a13 a14 a15 b0_tape b0_kept b0_draftGround b0_draftLaw b0_grid b0_pieces b0_thinning b1_marks b1_stroll g0_imageKept g0_wrongByte g1_drawSeed g2_texts g7_lines g2_ways g2_wallCount f3 f4 f5 f6 g7_size f9 f8 g10_ones g10_others f11 f12 f13 f14 f15)) hD hS hA [0, 1, 2, 3, 4, 5, 6, 7, 8, 9, 10, 11, 12, 13, 14, 15] rfl
  refine vx_calli (vx_runV (As := [.int p1, .int p2, .int p3]) (rest := [.int 0, .ref a16]) ⟨hx, hb, hml, hown, hts⟩ (ctX10_dogs l hl0 dC dI cyI cyB cyJ cyZ _ a0 a1 a2 a3 a4 a5 a6 a7 a8 a9 a10 a11 a12 a13 a14 a15 b0_tape b0_kept b0_draftGround b0_draftLaw b0_grid b0_pieces b0_thinning b1_marks b1_stroll g0_imageKept g0_wrongByte g1_drawSeed g2_texts g7_lines g2_ways g2_wallCount f3 f4 f5 f6 g7_size f9 f8 g10_ones g10_others f11 f12 f13 f14 f15 p1 p2 p3 _ _ adS hw) (cwV 3 hts gL_dogs_X10_dogs rfl rfl rfl (by decide +kernel) ⟨Nat.le_of_ble_eq_true rfl, Nat.le_of_ble_eq_true rfl⟩) ⟨wPreX_blind (xOk_txT adS), va_recv hK hPc (ci := 10) (q0 := 0) rfl rfl, fun U hU hW => wPreX_of (xOk_txT adS) hPc hK hDc hN hXs.1 hS hFc hU hW⟩ rfl rfl hl.1 rfl (lv_room (Nat.le_of_ble_eq_true rfl)) dL_dogs_7 ⟨(by decide), (by decide)⟩) hS (fun q _ h => hFc q h) hFc (fun q _ h => hFc q h) (fun E ce q9 u1 t H1 locs ht hvm hpx hBX hz1 hk1 hS hce hcv hcl => ?_) (fun r2 u1 t H1 locs ht hvm hw hB hz1 hk1 hS => ?_)
  · obtain ⟨hw, hP1, hK1, hD1⟩ := hBX
    rw [ht] at hP1
    obtain ⟨hP, hD⟩ := va_join (wr := pickW (ceL_dogs cyI cyB cyJ cyZ a0 a1 a2 a3 a4 a5 a6 a7 a8 a9 a10 a11 a12 a13 a14 a15 a16 b0_tape b0_kept b0_draftGround b0_draftLaw b0_grid b0_pieces b0_thinning b1_marks b1_stroll n16 g0_imageKept g0_wrongByte g1_drawSeed g2_texts g7_lines g2_ways g2_wallCount f3 f4 f5 f6 g7_size f9 f8 g10_ones g10_others f11 f12 f13 f14 f15 f16) [16]) (w1 := (ceX10_dogs cyI cyB cyJ cyZ a0 a1 a2 a3 a4 a5 a6 a7 a8 a9 a10 a11 a12 a13 a14 a15 b0_tape b0_kept b0_draftGround b0_draftLaw b0_grid b0_pieces b0_thinning b1_marks b1_stroll g0_imageKept g0_wrongByte g1_drawSeed g2_texts g7_lines g2_ways g2_wallCount f3 f4 f5 f6 g7_size f9 u1.1 u1.2.1 u1.2.2.1 u1.2.2.2.1 u1.2.2.2.2.1 u1.2.2.2.2.2.1 u1.2.2.2.2.2.2.1 u1.2.2.2.2.2.2.2)) hP hD [0, 1, 2, 3, 4, 5, 6, 7, 8, 9, 10, 11, 12, 13, 14, 15] [16] rfl rfl (by decide) (by decide) hk1 hFc hP1 hD1
    have hP := hP.sub (ws' := (ceL_dogs cyI cyB cyJ cyZ a0 a1 a2 a3 a4 a5 a6 a7 a8 a9 a10 a11 a12 a13 a14 a15 a16 b0_tape b0_kept b0_draftGround b0_draftLaw b0_grid b0_pieces b0_thinning b1_marks b1_stroll n16 g0_imageKept g0_wrongByte g1_drawSeed g2_texts g7_lines g2_ways g2_wallCount f3 f4 f5 f6 g7_size f9 u1.1 u1.2.1 u1.2.2.1 u1.2.2.2.1 u1.2.2.2.2.1 u1.2.2.2.2.2.1 u1.2.2.2.2.2.2.1 u1.2.2.2.2.2.2.2 f16)) [1, 2, 3, 4, 5, 6, 7, 8, 9, 10, 11, 12, 13, 14, 15, 16, 0] rfl
    have hD := hD.sub (ws' := (ceL_dogs cyI cyB cyJ cyZ a0 a1 a2 a3 a4 a5 a6 a7 a8 a9 a10 a11 a12 a13 a14 a15 a16 b0_tape b0_kept b0_draftGround b0_draftLaw b0_grid b0_pieces b0_thinning b1_marks b1_stroll n16 g0_imageKept g0_wrongByte g1_drawSeed g2_texts g7_lines g2_ways g2_wallCount f3 f4 f5 f6 g7_size f9 u1.1 u1.2.1 u1.2.2.1 u1.2.2.2.1 u1.2.2.2.2.1 u1.2.2.2.2.2.1 u1.2.2.2.2.2.2.1 u1.2.2.2.2.2.2.2 f16)) [1, 2, 3, 4, 5, 6, 7, 8, 9, 10, 11, 12, 13, 14, 15, 16, 0] (by decide) rfl
    obtain ⟨hw0, hE⟩ := hw
    subst hE
    have hw := hw0 rfl
    refine ec_catch (name := "java/lang/IndexOutOfBoundsException") hown [] _ _ (htb.trans rfl) (fun z hz => by cases hz) (by decide) (by decide) (hts (.classLink RL 24 "java/lang/IndexOutOfBoundsException") (List.mem_of_getElem? (i := 1) rfl)) (va_Nw.use rfl (hXs.1.2.2.2 (.castable "java/lang/IndexOutOfBoundsException" "java/lang/IndexOutOfBoundsException") (by decide +kernel))) hce hcv hcl ?_
    refine W.eq (g2 := F0 m 15 ls [.ref q9]) rfl ?_
    refine lv_astore (lv' := [(5, .ref q9), (0, .ref a0), (1, .int p1), (2, .int p2), (3, .int p3), (4, .ref a16)]) hx hb dL_dogs_15 hl (by decide) rfl (fun ls hl => ?_)
    refine lv_iconst (v := 1) hx hb dL_dogs_17 (by decide) ?_
    rw [hQ]
    refine W.widen (k := 3) (n := 18) (by decide) (by decide) ?_
    exact W.iret (v := 1) hx hb hr (fun t ht hW => ⟨⟨1, (u1.1, u1.2.1, u1.2.2.1, u1.2.2.2.1, u1.2.2.2.2.1, u1.2.2.2.2.2.1, u1.2.2.2.2.2.2.1, u1.2.2.2.2.2.2.2, f16), rfl, hw, by rw [ht]; exact hP, va_K.moved hW.alike hK, hD⟩, hS.F ht⟩) hS.2.2 dL_dogs_18
  -- returned
  obtain ⟨hP1, hK1, hD1⟩ := hB
  rw [ht] at hP1
  obtain ⟨hP, hD⟩ := va_join (wr := pickW (ceL_dogs cyI cyB cyJ cyZ a0 a1 a2 a3 a4 a5 a6 a7 a8 a9 a10 a11 a12 a13 a14 a15 a16 b0_tape b0_kept b0_draftGround b0_draftLaw b0_grid b0_pieces b0_thinning b1_marks b1_stroll n16 g0_imageKept g0_wrongByte g1_drawSeed g2_texts g7_lines g2_ways g2_wallCount f3 f4 f5 f6 g7_size f9 f8 g10_ones g10_others f11 f12 f13 f14 f15 f16) [16]) (w1 := (ceX10_dogs cyI cyB cyJ cyZ a0 a1 a2 a3 a4 a5 a6 a7 a8 a9 a10 a11 a12 a13 a14 a15 b0_tape b0_kept b0_draftGround b0_draftLaw b0_grid b0_pieces b0_thinning b1_marks b1_stroll g0_imageKept g0_wrongByte g1_drawSeed g2_texts g7_lines g2_ways g2_wallCount f3 f4 f5 f6 g7_size f9 u1.1 u1.2.1 u1.2.2.1 u1.2.2.2.1 u1.2.2.2.2.1 u1.2.2.2.2.2.1 u1.2.2.2.2.2.2.1 u1.2.2.2.2.2.2.2)) hP hD [0, 1, 2, 3, 4, 5, 6, 7, 8, 9, 10, 11, 12, 13, 14, 15] [16] rfl rfl (by decide) (by decide) hk1 hFc hP1 hD1
  have hP := hP.sub (ws' := (ceL_dogs cyI cyB cyJ cyZ a0 a1 a2 a3 a4 a5 a6 a7 a8 a9 a10 a11 a12 a13 a14 a15 a16 b0_tape b0_kept b0_draftGround b0_draftLaw b0_grid b0_pieces b0_thinning b1_marks b1_stroll n16 g0_imageKept g0_wrongByte g1_drawSeed g2_texts g7_lines g2_ways g2_wallCount f3 f4 f5 f6 g7_size f9 u1.1 u1.2.1 u1.2.2.1 u1.2.2.2.1 u1.2.2.2.2.1 u1.2.2.2.2.2.1 u1.2.2.2.2.2.2.1 u1.2.2.2.2.2.2.2 f16)) [1, 2, 3, 4, 5, 6, 7, 8, 9, 10, 11, 12, 13, 14, 15, 16, 0] rfl
  have hD := hD.sub (ws' := (ceL_dogs cyI cyB cyJ cyZ a0 a1 a2 a3 a4 a5 a6 a7 a8 a9 a10 a11 a12 a13 a14 a15 a16 b0_tape b0_kept b0_draftGround b0_draftLaw b0_grid b0_pieces b0_thinning b1_marks b1_stroll n16 g0_imageKept g0_wrongByte g1_drawSeed g2_texts g7_lines g2_ways g2_wallCount f3 f4 f5 f6 g7_size f9 u1.1 u1.2.1 u1.2.2.1 u1.2.2.2.1 u1.2.2.2.2.1 u1.2.2.2.2.2.1 u1.2.2.2.2.2.2.1 u1.2.2.2.2.2.2.2 f16)) [1, 2, 3, 4, 5, 6, 7, 8, 9, 10, 11, 12, 13, 14, 15, 16, 0] (by decide) rfl
  generalize H1 = H at hP hS ⊢
  refine W.widen (k := 3) (n := 18) (by decide) (by decide) ?_
  refine lv_i2l hx hb dL_dogs_10 rfl ?_
  obtain ⟨hi, hw⟩ := hw
  refine va_last hx hb hK hP hD hS 16 2 rfl rfl hi dL_dogs_11 (fun H locs hP hD hS => ?_)
  have hP : va_P (dC, dI) vwCl (ceL_dogs cyI cyB cyJ cyZ a0 a1 a2 a3 a4 a5 a6 a7 a8 a9 a10 a11 a12 a13 a14 a15 a16 b0_tape b0_kept b0_draftGround b0_draftLaw b0_grid b0_pieces b0_thinning b1_marks b1_stroll n16 g0_imageKept g0_wrongByte g1_drawSeed g2_texts g7_lines g2_ways g2_wallCount f3 f4 f5 f6 g7_size f9 u1.1 u1.2.1 u1.2.2.1 u1.2.2.2.1 u1.2.2.2.2.1 u1.2.2.2.2.2.1 u1.2.2.2.2.2.2.1 u1.2.2.2.2.2.2.2 (vp_updL f16 (0 : Int32).toNatClampNeg (r2.toInt64))) H := hP
  have hD : va_D A (ceL_dogs cyI cyB cyJ cyZ a0 a1 a2 a3 a4 a5 a6 a7 a8 a9 a10 a11 a12 a13 a14 a15 a16 b0_tape b0_kept b0_draftGround b0_draftLaw b0_grid b0_pieces b0_thinning b1_marks b1_stroll n16 g0_imageKept g0_wrongByte g1_drawSeed g2_texts g7_lines g2_ways g2_wallCount f3 f4 f5 f6 g7_size f9 u1.1 u1.2.1 u1.2.2.1 u1.2.2.2.1 u1.2.2.2.2.1 u1.2.2.2.2.2.1 u1.2.2.2.2.2.2.1 u1.2.2.2.2.2.2.2 (vp_updL f16 (0 : Int32).toNatClampNeg (r2.toInt64))) := hD
  refine lv_goto (tgt := 19) hx hb dL_dogs_12 (by decide) ?_
  refine lv_iconst (v := 0) hx hb dL_dogs_19 (by decide) ?_
  rw [hQ]
  refine W.widen (k := 3) (n := 18) (by decide) (by decide) ?_
  exact W.iret (v := 0) hx hb hr (fun t ht hW => ⟨⟨0, (u1.1, u1.2.1, u1.2.2.1, u1.2.2.2.1, u1.2.2.2.2.1, u1.2.2.2.2.2.1, u1.2.2.2.2.2.2.1, u1.2.2.2.2.2.2.2, (vp_updL f16 (0 : Int32).toNatClampNeg (r2.toInt64))), rfl, hw, by rw [ht]; exact hP, va_K.moved hW.alike hK, hD⟩, hS.F ht⟩) hS.2.2 dL_dogs_20
/-! LeadParkLaw.three (LLeadPark;III[J)I -/
abbrev ceL_three (cyI cyB cyJ cyZ : ClassId) (a0 a1 a2 a3 a4 a5 a6 a7 a8 a9 a10 a11 a12 a13 a14 a15 a16 b0_tape b0_kept b0_draftGround b0_draftLaw b0_grid b0_pieces b0_thinning b1_marks b1_stroll n16 : Nat) (g0_imageKept : Int32) (g0_wrongByte : Int32) (g1_drawSeed : Int32) (g2_texts : Int32) (g7_lines : Int32) (g2_ways : Int32) (g2_wallCount : Int32) (f3 : Nat → Int32) (f4 : Nat → Int32) (f5 : Nat → Int32) (f6 : Nat → Int32) (g7_size : Int32) (f9 : Nat → Int32) (f8 : Nat → Int32) (g10_ones : Int32) (g10_others : Int32) (f11 : Nat → Int32) (f12 : Nat → Int32) (f13 : Nat → Int32) (f14 : Nat → Int32) (f15 : Nat → Int32) (f16 : Nat → Int64) : va_W := [(a0, .inr (10, [.ref b0_tape, .ref a1, .ref b0_kept, .ref b0_draftGround, .ref b0_draftLaw, .ref b0_grid, .ref a10, .ref b0_pieces, .ref b0_thinning, .int g0_imageKept, .int g0_wrongByte])), (a1, .inr (6, [.ref a2, .ref a7, .ref b1_marks, .ref b1_stroll, .int g1_drawSeed])), (a2, .inr (1, [.ref a4, .ref a5, .ref a3, .ref a6, .int g2_ways, .int g2_wallCount, .int g2_texts])), (a3, .inl (cyI, 12, .inl f3)), (a4, .inl (cyI, 360, .inl f4)), (a5, .inl (cyI, 360, .inl f5)), (a6, .inl (cyI, 32, .inl f6)), (a7, .inr (2, [.ref a9, .ref a8, .int g7_size, .int g7_lines])), (a8, .inl (cyI, 7, .inl f8)), (a9, .inl (cyI, 400, .inl f9)), (a10, .inr (4, [.ref a14, .ref a15, .ref a11, .ref a12, .ref a13, .int g10_ones, .int g10_others])), (a11, .inl (cyI, 900, .inl f11)), (a12, .inl (cyI, 961, .inl f12)), (a13, .inl (cyI, 961, .inl f13)), (a14, .inl (cyI, 30, .inl f14)), (a15, .inl (cyI, 30, .inl f15)), (a16, .inl (cyJ, n16, .inr (.inl f16)))]

abbrev rmL_three : Room := { frames := 8, cells := 3, slots := 18, locals := 207 }
set_option maxRecDepth 100000 in
set_option maxHeartbeats 4000000 in
theorem ctL_three (l : Launch) (hl0 : l.stackTraces = false) (dC : Nat → ClassId) (dI : Nat → Nat → Nat) (cyI cyB cyJ cyZ : ClassId) (sz : Nat) (a0 a1 a2 a3 a4 a5 a6 a7 a8 a9 a10 a11 a12 a13 a14 a15 a16 b0_tape b0_kept b0_draftGround b0_draftLaw b0_grid b0_pieces b0_thinning b1_marks b1_stroll n16 : Nat) (g0_imageKept : Int32) (g0_wrongByte : Int32) (g1_drawSeed : Int32) (g2_texts : Int32) (g7_lines : Int32) (g2_ways : Int32) (g2_wallCount : Int32) (f3 : Nat → Int32) (f4 : Nat → Int32) (f5 : Nat → Int32) (f6 : Nat → Int32) (g7_size : Int32) (f9 : Nat → Int32) (f8 : Nat → Int32) (g10_ones : Int32) (g10_others : Int32) (f11 : Nat → Int32) (f12 : Nat → Int32) (f13 : Nat → Int32) (f14 : Nat → Int32) (f15 : Nat → Int32) (f16 : Nat → Int64) (p1 : Int32) (p2 : Int32) (p3 : Int32) (post : Int32 → ((Nat → Int32) × Int32 × Int32 × (Nat → Int32) × (Nat → Int32) × (Nat → Int32) × (Nat → Int32) × (Nat → Int32) × (Nat → Int64)) → Prop) (adS : Nat → Nat) (hw : wpL_three n16 post g2_ways g2_wallCount f3 f4 f5 f6 g7_size f9 f8 g10_ones g10_others f11 f12 f13 f14 f15 f16 p1 p2 p3) : Met l yL_three wsL_three rmL_three (va_Pc [.ref a0, .int p1, .int p2, .int p3, .ref a16] (wPreX dC dI cyI cyB cyJ cyZ sz (ceL_three cyI cyB cyJ cyZ a0 a1 a2 a3 a4 a5 a6 a7 a8 a9 a10 a11 a12 a13 a14 a15 a16 b0_tape b0_kept b0_draftGround b0_draftLaw b0_grid b0_pieces b0_thinning b1_marks b1_stroll n16 g0_imageKept g0_wrongByte g1_drawSeed g2_texts g7_lines g2_ways g2_wallCount f3 f4 f5 f6 g7_size f9 f8 g10_ones g10_others f11 f12 f13 f14 f15 f16) (txL adS))) (va_Qi post (fun u : (Nat → Int32) × Int32 × Int32 × (Nat → Int32) × (Nat → Int32) × (Nat → Int32) × (Nat → Int32) × (Nat → Int32) × (Nat → Int64) => wAt dC dI cyI cyB cyJ cyZ (va_A (ceL_three cyI cyB cyJ cyZ a0 a1 a2 a3 a4 a5 a6 a7 a8 a9 a10 a11 a12 a13 a14 a15 a16 b0_tape b0_kept b0_draftGround b0_draftLaw b0_grid b0_pieces b0_thinning b1_marks b1_stroll n16 g0_imageKept g0_wrongByte g1_drawSeed g2_texts g7_lines g2_ways g2_wallCount f3 f4 f5 f6 g7_size f9 f8 g10_ones g10_others f11 f12 f13 f14 f15 f16) sz) (ceL_three cyI cyB cyJ cyZ a0 a1 a2 a3 a4 a5 a6 a7 a8 a9 a10 a11 a12 a13 a14 a15 a16 b0_tape b0_kept b0_draftGround b0_draftLaw b0_grid b0_pieces b0_thinning b1_marks b1_stroll n16 g0_imageKept g0_wrongByte g1_drawSeed g2_texts g7_lines g2_ways g2_wallCount f3 f4 f5 f6 g7_size f9 u.1 u.2.1 u.2.2.1 u.2.2.2.1 u.2.2.2.2.1 u.2.2.2.2.2.1 u.2.2.2.2.2.2.1 u.2.2.2.2.2.2.2.1 u.2.2.2.2.2.2.2.2)) (va_A (ceL_three cyI cyB cyJ cyZ a0 a1 a2 a3 a4 a5 a6 a7 a8 a9 a10 a11 a12 a13 a14 a15 a16 b0_tape b0_kept b0_draftGround b0_draftLaw b0_grid b0_pieces b0_thinning b1_marks b1_stroll n16 g0_imageKept g0_wrongByte g1_drawSeed g2_texts g7_lines g2_ways g2_wallCount f3 f4 f5 f6 g7_size f9 f8 g10_ones g10_others f11 f12 f13 f14 f15 f16) sz)) 3 18 (va_A (ceL_three cyI cyB cyJ cyZ a0 a1 a2 a3 a4 a5 a6 a7 a8 a9 a10 a11 a12 a13 a14 a15 a16 b0_tape b0_kept b0_draftGround b0_draftLaw b0_grid b0_pieces b0_thinning b1_marks b1_stroll n16 g0_imageKept g0_wrongByte g1_drawSeed g2_texts g7_lines g2_ways g2_wallCount f3 f4 f5 f6 g7_size f9 f8 g10_ones g10_others f11 f12 f13 f14 f15 f16) sz) := by
  refine mt_ofWH (cc := cL_three) (maxL := 6) (ret := (some .int)) (by decide) rfl ?_
  intro p e s m args below meth c s₁ B hml hv
  obtain ⟨rfl, ⟨hsz, hP, hK, hD0, hN⟩, hXs⟩ := hv
  have hx := B.exec
  have hb := B.bytes
  have hr := B.returns
  have hts := atoms_spec (ws := wsL_three) B.pre
  have hown : s.vm.findClass RL = some m.cls := findClass_of_methodNamed B.named
  have hlocks := B.notSynchronized
  have htb := vx_table (x := yL_three) B (hts _ (List.mem_of_getElem? (i := 0) rfl))
  subst hsz
  have hD := hD0.self (sz := s.heap.size)
  generalize hAe : va_A (ceL_three cyI cyB cyJ cyZ a0 a1 a2 a3 a4 a5 a6 a7 a8 a9 a10 a11 a12 a13 a14 a15 a16 b0_tape b0_kept b0_draftGround b0_draftLaw b0_grid b0_pieces b0_thinning b1_marks b1_stroll n16 g0_imageKept g0_wrongByte g1_drawSeed g2_texts g7_lines g2_ways g2_wallCount f3 f4 f5 f6 g7_size f9 f8 g10_ones g10_others f11 f12 f13 f14 f15 f16) s.heap.size = A at hD hXs ⊢
  have hA : ∀ q : Nat, s.heap.size ≤ q → A q := fun q h => by rw [← hAe]; exact Or.inr h
  have hS : va_S A s.heap s.heap [] := va_S.rf
  have C0 : cxM p s m meth c _ wsL_three RL cL_three 6 (some .int) := ⟨hx, hb, hr, hml, hown, hts, hlocks⟩
  have hl := lv_entry ([.ref a0, .int p1, .int p2, .int p3, .ref a16]) (n := 6) (Nat.le_of_ble_eq_true rfl)
  rw [lg_entry_eq]
  generalize (lg_sl ([.ref a0, .int p1, .int p2, .int p3, .ref a16]) ++ List.replicate (6 - (lg_sl ([.ref a0, .int p1, .int p2, .int p3, .ref a16])).length) Slot.unset).toArray = ls at hl ⊢
  have hl : lv_has ls 6 [(0, .ref a0), (1, .int p1), (2, .int p2), (3, .int p3), (4, .ref a16)] := hl
  show W p l e rmL_three s m _ below meth c _ _ _ _ _ _
  refine wq (fun Q hQ => ?_)
  refine lv_aload hx hb dL_three_0 (lv_at hl 4 rfl) ?_
  refine lv_iconst (v := 0) hx hb dL_three_2 (by decide) ?_
  refine lv_aload_n hx hb dL_three_3 rfl (lv_at hl 0 rfl) ?_
  refine lv_iload_n hx hb dL_three_4 rfl (lv_at hl 1 rfl) ?_
  refine lv_iload_n hx hb dL_three_5 rfl (lv_at hl 2 rfl) ?_
  refine lv_iload_n hx hb dL_three_6 rfl (lv_at hl 3 rfl) ?_
  have hPc := hP.sub (ws' := (ceX10_three cyI cyB cyJ cyZ a0 a1 a2 a3 a4 a5 a6 a7 a8 a9 a10 a11 a12 a13 a14 a15 b0_tape b0_kept b0_draftGround b0_draftLaw b0_grid b0_pieces b0_thinning b1_marks b1_stroll g0_imageKept g0_wrongByte g1_drawSeed g2_texts g7_lines g2_ways g2_wallCount f3 f4 f5 f6 g7_size f9 f8 g10_ones g10_others f11 f12 f13 f14 f15)) [0, 1, 2, 3, 4, 5, 6, 7, 8, 9, 10, 11, 12, 13, 14, 15] rfl
  have hDc := hD.sub (ws' := (ceX10_three cyI cyB cyJ cyZ a0 a1 a2 a3 a4 a5 a6 a7 a8 a9 a10 a11 a12 a13 a14 a15 b0_tape b0_kept b0_draftGround b0_draftLaw b0_grid b0_pieces b0_thinning b1_marks b1_stroll g0_imageKept g0_wrongByte g1_drawSeed g2_texts g7_lines g2_ways g2_wallCount f3 f4 f5 f6 g7_size f9 f8 g10_ones g10_others f11 f12 f13 f14 f15)) [0, 1, 2, 3, 4, 5, 6, 7, 8, 9, 10, 11, 12, 13, 14, 15] (by decide) rfl
  have hFc := va_free (wc := (ceX10_three cyI cyB cyJ cyZ a0 a1 a2 a3 a4 a5 a6 a7 a8 a9 a10 a11 a12 a13 a14 a15 b0_tape b0_kept b0_draftGround b0_draftLaw b0_grid b0_pieces b0_thinning b1_marks b1_stroll g0_imageKept g0_wrongByte g1_drawSeed g2_texts g7_lines g2_ways g2_wallCount f3 f4 f5 f6 g7_size f9 f8 g10_ones g10_others f11 f12 f13 f14 f15)) hD hS hA [0, 1, 2, 3, 4, 5, 6, 7, 8, 9, 10, 11, 12, 13, 14, 15] rfl
  refine vx_calli (vx_runV (As := [.int p1, .int p2, .int p3]) (rest := [.int 0, .ref a16]) ⟨hx, hb, hml, hown, hts⟩ (ctX10_three l hl0 dC dI cyI cyB cyJ cyZ _ a0 a1 a2 a3 a4 a5 a6 a7 a8 a9 a10 a11 a12 a13 a14 a15 b0_tape b0_kept b0_draftGround b0_draftLaw b0_grid b0_pieces b0_thinning b1_marks b1_stroll g0_imageKept g0_wrongByte g1_drawSeed g2_texts g7_lines g2_ways g2_wallCount f3 f4 f5 f6 g7_size f9 f8 g10_ones g10_others f11 f12 f13 f14 f15 p1 p2 p3 _ _ adS hw) (cwV 3 hts gL_three_X10_three rfl rfl rfl (by decide +kernel) ⟨Nat.le_of_ble_eq_true rfl, Nat.le_of_ble_eq_true rfl⟩) ⟨wPreX_blind (xOk_txT adS), va_recv hK hPc (ci := 10) (q0 := 0) rfl rfl, fun U hU hW => wPreX_of (xOk_txT adS) hPc hK hDc hN hXs.1 hS hFc hU hW⟩ rfl rfl hl.1 rfl (lv_room (Nat.le_of_ble_eq_true rfl)) dL_three_7 ⟨(by decide), (by decide)⟩) hS (fun q _ h => hFc q h) hFc (fun q _ h => hFc q h) (fun E ce q9 u1 t H1 locs ht hvm hpx hBX hz1 hk1 hS hce hcv hcl => ?_) (fun r2 u1 t H1 locs ht hvm hw hB hz1 hk1 hS => ?_)
  · obtain ⟨hw, hP1, hK1, hD1⟩ := hBX
    rw [ht] at hP1
    obtain ⟨hP, hD⟩ := va_join (wr := pickW (ceL_three cyI cyB cyJ cyZ a0 a1 a2 a3 a4 a5 a6 a7 a8 a9 a10 a11 a12 a13 a14 a15 a16 b0_tape b0_kept b0_draftGround b0_draftLaw b0_grid b0_pieces b0_thinning b1_marks b1_stroll n16 g0_imageKept g0_wrongByte g1_drawSeed g2_texts g7_lines g2_ways g2_wallCount f3 f4 f5 f6 g7_size f9 f8 g10_ones g10_others f11 f12 f13 f14 f15 f16) [16]) (w1 := (ceX10_three cyI cyB cyJ cyZ a0 a1 a2 a3 a4 a5 a6 a7 a8 a9 a10 a11 a12 a13 a14 a15 b0_tape b0_kept b0_draftGround b0_draftLaw b0_grid b0_pieces b0_thinning b1_marks b1_stroll g0_imageKept g0_wrongByte g1_drawSeed g2_texts g7_lines g2_ways g2_wallCount f3 f4 f5 f6 g7_size f9 u1.1 u1.2.1 u1.2.2.1 u1.2.2.2.1 u1.2.2.2.2.1 u1.2.2.2.2.2.1 u1.2.2.2.2.2.2.1 u1.2.2.2.2.2.2.2)) hP hD [0, 1, 2, 3, 4, 5, 6, 7, 8, 9, 10, 11, 12, 13, 14, 15] [16] rfl rfl (by decide) (by decide) hk1 hFc hP1 hD1
    have hP := hP.sub (ws' := (ceL_three cyI cyB cyJ cyZ a0 a1 a2 a3 a4 a5 a6 a7 a8 a9 a10 a11 a12 a13 a14 a15 a16 b0_tape b0_kept b0_draftGround b0_draftLaw b0_grid b0_pieces b0_thinning b1_marks b1_stroll n16 g0_imageKept g0_wrongByte g1_drawSeed g2_texts g7_lines g2_ways g2_wallCount f3 f4 f5 f6 g7_size f9 u1.1 u1.2.1 u1.2.2.1 u1.2.2.2.1 u1.2.2.2.2.1 u1.2.2.2.2.2.1 u1.2.2.2.2.2.2.1 u1.2.2.2.2.2.2.2 f16)) [1, 2, 3, 4, 5, 6, 7, 8, 9, 10, 11, 12, 13, 14, 15, 16, 0] rfl
    have hD := hD.sub (ws' := (ceL_three cyI cyB cyJ cyZ a0 a1 a2 a3 a4 a5 a6 a7 a8 a9 a10 a11 a12 a13 a14 a15 a16 b0_tape b0_kept b0_draftGround b0_draftLaw b0_grid b0_pieces b0_thinning b1_marks b1_stroll n16 g0_imageKept g0_wrongByte g1_drawSeed g2_texts g7_lines g2_ways g2_wallCount f3 f4 f5 f6 g7_size f9 u1.1 u1.2.1 u1.2.2.1 u1.2.2.2.1 u1.2.2.2.2.1 u1.2.2.2.2.2.1 u1.2.2.2.2.2.2.1 u1.2.2.2.2.2.2.2 f16)) [1, 2, 3, 4, 5, 6, 7, 8, 9, 10, 11, 12, 13, 14, 15, 16, 0] (by decide) rfl
    obtain ⟨hw0, hE⟩ := hw
    subst hE
    have hw := hw0 rfl
    refine ec_catch (name := "java/lang/IndexOutOfBoundsException") hown [] _ _ (htb.trans rfl) (fun z hz => by cases hz) (by decide) (by decide) (hts (.classLink RL 24 "java/lang/IndexOutOfBoundsException") (List.mem_of_getElem? (i := 1) rfl)) (va_Nw.use rfl (hXs.1.2.2.2 (.castable "java/lang/IndexOutOfBoundsException" "java/lang/IndexOutOfBoundsException") (by decide +kernel))) hce hcv hcl ?_
    refine W.eq (g2 := F0 m 15 ls [.ref q9]) rfl ?_
    refine lv_astore (lv' := [(5, .ref q9), (0, .ref a0), (1, .int p1), (2, .int p2), (3, .int p3), (4, .ref a16)]) hx hb dL_three_15 hl (by decide) rfl (fun ls hl => ?_)
    refine lv_iconst (v := 1) hx hb dL_three_17 (by decide) ?_
    rw [hQ]
    refine W.widen (k := 3) (n := 18) (by decide) (by decide) ?_
    exact W.iret (v := 1) hx hb hr (fun t ht hW => ⟨⟨1, (u1.1, u1.2.1, u1.2.2.1, u1.2.2.2.1, u1.2.2.2.2.1, u1.2.2.2.2.2.1, u1.2.2.2.2.2.2.1, u1.2.2.2.2.2.2.2, f16), rfl, hw, by rw [ht]; exact hP, va_K.moved hW.alike hK, hD⟩, hS.F ht⟩) hS.2.2 dL_three_18
  -- returned
  obtain ⟨hP1, hK1, hD1⟩ := hB
  rw [ht] at hP1
  obtain ⟨hP, hD⟩ := va_join (wr := pickW (ceL_three cyI cyB cyJ cyZ a0 a1 a2 a3 a4 a5 a6 a7 a8 a9 a10 a11 a12 a13 a14 a15 a16 b0_tape b0_kept b0_draftGround b0_draftLaw b0_grid b0_pieces b0_thinning b1_marks b1_stroll n16 g0_imageKept g0_wrongByte g1_drawSeed g2_texts g7_lines g2_ways g2_wallCount f3 f4 f5 f6 g7_size f9 f8 g10_ones g10_others f11 f12 f13 f14 f15 f16) [16]) (w1 := (ceX10_three cyI cyB cyJ cyZ a0 a1 a2 a3 a4 a5 a6 a7 a8 a9 a10 a11 a12 a13 a14 a15 b0_tape b0_kept b0_draftGround b0_draftLaw b0_grid b0_pieces b0_thinning b1_marks b1_stroll g0_imageKept g0_wrongByte g1_drawSeed g2_texts g7_lines g2_ways g2_wallCount f3 f4 f5 f6 g7_size f9 u1.1 u1.2.1 u1.2.2.1 u1.2.2.2.1 u1.2.2.2.2.1 u1.2.2.2.2.2.1 u1.2.2.2.2.2.2.1 u1.2.2.2.2.2.2.2)) hP hD [0, 1, 2, 3, 4, 5, 6, 7, 8, 9, 10, 11, 12, 13, 14, 15] [16] rfl rfl (by decide) (by decide) hk1 hFc hP1 hD1
  have hP := hP.sub (ws' := (ceL_three cyI cyB cyJ cyZ a0 a1 a2 a3 a4 a5 a6 a7 a8 a9 a10 a11 a12 a13 a14 a15 a16 b0_tape b0_kept b0_draftGround b0_draftLaw b0_grid b0_pieces b0_thinning b1_marks b1_stroll n16 g0_imageKept g0_wrongByte g1_drawSeed g2_texts g7_lines g2_ways g2_wallCount f3 f4 f5 f6 g7_size f9 u1.1 u1.2.1 u1.2.2.1 u1.2.2.2.1 u1.2.2.2.2.1 u1.2.2.2.2.2.1 u1.2.2.2.2.2.2.1 u1.2.2.2.2.2.2.2 f16)) [1, 2, 3, 4, 5, 6, 7, 8, 9, 10, 11, 12, 13, 14, 15, 16, 0] rfl
  have hD := hD.sub (ws' := (ceL_three cyI cyB cyJ cyZ a0 a1 a2 a3 a4 a5 a6 a7 a8 a9 a10 a11 a12 a13 a14 a15 a16 b0_tape b0_kept b0_draftGround b0_draftLaw b0_grid b0_pieces b0_thinning b1_marks b1_stroll n16 g0_imageKept g0_wrongByte g1_drawSeed g2_texts g7_lines g2_ways g2_wallCount f3 f4 f5 f6 g7_size f9 u1.1 u1.2.1 u1.2.2.1 u1.2.2.2.1 u1.2.2.2.2.1 u1.2.2.2.2.2.1 u1.2.2.2.2.2.2.1 u1.2.2.2.2.2.2.2 f16)) [1, 2, 3, 4, 5, 6, 7, 8, 9, 10, 11, 12, 13, 14, 15, 16, 0] (by decide) rfl
  generalize H1 = H at hP hS ⊢
  refine W.widen (k := 3) (n := 18) (by decide) (by decide) ?_
  refine lv_i2l hx hb dL_three_10 rfl ?_
  obtain ⟨hi, hw⟩ := hw
  refine va_last hx hb hK hP hD hS 16 2 rfl rfl hi dL_three_11 (fun H locs hP hD hS => ?_)
  have hP : va_P (dC, dI) vwCl (ceL_three cyI cyB cyJ cyZ a0 a1 a2 a3 a4 a5 a6 a7 a8 a9 a10 a11 a12 a13 a14 a15 a16 b0_tape b0_kept b0_draftGround b0_draftLaw b0_grid b0_pieces b0_thinning b1_marks b1_stroll n16 g0_imageKept g0_wrongByte g1_drawSeed g2_texts g7_lines g2_ways g2_wallCount f3 f4 f5 f6 g7_size f9 u1.1 u1.2.1 u1.2.2.1 u1.2.2.2.1 u1.2.2.2.2.1 u1.2.2.2.2.2.1 u1.2.2.2.2.2.2.1 u1.2.2.2.2.2.2.2 (vp_updL f16 (0 : Int32).toNatClampNeg (r2.toInt64))) H := hP
  have hD : va_D A (ceL_three cyI cyB cyJ cyZ a0 a1 a2 a3 a4 a5 a6 a7 a8 a9 a10 a11 a12 a13 a14 a15 a16 b0_tape b0_kept b0_draftGround b0_draftLaw b0_grid b0_pieces b0_thinning b1_marks b1_stroll n16 g0_imageKept g0_wrongByte g1_drawSeed g2_texts g7_lines g2_ways g2_wallCount f3 f4 f5 f6 g7_size f9 u1.1 u1.2.1 u1.2.2.1 u1.2.2.2.1 u1.2.2.2.2.1 u1.2.2.2.2.2.1 u1.2.2.2.2.2.2.1 u1.2.2.2.2.2.2.2 (vp_updL f16 (0 : Int32).toNatClampNeg (r2.toInt64))) := hD
  refine lv_goto (tgt := 19) hx hb dL_three_12 (by decide) ?_
  refine lv_iconst (v := 0) hx hb dL_three_19 (by decide) ?_
  rw [hQ]
  refine W.widen (k := 3) (n := 18) (by decide) (by decide) ?_
  exact W.iret (v := 0) hx hb hr (fun t ht hW => ⟨⟨0, (u1.1, u1.2.1, u1.2.2.1, u1.2.2.2.1, u1.2.2.2.2.1, u1.2.2.2.2.2.1, u1.2.2.2.2.2.2.1, u1.2.2.2.2.2.2.2, (vp_updL f16 (0 : Int32).toNatClampNeg (r2.toInt64))), rfl, hw, by rw [ht]; exact hP, va_K.moved hW.alike hK, hD⟩, hS.F ht⟩) hS.2.2 dL_three_20
/-! LeadParkLaw.drag (LLeadPark;II[J)I -/
abbrev ceL_drag (cyI cyB cyJ cyZ : ClassId) (a0 a1 a2 a3 a4 a5 a6 a7 a8 a9 a10 a11 a12 a13 b0_tape b0_kept b0_draftGround b0_draftLaw b0_pack b0_pieces b0_thinning b1_marks b1_stroll n13 : Nat) (g0_imageKept : Int32) (g0_wrongByte : Int32) (g1_drawSeed : Int32) (g2_texts : Int32) (g7_lines : Int32) (g2_ways : Int32) (g2_wallCount : Int32) (f3 : Nat → Int32) (f4 : Nat → Int32) (f5 : Nat → Int32) (f6 : Nat → Int32) (g7_size : Int32) (f9 : Nat → Int32) (f8 : Nat → Int32) (g10_rows : Int32) (g10_columns : Int32) (f11 : Nat → Int32) (f12 : Nat → Int32) (f13 : Nat → Int64) : va_W := [(a0, .inr (10, [.ref b0_tape, .ref a1, .ref b0_kept, .ref b0_draftGround, .ref b0_draftLaw, .ref a10, .ref b0_pack, .ref b0_pieces, .ref b0_thinning, .int g0_imageKept, .int g0_wrongByte])), (a1, .inr (6, [.ref a2, .ref a7, .ref b1_marks, .ref b1_stroll, .int g1_drawSeed])), (a2, .inr (1, [.ref a4, .ref a5, .ref a3, .ref a6, .int g2_ways, .int g2_wallCount, .int g2_texts])), (a3, .inl (cyI, 12, .inl f3)), (a4, .inl (cyI, 360, .inl f4)), (a5, .inl (cyI, 360, .inl f5)), (a6, .inl (cyI, 32, .inl f6)), (a7, .inr (2, [.ref a9, .ref a8, .int g7_size, .int g7_lines])), (a8, .inl (cyI, 7, .inl f8)), (a9, .inl (cyI, 400, .inl f9)), (a10, .inr (0, [.ref a11, .ref a12, .int g10_rows, .int g10_columns])), (a11, .inl (cyI, 1089, .inl f11)), (a12, .inl (cyI, 1089, .inl f12)), (a13, .inl (cyJ, n13, .inr (.inl f13)))]

abbrev rmL_drag : Room := { frames := 8, cells := 2, slots := 12, locals := 175 }
set_option maxRecDepth 100000 in
set_option maxHeartbeats 4000000 in
theorem ctL_drag (l : Launch) (hl0 : l.stackTraces = false) (dC : Nat → ClassId) (dI : Nat → Nat → Nat) (cyI cyB cyJ cyZ : ClassId) (sz : Nat) (a0 a1 a2 a3 a4 a5 a6 a7 a8 a9 a10 a11 a12 a13 b0_tape b0_kept b0_draftGround b0_draftLaw b0_pack b0_pieces b0_thinning b1_marks b1_stroll n13 : Nat) (g0_imageKept : Int32) (g0_wrongByte : Int32) (g1_drawSeed : Int32) (g2_texts : Int32) (g7_lines : Int32) (g2_ways : Int32) (g2_wallCount : Int32) (f3 : Nat → Int32) (f4 : Nat → Int32) (f5 : Nat → Int32) (f6 : Nat → Int32) (g7_size : Int32) (f9 : Nat → Int32) (f8 : Nat → Int32) (g10_rows : Int32) (g10_columns : Int32) (f11 : Nat → Int32) (f12 : Nat → Int32) (f13 : Nat → Int64) (p1 : Int32) (p2 : Int32) (post : Int32 → ((Nat → Int32) × Int32 × Int32 × (Nat → Int32) × (Nat → Int32) × (Nat → Int64)) → Prop) (adS : Nat → Nat) (hw : wpL_drag n13 post g2_ways g2_wallCount f3 f4 f5 f6 g7_size f9 f8 g10_rows g10_columns f11 f12 f13 p1 p2) : Met l yL_drag wsL_drag rmL_drag (va_Pc [.ref a0, .int p1, .int p2, .ref a13] (wPreX dC dI cyI cyB cyJ cyZ sz (ceL_drag cyI cyB cyJ cyZ a0 a1 a2 a3 a4 a5 a6 a7 a8 a9 a10 a11 a12 a13 b0_tape b0_kept b0_draftGround b0_draftLaw b0_pack b0_pieces b0_thinning b1_marks b1_stroll n13 g0_imageKept g0_wrongByte g1_drawSeed g2_texts g7_lines g2_ways g2_wallCount f3 f4 f5 f6 g7_size f9 f8 g10_rows g10_columns f11 f12 f13) (txL adS))) (va_Qi post (fun u : (Nat → Int32) × Int32 × Int32 × (Nat → Int32) × (Nat → Int32) × (Nat → Int64) => wAt dC dI cyI cyB cyJ cyZ (va_A (ceL_drag cyI cyB cyJ cyZ a0 a1 a2 a3 a4 a5 a6 a7 a8 a9 a10 a11 a12 a13 b0_tape b0_kept b0_draftGround b0_draftLaw b0_pack b0_pieces b0_thinning b1_marks b1_stroll n13 g0_imageKept g0_wrongByte g1_drawSeed g2_texts g7_lines g2_ways g2_wallCount f3 f4 f5 f6 g7_size f9 f8 g10_rows g10_columns f11 f12 f13) sz) (ceL_drag cyI cyB cyJ cyZ a0 a1 a2 a3 a4 a5 a6 a7 a8 a9 a10 a11 a12 a13 b0_tape b0_kept b0_draftGround b0_draftLaw b0_pack b0_pieces b0_thinning b1_marks b1_stroll n13 g0_imageKept g0_wrongByte g1_drawSeed g2_texts g7_lines g2_ways g2_wallCount f3 f4 f5 f6 g7_size f9 u.1 u.2.1 u.2.2.1 u.2.2.2.1 u.2.2.2.2.1 u.2.2.2.2.2)) (va_A (ceL_drag cyI cyB cyJ cyZ a0 a1 a2 a3 a4 a5 a6 a7 a8 a9 a10 a11 a12 a13 b0_tape b0_kept b0_draftGround b0_draftLaw b0_pack b0_pieces b0_thinning b1_marks b1_stroll n13 g0_imageKept g0_wrongByte g1_drawSeed g2_texts g7_lines g2_ways g2_wallCount f3 f4 f5 f6 g7_size f9 f8 g10_rows g10_columns f11 f12 f13) sz)) 2 12 (va_A (ceL_drag cyI cyB cyJ cyZ a0 a1 a2 a3 a4 a5 a6 a7 a8 a9 a10 a11 a12 a13 b0_tape b0_kept b0_draftGround b0_draftLaw b0_pack b0_pieces b0_thinning b1_marks b1_stroll n13 g0_imageKept g0_wrongByte g1_drawSeed g2_texts g7_lines g2_ways g2_wallCount f3 f4 f5 f6 g7_size f9 f8 g10_rows g10_columns f11 f12 f13) sz) := by
  refine mt_ofWH (cc := cL_drag) (maxL := 5) (ret := (some .int)) (by decide) rfl ?_
  intro p e s m args below meth c s₁ B hml hv
  obtain ⟨rfl, ⟨hsz, hP, hK, hD0, hN⟩, hXs⟩ := hv
  have hx := B.exec
  have hb := B.bytes
  have hr := B.returns
  have hts := atoms_spec (ws := wsL_drag) B.pre
  have hown : s.vm.findClass RL = some m.cls := findClass_of_methodNamed B.named
  have hlocks := B.notSynchronized
  have htb := vx_table (x := yL_drag) B (hts _ (List.mem_of_getElem? (i := 0) rfl))
  subst hsz
  have hD := hD0.self (sz := s.heap.size)
  generalize hAe : va_A (ceL_drag cyI cyB cyJ cyZ a0 a1 a2 a3 a4 a5 a6 a7 a8 a9 a10 a11 a12 a13 b0_tape b0_kept b0_draftGround b0_draftLaw b0_pack b0_pieces b0_thinning b1_marks b1_stroll n13 g0_imageKept g0_wrongByte g1_drawSeed g2_texts g7_lines g2_ways g2_wallCount f3 f4 f5 f6 g7_size f9 f8 g10_rows g10_columns f11 f12 f13) s.heap.size = A at hD hXs ⊢
  have hA : ∀ q : Nat, s.heap.size ≤ q → A q := fun q h => by rw [← hAe]; exact Or.inr h
  have hS : va_S A s.heap s.heap [] := va_S.rf
  have C0 : cxM p s m meth c _ wsL_drag RL cL_drag 5 (some .int) := ⟨hx, hb, hr, hml, hown, hts, hlocks⟩
  have hl := lv_entry ([.ref a0, .int p1, .int p2, .ref a13]) (n := 5) (Nat.le_of_ble_eq_true rfl)
  rw [lg_entry_eq]
  generalize (lg_sl ([.ref a0, .int p1, .int p2, .ref a13]) ++ List.replicate (5 - (lg_sl ([.ref a0, .int p1, .int p2, .ref a13])).length) Slot.unset).toArray = ls at hl ⊢
  have hl : lv_has ls 5 [(0, .ref a0), (1, .int p1), (2, .int p2), (3, .ref a13)] := hl
  show W p l e rmL_drag s m _ below meth c _ _ _ _ _ _
  refine wq (fun Q hQ => ?_)
  refine lv_aload_n hx hb dL_drag_0 rfl (lv_at hl 3 rfl) ?_
  refine lv_iconst (v := 0) hx hb dL_drag_1 (by decide) ?_
  refine lv_aload_n hx hb dL_drag_2 rfl (lv_at hl 0 rfl) ?_
  refine lv_iload_n hx hb dL_drag_3 rfl (lv_at hl 1 rfl) ?_
  refine lv_iload_n hx hb dL_drag_4 rfl (lv_at hl 2 rfl) ?_
  have hPc := hP.sub (ws' := (ceX10_drag cyI cyB cyJ cyZ a0 a1 a2 a3 a4 a5 a6 a7 a8 a9 a10 a11 a12 b0_tape b0_kept b0_draftGround b0_draftLaw b0_pack b0_pieces b0_thinning b1_marks b1_stroll g0_imageKept g0_wrongByte g1_drawSeed g2_texts g7_lines g2_ways g2_wallCount f3 f4 f5 f6 g7_size f9 f8 g10_rows g10_columns f11 f12)) [0, 1, 2, 3, 4, 5, 6, 7, 8, 9, 10, 11, 12] rfl
  have hDc := hD.sub (ws' := (ceX10_drag cyI cyB cyJ cyZ a0 a1 a2 a3 a4 a5 a6 a7 a8 a9 a10 a11 a12 b0_tape b0_kept b0_draftGround b0_draftLaw b0_pack b0_pieces b0_thinning b1_marks b1_stroll g0_imageKept g0_wrongByte g1_drawSeed g2_texts g7_lines g2_ways g2_wallCount f3 f4 f5 f6 g7_size f9 f8 g10_rows g10_columns f11 f12)) [0, 1, 2, 3, 4, 5, 6, 7, 8, 9, 10, 11, 12] (by decide) rfl
  have hFc := va_free (wc := (ceX10_drag cyI cyB cyJ cyZ a0 a1 a2 a3 a4 a5 a6 a7 a8 a9 a10 a11 a12 b0_tape b0_kept b0_draftGround b0_draftLaw b0_pack b0_pieces b0_thinning b1_marks b1_stroll g0_imageKept g0_wrongByte g1_drawSeed g2_texts g7_lines g2_ways g2_wallCount f3 f4 f5 f6 g7_size f9 f8 g10_rows g10_columns f11 f12)) hD hS hA [0, 1, 2, 3, 4, 5, 6, 7, 8, 9, 10, 11, 12] rfl
  refine vx_calll (vx_runV (As := [.int p1, .int p2]) (rest := [.int 0, .ref a13]) ⟨hx, hb, hml, hown, hts⟩ (ctX10_drag l hl0 dC dI cyI cyB cyJ cyZ _ a0 a1 a2 a3 a4 a5 a6 a7 a8 a9 a10 a11 a12 b0_tape b0_kept b0_draftGround b0_draftLaw b0_pack b0_pieces b0_thinning b1_marks b1_stroll g0_imageKept g0_wrongByte g1_drawSeed g2_texts g7_lines g2_ways g2_wallCount f3 f4 f5 f6 g7_size f9 f8 g10_rows g10_columns f11 f12 p1 p2 _ _ adS hw) (cwV 2 hts gL_drag_X10_drag rfl rfl rfl (by decide +kernel) ⟨Nat.le_of_ble_eq_true rfl, Nat.le_of_ble_eq_true rfl⟩) ⟨wPreX_blind (xOk_txT adS), va_recv hK hPc (ci := 10) (q0 := 0) rfl rfl, fun U hU hW => wPreX_of (xOk_txT adS) hPc hK hDc hN hXs.1 hS hFc hU hW⟩ rfl rfl hl.1 rfl (lv_room (Nat.le_of_ble_eq_true rfl)) dL_drag_5 ⟨(by decide), (by decide)⟩) hS (fun q _ h => hFc q h) hFc (fun q _ h => hFc q h) (fun E ce q9 u1 t H1 locs ht hvm hpx hBX hz1 hk1 hS hce hcv hcl => ?_) (fun r2 u1 t H1 locs ht hvm hw hB hz1 hk1 hS => ?_)
  · obtain ⟨hw, hP1, hK1, hD1⟩ := hBX
    rw [ht] at hP1
    obtain ⟨hP, hD⟩ := va_join (wr := pickW (ceL_drag cyI cyB cyJ cyZ a0 a1 a2 a3 a4 a5 a6 a7 a8 a9 a10 a11 a12 a13 b0_tape b0_kept b0_draftGround b0_draftLaw b0_pack b0_pieces b0_thinning b1_marks b1_stroll n13 g0_imageKept g0_wrongByte g1_drawSeed g2_texts g7_lines g2_ways g2_wallCount f3 f4 f5 f6 g7_size f9 f8 g10_rows g10_columns f11 f12 f13) [13]) (w1 := (ceX10_drag cyI cyB cyJ cyZ a0 a1 a2 a3 a4 a5 a6 a7 a8 a9 a10 a11 a12 b0_tape b0_kept b0_draftGround b0_draftLaw b0_pack b0_pieces b0_thinning b1_marks b1_stroll g0_imageKept g0_wrongByte g1_drawSeed g2_texts g7_lines g2_ways g2_wallCount f3 f4 f5 f6 g7_size f9 u1.1 u1.2.1 u1.2.2.1 u1.2.2.2.1 u1.2.2.2.2)) hP hD [0, 1, 2, 3, 4, 5, 6, 7, 8, 9, 10, 11, 12] [13] rfl rfl (by decide) (by decide) hk1 hFc hP1 hD1
    have hP := hP.sub (ws' := (ceL_drag cyI cyB cyJ cyZ a0 a1 a2 a3 a4 a5 a6 a7 a8 a9 a10 a11 a12 a13 b0_tape b0_kept b0_draftGround b0_draftLaw b0_pack b0_pieces b0_thinning b1_marks b1_stroll n13 g0_imageKept g0_wrongByte g1_drawSeed g2_texts g7_lines g2_ways g2_wallCount f3 f4 f5 f6 g7_size f9 u1.1 u1.2.1 u1.2.2.1 u1.2.2.2.1 u1.2.2.2.2 f13)) [1, 2, 3, 4, 5, 6, 7, 8, 9, 10, 11, 12, 13, 0] rfl
    have hD := hD.sub (ws' := (ceL_drag cyI cyB cyJ cyZ a0 a1 a2 a3 a4 a5 a6 a7 a8 a9 a10 a11 a12 a13 b0_tape b0_kept b0_draftGround b0_draftLaw b0_pack b0_pieces b0_thinning b1_marks b1_stroll n13 g0_imageKept g0_wrongByte g1_drawSeed g2_texts g7_lines g2_ways g2_wallCount f3 f4 f5 f6 g7_size f9 u1.1 u1.2.1 u1.2.2.1 u1.2.2.2.1 u1.2.2.2.2 f13)) [1, 2, 3, 4, 5, 6, 7, 8, 9, 10, 11, 12, 13, 0] (by decide) rfl
    obtain ⟨hw0, hE⟩ := hw
    subst hE
    have hw := hw0 rfl
    refine ec_catch (name := "java/lang/IndexOutOfBoundsException") hown [] _ _ (htb.trans rfl) (fun z hz => by cases hz) (by decide) (by decide) (hts (.classLink RL 24 "java/lang/IndexOutOfBoundsException") (List.mem_of_getElem? (i := 1) rfl)) (va_Nw.use rfl (hXs.1.2.2.2 (.castable "java/lang/IndexOutOfBoundsException" "java/lang/IndexOutOfBoundsException") (by decide +kernel))) hce hcv hcl ?_
    refine W.eq (g2 := F0 m 12 ls [.ref q9]) rfl ?_
    refine lv_astore (lv' := [(4, .ref q9), (0, .ref a0), (1, .int p1), (2, .int p2), (3, .ref a13)]) hx hb dL_drag_12 hl (by decide) rfl (fun ls hl => ?_)
    refine lv_iconst (v := 1) hx hb dL_drag_14 (by decide) ?_
    rw [hQ]
    refine W.widen (k := 2) (n := 12) (by decide) (by decide) ?_
    exact W.iret (v := 1) hx hb hr (fun t ht hW => ⟨⟨1, (u1.1, u1.2.1, u1.2.2.1, u1.2.2.2.1, u1.2.2.2.2, f13), rfl, hw, by rw [ht]; exact hP, va_K.moved hW.alike hK, hD⟩, hS.F ht⟩) hS.2.2 dL_drag_15
  -- returned
  obtain ⟨hP1, hK1, hD1⟩ := hB
  rw [ht] at hP1
  obtain ⟨hP, hD⟩ := va_join (wr := pickW (ceL_drag cyI cyB cyJ cyZ a0 a1 a2 a3 a4 a5 a6 a7 a8 a9 a10 a11 a12 a13 b0_tape b0_kept b0_draftGround b0_draftLaw b0_pack b0_pieces b0_thinning b1_marks b1_stroll n13 g0_imageKept g0_wrongByte g1_drawSeed g2_texts g7_lines g2_ways g2_wallCount f3 f4 f5 f6 g7_size f9 f8 g10_rows g10_columns f11 f12 f13) [13]) (w1 := (ceX10_drag cyI cyB cyJ cyZ a0 a1 a2 a3 a4 a5 a6 a7 a8 a9 a10 a11 a12 b0_tape b0_kept b0_draftGround b0_draftLaw b0_pack b0_pieces b0_thinning b1_marks b1_stroll g0_imageKept g0_wrongByte g1_drawSeed g2_texts g7_lines g2_ways g2_wallCount f3 f4 f5 f6 g7_size f9 u1.1 u1.2.1 u1.2.2.1 u1.2.2.2.1 u1.2.2.2.2)) hP hD [0, 1, 2, 3, 4, 5, 6, 7, 8, 9, 10, 11, 12] [13] rfl rfl (by decide) (by decide) hk1 hFc hP1 hD1
  have hP := hP.sub (ws' := (ceL_drag cyI cyB cyJ cyZ a0 a1 a2 a3 a4 a5 a6 a7 a8 a9 a10 a11 a12 a13 b0_tape b0_kept b0_draftGround b0_draftLaw b0_pack b0_pieces b0_thinning b1_marks b1_stroll n13 g0_imageKept g0_wrongByte g1_drawSeed g2_texts g7_lines g2_ways g2_wallCount f3 f4 f5 f6 g7_size f9 u1.1 u1.2.1 u1.2.2.1 u1.2.2.2.1 u1.2.2.2.2 f13)) [1, 2, 3, 4, 5, 6, 7, 8, 9, 10, 11, 12, 13, 0] rfl
  have hD := hD.sub (ws' := (ceL_drag cyI cyB cyJ cyZ a0 a1 a2 a3 a4 a5 a6 a7 a8 a9 a10 a11 a12 a13 b0_tape b0_kept b0_draftGround b0_draftLaw b0_pack b0_pieces b0_thinning b1_marks b1_stroll n13 g0_imageKept g0_wrongByte g1_drawSeed g2_texts g7_lines g2_ways g2_wallCount f3 f4 f5 f6 g7_size f9 u1.1 u1.2.1 u1.2.2.1 u1.2.2.2.1 u1.2.2.2.2 f13)) [1, 2, 3, 4, 5, 6, 7, 8, 9, 10, 11, 12, 13, 0] (by decide) rfl
  generalize H1 = H at hP hS ⊢
  refine W.widen (k := 2) (n := 12) (by decide) (by decide) ?_
  obtain ⟨hi, hw⟩ := hw
  refine va_last hx hb hK hP hD hS 13 2 rfl rfl hi dL_drag_8 (fun H locs hP hD hS => ?_)
  have hP : va_P (dC, dI) vwCl (ceL_drag cyI cyB cyJ cyZ a0 a1 a2 a3 a4 a5 a6 a7 a8 a9 a10 a11 a12 a13 b0_tape b0_kept b0_draftGround b0_draftLaw b0_pack b0_pieces b0_thinning b1_marks b1_stroll n13 g0_imageKept g0_wrongByte g1_drawSeed g2_texts g7_lines g2_ways g2_wallCount f3 f4 f5 f6 g7_size f9 u1.1 u1.2.1 u1.2.2.1 u1.2.2.2.1 u1.2.2.2.2 (vp_updL f13 (0 : Int32).toNatClampNeg r2)) H := hP
  have hD : va_D A (ceL_drag cyI cyB cyJ cyZ a0 a1 a2 a3 a4 a5 a6 a7 a8 a9 a10 a11 a12 a13 b0_tape b0_kept b0_draftGround b0_draftLaw b0_pack b0_pieces b0_thinning b1_marks b1_stroll n13 g0_imageKept g0_wrongByte g1_drawSeed g2_texts g7_lines g2_ways g2_wallCount f3 f4 f5 f6 g7_size f9 u1.1 u1.2.1 u1.2.2.1 u1.2.2.2.1 u1.2.2.2.2 (vp_updL f13 (0 : Int32).toNatClampNeg r2)) := hD
  refine lv_goto (tgt := 16) hx hb dL_drag_9 (by decide) ?_
  refine lv_iconst (v := 0) hx hb dL_drag_16 (by decide) ?_
  rw [hQ]
  refine W.widen (k := 2) (n := 12) (by decide) (by decide) ?_
  exact W.iret (v := 0) hx hb hr (fun t ht hW => ⟨⟨0, (u1.1, u1.2.1, u1.2.2.1, u1.2.2.2.1, u1.2.2.2.2, (vp_updL f13 (0 : Int32).toNatClampNeg r2)), rfl, hw, by rw [ht]; exact hP, va_K.moved hW.alike hK, hD⟩, hS.F ht⟩) hS.2.2 dL_drag_17
/-! LeadParkLaw.nearest (LLeadPark;II[J)I -/
abbrev ceL_nearest (cyI cyB cyJ cyZ : ClassId) (a0 a1 a2 a3 a4 a5 a6 a7 a8 a9 a10 a11 a12 a13 b0_tape b0_kept b0_draftGround b0_draftLaw b0_pack b0_pieces b0_thinning b1_marks b1_stroll n13 : Nat) (g0_imageKept : Int32) (g0_wrongByte : Int32) (g1_drawSeed : Int32) (g2_texts : Int32) (g7_lines : Int32) (g2_ways : Int32) (g2_wallCount : Int32) (f3 : Nat → Int32) (f4 : Nat → Int32) (f5 : Nat → Int32) (f6 : Nat → Int32) (g7_size : Int32) (f9 : Nat → Int32) (f8 : Nat → Int32) (g10_rows : Int32) (g10_columns : Int32) (f11 : Nat → Int32) (f12 : Nat → Int32) (f13 : Nat → Int64) : va_W := [(a0, .inr (10, [.ref b0_tape, .ref a1, .ref b0_kept, .ref b0_draftGround, .ref b0_draftLaw, .ref a10, .ref b0_pack, .ref b0_pieces, .ref b0_thinning, .int g0_imageKept, .int g0_wrongByte])), (a1, .inr (6, [.ref a2, .ref a7, .ref b1_marks, .ref b1_stroll, .int g1_drawSeed])), (a2, .inr (1, [.ref a4, .ref a5, .ref a3, .ref a6, .int g2_ways, .int g2_wallCount, .int g2_texts])), (a3, .inl (cyI, 12, .inl f3)), (a4, .inl (cyI, 360, .inl f4)), (a5, .inl (cyI, 360, .inl f5)), (a6, .inl (cyI, 32, .inl f6)), (a7, .inr (2, [.ref a9, .ref a8, .int g7_size, .int g7_lines])), (a8, .inl (cyI, 7, .inl f8)), (a9, .inl (cyI, 400, .inl f9)), (a10, .inr (0, [.ref a11, .ref a12, .int g10_rows, .int g10_columns])), (a11, .inl (cyI, 1089, .inl f11)), (a12, .inl (cyI, 1089, .inl f12)), (a13, .inl (cyJ, n13, .inr (.inl f13)))]

abbrev rmL_nearest : Room := { frames := 8, cells := 1, slots := 6, locals := 223 }
set_option maxRecDepth 100000 in
set_option maxHeartbeats 4000000 in
theorem ctL_nearest (l : Launch) (hl0 : l.stackTraces = false) (dC : Nat → ClassId) (dI : Nat → Nat → Nat) (cyI cyB cyJ cyZ : ClassId) (sz : Nat) (a0 a1 a2 a3 a4 a5 a6 a7 a8 a9 a10 a11 a12 a13 b0_tape b0_kept b0_draftGround b0_draftLaw b0_pack b0_pieces b0_thinning b1_marks b1_stroll n13 : Nat) (g0_imageKept : Int32) (g0_wrongByte : Int32) (g1_drawSeed : Int32) (g2_texts : Int32) (g7_lines : Int32) (g2_ways : Int32) (g2_wallCount : Int32) (f3 : Nat → Int32) (f4 : Nat → Int32) (f5 : Nat → Int32) (f6 : Nat → Int32) (g7_size : Int32) (f9 : Nat → Int32) (f8 : Nat → Int32) (g10_rows : Int32) (g10_columns : Int32) (f11 : Nat → Int32) (f12 : Nat → Int32) (f13 : Nat → Int64) (p1 : Int32) (p2 : Int32) (post : Int32 → ((Nat → Int32) × Int32 × Int32 × (Nat → Int32) × (Nat → Int32) × (Nat → Int64)) → Prop) (adS : Nat → Nat) (hw : wpL_nearest n13 post g2_ways g2_wallCount f3 f4 f5 f6 g7_size f9 f8 g10_rows g10_columns f11 f12 f13 p1 p2) : Met l yL_nearest wsL_nearest rmL_nearest (va_Pc [.ref a0, .int p1, .int p2, .ref a13] (wPreX dC dI cyI cyB cyJ cyZ sz (ceL_nearest cyI cyB cyJ cyZ a0 a1 a2 a3 a4 a5 a6 a7 a8 a9 a10 a11 a12 a13 b0_tape b0_kept b0_draftGround b0_draftLaw b0_pack b0_pieces b0_thinning b1_marks b1_stroll n13 g0_imageKept g0_wrongByte g1_drawSeed g2_texts g7_lines g2_ways g2_wallCount f3 f4 f5 f6 g7_size f9 f8 g10_rows g10_columns f11 f12 f13) (txL adS))) (va_Qi post (fun u : (Nat → Int32) × Int32 × Int32 × (Nat → Int32) × (Nat → Int32) × (Nat → Int64) => wAt dC dI cyI cyB cyJ cyZ (va_A (ceL_nearest cyI cyB cyJ cyZ a0 a1 a2 a3 a4 a5 a6 a7 a8 a9 a10 a11 a12 a13 b0_tape b0_kept b0_draftGround b0_draftLaw b0_pack b0_pieces b0_thinning b1_marks b1_stroll n13 g0_imageKept g0_wrongByte g1_drawSeed g2_texts g7_lines g2_ways g2_wallCount f3 f4 f5 f6 g7_size f9 f8 g10_rows g10_columns f11 f12 f13) sz) (ceL_nearest cyI cyB cyJ cyZ a0 a1 a2 a3 a4 a5 a6 a7 a8 a9 a10 a11 a12 a13 b0_tape b0_kept b0_draftGround b0_draftLaw b0_pack b0_pieces b0_thinning b1_marks b1_stroll n13 g0_imageKept g0_wrongByte g1_drawSeed g2_texts g7_lines g2_ways g2_wallCount f3 f4 f5 f6 g7_size f9 u.1 u.2.1 u.2.2.1 u.2.2.2.1 u.2.2.2.2.1 u.2.2.2.2.2)) (va_A (ceL_nearest cyI cyB cyJ cyZ a0 a1 a2 a3 a4 a5 a6 a7 a8 a9 a10 a11 a12 a13 b0_tape b0_kept b0_draftGround b0_draftLaw b0_pack b0_pieces b0_thinning b1_marks b1_stroll n13 g0_imageKept g0_wrongByte g1_drawSeed g2_texts g7_lines g2_ways g2_wallCount f3 f4 f5 f6 g7_size f9 f8 g10_rows g10_columns f11 f12 f13) sz)) 1 6 (va_A (ceL_nearest cyI cyB cyJ cyZ a0 a1 a2 a3 a4 a5 a6 a7 a8 a9 a10 a11 a12 a13 b0_tape b0_kept b0_draftGround b0_draftLaw b0_pack b0_pieces b0_thinning b1_marks b1_stroll n13 g0_imageKept g0_wrongByte g1_drawSeed g2_texts g7_lines g2_ways g2_wallCount f3 f4 f5 f6 g7_size f9 f8 g10_rows g10_columns f11 f12 f13) sz) := by
  refine mt_ofWH (cc := cL_nearest) (maxL := 5) (ret := (some .int)) (by decide) rfl ?_
  intro p e s m args below meth c s₁ B hml hv
  obtain ⟨rfl, ⟨hsz, hP, hK, hD0, hN⟩, hXs⟩ := hv
  have hx := B.exec
  have hb := B.bytes
  have hr := B.returns
  have hts := atoms_spec (ws := wsL_nearest) B.pre
  have hown : s.vm.findClass RL = some m.cls := findClass_of_methodNamed B.named
  have hlocks := B.notSynchronized
  have htb := vx_table (x := yL_nearest) B (hts _ (List.mem_of_getElem? (i := 0) rfl))
  subst hsz
  have hD := hD0.self (sz := s.heap.size)
  generalize hAe : va_A (ceL_nearest cyI cyB cyJ cyZ a0 a1 a2 a3 a4 a5 a6 a7 a8 a9 a10 a11 a12 a13 b0_tape b0_kept b0_draftGround b0_draftLaw b0_pack b0_pieces b0_thinning b1_marks b1_stroll n13 g0_imageKept g0_wrongByte g1_drawSeed g2_texts g7_lines g2_ways g2_wallCount f3 f4 f5 f6 g7_size f9 f8 g10_rows g10_columns f11 f12 f13) s.heap.size = A at hD hXs ⊢
  have hA : ∀ q : Nat, s.heap.size ≤ q → A q := fun q h => by rw [← hAe]; exact Or.inr h
  have hS : va_S A s.heap s.heap [] := va_S.rf
  have C0 : cxM p s m meth c _ wsL_nearest RL cL_nearest 5 (some .int) := ⟨hx, hb, hr, hml, hown, hts, hlocks⟩
  have hl := lv_entry ([.ref a0, .int p1, .int p2, .ref a13]) (n := 5) (Nat.le_of_ble_eq_true rfl)
  rw [lg_entry_eq]
  generalize (lg_sl ([.ref a0, .int p1, .int p2, .ref a13]) ++ List.replicate (5 - (lg_sl ([.ref a0, .int p1, .int p2, .ref a13])).length) Slot.unset).toArray = ls at hl ⊢
  have hl : lv_has ls 5 [(0, .ref a0), (1, .int p1), (2, .int p2), (3, .ref a13)] := hl
  show W p l e rmL_nearest s m _ below meth c _ _ _ _ _ _
  refine wq (fun Q hQ => ?_)
  refine lv_aload_n hx hb dL_nearest_0 rfl (lv_at hl 3 rfl) ?_
  refine lv_iconst (v := 0) hx hb dL_nearest_1 (by decide) ?_
  refine lv_aload_n hx hb dL_nearest_2 rfl (lv_at hl 0 rfl) ?_
  refine lv_iload_n hx hb dL_nearest_3 rfl (lv_at hl 1 rfl) ?_
  refine lv_iload_n hx hb dL_nearest_4 rfl (lv_at hl 2 rfl) ?_
  have hPc := hP.sub (ws' := (ceX10_nearest cyI cyB cyJ cyZ a0 a1 a2 a3 a4 a5 a6 a7 a8 a9 a10 a11 a12 b0_tape b0_kept b0_draftGround b0_draftLaw b0_pack b0_pieces b0_thinning b1_marks b1_stroll g0_imageKept g0_wrongByte g1_drawSeed g2_texts g7_lines g2_ways g2_wallCount f3 f4 f5 f6 g7_size f9 f8 g10_rows g10_columns f11 f12)) [0, 1, 2, 3, 4, 5, 6, 7, 8, 9, 10, 11, 12] rfl
  have hDc := hD.sub (ws' := (ceX10_nearest cyI cyB cyJ cyZ a0 a1 a2 a3 a4 a5 a6 a7 a8 a9 a10 a11 a12 b0_tape b0_kept b0_draftGround b0_draftLaw b0_pack b0_pieces b0_thinning b1_marks b1_stroll g0_imageKept g0_wrongByte g1_drawSeed g2_texts g7_lines g2_ways g2_wallCount f3 f4 f5 f6 g7_size f9 f8 g10_rows g10_columns f11 f12)) [0, 1, 2, 3, 4, 5, 6, 7, 8, 9, 10, 11, 12] (by decide) rfl
  have hFc := va_free (wc := (ceX10_nearest cyI cyB cyJ cyZ a0 a1 a2 a3 a4 a5 a6 a7 a8 a9 a10 a11 a12 b0_tape b0_kept b0_draftGround b0_draftLaw b0_pack b0_pieces b0_thinning b1_marks b1_stroll g0_imageKept g0_wrongByte g1_drawSeed g2_texts g7_lines g2_ways g2_wallCount f3 f4 f5 f6 g7_size f9 f8 g10_rows g10_columns f11 f12)) hD hS hA [0, 1, 2, 3, 4, 5, 6, 7, 8, 9, 10, 11, 12] rfl
  refine vx_calli (vx_runV (As := [.int p1, .int p2]) (rest := [.int 0, .ref a13]) ⟨hx, hb, hml, hown, hts⟩ (ctX10_nearest l hl0 dC dI cyI cyB cyJ cyZ _ a0 a1 a2 a3 a4 a5 a6 a7 a8 a9 a10 a11 a12 b0_tape b0_kept b0_draftGround b0_draftLaw b0_pack b0_pieces b0_thinning b1_marks b1_stroll g0_imageKept g0_wrongByte g1_drawSeed g2_texts g7_lines g2_ways g2_wallCount f3 f4 f5 f6 g7_size f9 f8 g10_rows g10_columns f11 f12 p1 p2 _ _ adS hw) (cwV 2 hts gL_nearest_X10_nearest rfl rfl rfl (by decide +kernel) ⟨Nat.le_of_ble_eq_true rfl, Nat.le_of_ble_eq_true rfl⟩) ⟨wPreX_blind (xOk_txT adS), va_recv hK hPc (ci := 10) (q0 := 0) rfl rfl, fun U hU hW => wPreX_of (xOk_txT adS) hPc hK hDc hN hXs.1 hS hFc hU hW⟩ rfl rfl hl.1 rfl (lv_room (Nat.le_of_ble_eq_true rfl)) dL_nearest_5 ⟨(by decide), (by decide)⟩) hS (fun q _ h => hFc q h) hFc (fun q _ h => hFc q h) (fun E ce q9 u1 t H1 locs ht hvm hpx hBX hz1 hk1 hS hce hcv hcl => ?_) (fun r2 u1 t H1 locs ht hvm hw hB hz1 hk1 hS => ?_)
  · obtain ⟨hw, hP1, hK1, hD1⟩ := hBX
    rw [ht] at hP1
    obtain ⟨hP, hD⟩ := va_join (wr := pickW (ceL_nearest cyI cyB cyJ cyZ a0 a1 a2 a3 a4 a5 a6 a7 a8 a9 a10 a11 a12 a13 b0_tape b0_kept b0_draftGround b0_draftLaw b0_pack b0_pieces b0_thinning b1_marks b1_stroll n13 g0_imageKept g0_wrongByte g1_drawSeed g2_texts g7_lines g2_ways g2_wallCount f3 f4 f5 f6 g7_size f9 f8 g10_rows g10_columns f11 f12 f13) [13]) (w1 := (ceX10_nearest cyI cyB cyJ cyZ a0 a1 a2 a3 a4 a5 a6 a7 a8 a9 a10 a11 a12 b0_tape b0_kept b0_draftGround b0_draftLaw b0_pack b0_pieces b0_thinning b1_marks b1_stroll g0_imageKept g0_wrongByte g1_drawSeed g2_texts g7_lines g2_ways g2_wallCount f3 f4 f5 f6 g7_size f9 u1.1 u1.2.1 u1.2.2.1 u1.2.2.2.1 u1.2.2.2.2)) hP hD [0, 1, 2, 3, 4, 5, 6, 7, 8, 9, 10, 11, 12] [13] rfl rfl (by decide) (by decide) hk1 hFc hP1 hD1
    have hP := hP.sub (ws' := (ceL_nearest cyI cyB cyJ cyZ a0 a1 a2 a3 a4 a5 a6 a7 a8 a9 a10 a11 a12 a13 b0_tape b0_kept b0_draftGround b0_draftLaw b0_pack b0_pieces b0_thinning b1_marks b1_stroll n13 g0_imageKept g0_wrongByte g1_drawSeed g2_texts g7_lines g2_ways g2_wallCount f3 f4 f5 f6 g7_size f9 u1.1 u1.2.1 u1.2.2.1 u1.2.2.2.1 u1.2.2.2.2 f13)) [1, 2, 3, 4, 5, 6, 7, 8, 9, 10, 11, 12, 13, 0] rfl
    have hD := hD.sub (ws' := (ceL_nearest cyI cyB cyJ cyZ a0 a1 a2 a3 a4 a5 a6 a7 a8 a9 a10 a11 a12 a13 b0_tape b0_kept b0_draftGround b0_draftLaw b0_pack b0_pieces b0_thinning b1_marks b1_stroll n13 g0_imageKept g0_wrongByte g1_drawSeed g2_texts g7_lines g2_ways g2_wallCount f3 f4 f5 f6 g7_size f9 u1.1 u1.2.1 u1.2.2.1 u1.2.2.2.1 u1.2.2.2.2 f13)) [1, 2, 3, 4, 5, 6, 7, 8, 9, 10, 11, 12, 13, 0] (by decide) rfl
    obtain ⟨hw0, hE⟩ := hw
    subst hE
    have hw := hw0 rfl
    refine ec_catch (name := "java/lang/IndexOutOfBoundsException") hown [] _ _ (htb.trans rfl) (fun z hz => by cases hz) (by decide) (by decide) (hts (.classLink RL 24 "java/lang/IndexOutOfBoundsException") (List.mem_of_getElem? (i := 1) rfl)) (va_Nw.use rfl (hXs.1.2.2.2 (.castable "java/lang/IndexOutOfBoundsException" "java/lang/IndexOutOfBoundsException") (by decide +kernel))) hce hcv hcl ?_
    refine W.eq (g2 := F0 m 13 ls [.ref q9]) rfl ?_
    refine lv_astore (lv' := [(4, .ref q9), (0, .ref a0), (1, .int p1), (2, .int p2), (3, .ref a13)]) hx hb dL_nearest_13 hl (by decide) rfl (fun ls hl => ?_)
    refine lv_iconst (v := 1) hx hb dL_nearest_15 (by decide) ?_
    rw [hQ]
    refine W.widen (k := 1) (n := 6) (by decide) (by decide) ?_
    exact W.iret (v := 1) hx hb hr (fun t ht hW => ⟨⟨1, (u1.1, u1.2.1, u1.2.2.1, u1.2.2.2.1, u1.2.2.2.2, f13), rfl, hw, by rw [ht]; exact hP, va_K.moved hW.alike hK, hD⟩, hS.F ht⟩) hS.2.2 dL_nearest_16
  -- returned
  obtain ⟨hP1, hK1, hD1⟩ := hB
  rw [ht] at hP1
  obtain ⟨hP, hD⟩ := va_join (wr := pickW (ceL_nearest cyI cyB cyJ cyZ a0 a1 a2 a3 a4 a5 a6 a7 a8 a9 a10 a11 a12 a13 b0_tape b0_kept b0_draftGround b0_draftLaw b0_pack b0_pieces b0_thinning b1_marks b1_stroll n13 g0_imageKept g0_wrongByte g1_drawSeed g2_texts g7_lines g2_ways g2_wallCount f3 f4 f5 f6 g7_size f9 f8 g10_rows g10_columns f11 f12 f13) [13]) (w1 := (ceX10_nearest cyI cyB cyJ cyZ a0 a1 a2 a3 a4 a5 a6 a7 a8 a9 a10 a11 a12 b0_tape b0_kept b0_draftGround b0_draftLaw b0_pack b0_pieces b0_thinning b1_marks b1_stroll g0_imageKept g0_wrongByte g1_drawSeed g2_texts g7_lines g2_ways g2_wallCount f3 f4 f5 f6 g7_size f9 u1.1 u1.2.1 u1.2.2.1 u1.2.2.2.1 u1.2.2.2.2)) hP hD [0, 1, 2, 3, 4, 5, 6, 7, 8, 9, 10, 11, 12] [13] rfl rfl (by decide) (by decide) hk1 hFc hP1 hD1
  have hP := hP.sub (ws' := (ceL_nearest cyI cyB cyJ cyZ a0 a1 a2 a3 a4 a5 a6 a7 a8 a9 a10 a11 a12 a13 b0_tape b0_kept b0_draftGround b0_draftLaw b0_pack b0_pieces b0_thinning b1_marks b1_stroll n13 g0_imageKept g0_wrongByte g1_drawSeed g2_texts g7_lines g2_ways g2_wallCount f3 f4 f5 f6 g7_size f9 u1.1 u1.2.1 u1.2.2.1 u1.2.2.2.1 u1.2.2.2.2 f13)) [1, 2, 3, 4, 5, 6, 7, 8, 9, 10, 11, 12, 13, 0] rfl
  have hD := hD.sub (ws' := (ceL_nearest cyI cyB cyJ cyZ a0 a1 a2 a3 a4 a5 a6 a7 a8 a9 a10 a11 a12 a13 b0_tape b0_kept b0_draftGround b0_draftLaw b0_pack b0_pieces b0_thinning b1_marks b1_stroll n13 g0_imageKept g0_wrongByte g1_drawSeed g2_texts g7_lines g2_ways g2_wallCount f3 f4 f5 f6 g7_size f9 u1.1 u1.2.1 u1.2.2.1 u1.2.2.2.1 u1.2.2.2.2 f13)) [1, 2, 3, 4, 5, 6, 7, 8, 9, 10, 11, 12, 13, 0] (by decide) rfl
  generalize H1 = H at hP hS ⊢
  refine W.widen (k := 1) (n := 6) (by decide) (by decide) ?_
  refine lv_i2l hx hb dL_nearest_8 rfl ?_
  obtain ⟨hi, hw⟩ := hw
  refine va_last hx hb hK hP hD hS 13 2 rfl rfl hi dL_nearest_9 (fun H locs hP hD hS => ?_)
  have hP : va_P (dC, dI) vwCl (ceL_nearest cyI cyB cyJ cyZ a0 a1 a2 a3 a4 a5 a6 a7 a8 a9 a10 a11 a12 a13 b0_tape b0_kept b0_draftGround b0_draftLaw b0_pack b0_pieces b0_thinning b1_marks b1_stroll n13 g0_imageKept g0_wrongByte g1_drawSeed g2_texts g7_lines g2_ways g2_wallCount f3 f4 f5 f6 g7_size f9 u1.1 u1.2.1 u1.2.2.1 u1.2.2.2.1 u1.2.2.2.2 (vp_updL f13 (0 : Int32).toNatClampNeg (r2.toInt64))) H := hP
  have hD : va_D A (ceL_nearest cyI cyB cyJ cyZ a0 a1 a2 a3 a4 a5 a6 a7 a8 a9 a10 a11 a12 a13 b0_tape b0_kept b0_draftGround b0_draftLaw b0_pack b0_pieces b0_thinning b1_marks b1_stroll n13 g0_imageKept g0_wrongByte g1_drawSeed g2_texts g7_lines g2_ways g2_wallCount f3 f4 f5 f6 g7_size f9 u1.1 u1.2.1 u1.2.2.1 u1.2.2.2.1 u1.2.2.2.2 (vp_updL f13 (0 : Int32).toNatClampNeg (r2.toInt64))) := hD
  refine lv_goto (tgt := 17) hx hb dL_nearest_10 (by decide) ?_
  refine lv_iconst (v := 0) hx hb dL_nearest_17 (by decide) ?_
  rw [hQ]
  refine W.widen (k := 1) (n := 6) (by decide) (by decide) ?_
  exact W.iret (v := 0) hx hb hr (fun t ht hW => ⟨⟨0, (u1.1, u1.2.1, u1.2.2.1, u1.2.2.2.1, u1.2.2.2.2, (vp_updL f13 (0 : Int32).toNatClampNeg (r2.toInt64))), rfl, hw, by rw [ht]; exact hP, va_K.moved hW.alike hK, hD⟩, hS.F ht⟩) hS.2.2 dL_nearest_18
/-! LeadParkLaw.fewer (LLeadPark;II[J)I -/
abbrev ceL_fewer (cyI cyB cyJ cyZ : ClassId) (a0 a1 a2 a3 a4 a5 a6 a7 a8 a9 b0_tape b0_kept b0_draftGround b0_draftLaw b0_grid b0_pack b0_pieces b1_law b1_marks b1_stroll b2_walls n9 : Nat) (g0_imageKept : Int32) (g0_wrongByte : Int32) (g1_drawSeed : Int32) (g2_wallCount : Int32) (g2_texts : Int32) (g2_ways : Int32) (f3 : Nat → Int32) (f4 : Nat → Int32) (f5 : Nat → Int32) (f7 : Nat → Int32) (f8 : Nat → Int32) (f9 : Nat → Int64) : va_W := [(a0, .inr (10, [.ref b0_tape, .ref a1, .ref b0_kept, .ref b0_draftGround, .ref b0_draftLaw, .ref b0_grid, .ref b0_pack, .ref b0_pieces, .ref a6, .int g0_imageKept, .int g0_wrongByte])), (a1, .inr (6, [.ref a2, .ref b1_law, .ref b1_marks, .ref b1_stroll, .int g1_drawSeed])), (a2, .inr (1, [.ref a4, .ref a5, .ref a3, .ref b2_walls, .int g2_ways, .int g2_wallCount, .int g2_texts])), (a3, .inl (cyI, 12, .inl f3)), (a4, .inl (cyI, 360, .inl f4)), (a5, .inl (cyI, 360, .inl f5)), (a6, .inr (9, [.ref a7, .ref a8])), (a7, .inl (cyI, 961, .inl f7)), (a8, .inl (cyI, 31, .inl f8)), (a9, .inl (cyJ, n9, .inr (.inl f9)))]

abbrev rmL_fewer : Room := { frames := 8, cells := 2, slots := 12, locals := 143 }
set_option maxRecDepth 100000 in
set_option maxHeartbeats 4000000 in
theorem ctL_fewer (l : Launch) (hl0 : l.stackTraces = false) (dC : Nat → ClassId) (dI : Nat → Nat → Nat) (cyI cyB cyJ cyZ : ClassId) (sz : Nat) (a0 a1 a2 a3 a4 a5 a6 a7 a8 a9 b0_tape b0_kept b0_draftGround b0_draftLaw b0_grid b0_pack b0_pieces b1_law b1_marks b1_stroll b2_walls n9 : Nat) (g0_imageKept : Int32) (g0_wrongByte : Int32) (g1_drawSeed : Int32) (g2_wallCount : Int32) (g2_texts : Int32) (g2_ways : Int32) (f3 : Nat → Int32) (f4 : Nat → Int32) (f5 : Nat → Int32) (f7 : Nat → Int32) (f8 : Nat → Int32) (f9 : Nat → Int64) (p1 : Int32) (p2 : Int32) (post : Int32 → ((Nat → Int32) × (Nat → Int32) × (Nat → Int64)) → Prop) (adS : Nat → Nat) (hw : wpL_fewer n9 post g2_ways f3 f4 f5 f7 f8 f9 p1 p2) : Met l yL_fewer wsL_fewer rmL_fewer (va_Pc [.ref a0, .int p1, .int p2, .ref a9] (wPreX dC dI cyI cyB cyJ cyZ sz (ceL_fewer cyI cyB cyJ cyZ a0 a1 a2 a3 a4 a5 a6 a7 a8 a9 b0_tape b0_kept b0_draftGround b0_draftLaw b0_grid b0_pack b0_pieces b1_law b1_marks b1_stroll b2_walls n9 g0_imageKept g0_wrongByte g1_drawSeed g2_wallCount g2_texts g2_ways f3 f4 f5 f7 f8 f9) (txL adS))) (va_Qi post (fun u : (Nat → Int32) × (Nat → Int32) × (Nat → Int64) => wAt dC dI cyI cyB cyJ cyZ (va_A (ceL_fewer cyI cyB cyJ cyZ a0 a1 a2 a3 a4 a5 a6 a7 a8 a9 b0_tape b0_kept b0_draftGround b0_draftLaw b0_grid b0_pack b0_pieces b1_law b1_marks b1_stroll b2_walls n9 g0_imageKept g0_wrongByte g1_drawSeed g2_wallCount g2_texts g2_ways f3 f4 f5 f7 f8 f9) sz) (ceL_fewer cyI cyB cyJ cyZ a0 a1 a2 a3 a4 a5 a6 a7 a8 a9 b0_tape b0_kept b0_draftGround b0_draftLaw b0_grid b0_pack b0_pieces b1_law b1_marks b1_stroll b2_walls n9 g0_imageKept g0_wrongByte g1_drawSeed g2_wallCount g2_texts g2_ways f3 f4 f5 u.1 u.2.1 u.2.2)) (va_A (ceL_fewer cyI cyB cyJ cyZ a0 a1 a2 a3 a4 a5 a6 a7 a8 a9 b0_tape b0_kept b0_draftGround b0_draftLaw b0_grid b0_pack b0_pieces b1_law b1_marks b1_stroll b2_walls n9 g0_imageKept g0_wrongByte g1_drawSeed g2_wallCount g2_texts g2_ways f3 f4 f5 f7 f8 f9) sz)) 2 12 (va_A (ceL_fewer cyI cyB cyJ cyZ a0 a1 a2 a3 a4 a5 a6 a7 a8 a9 b0_tape b0_kept b0_draftGround b0_draftLaw b0_grid b0_pack b0_pieces b1_law b1_marks b1_stroll b2_walls n9 g0_imageKept g0_wrongByte g1_drawSeed g2_wallCount g2_texts g2_ways f3 f4 f5 f7 f8 f9) sz) := by
  refine mt_ofWH (cc := cL_fewer) (maxL := 5) (ret := (some .int)) (by decide) rfl ?_
  intro p e s m args below meth c s₁ B hml hv
  obtain ⟨rfl, ⟨hsz, hP, hK, hD0, hN⟩, hXs⟩ := hv
  have hx := B.exec
  have hb := B.bytes
  have hr := B.returns
  have hts := atoms_spec (ws := wsL_fewer) B.pre
  have hown : s.vm.findClass RL = some m.cls := findClass_of_methodNamed B.named
  have hlocks := B.notSynchronized
  have htb := vx_table (x := yL_fewer) B (hts _ (List.mem_of_getElem? (i := 0) rfl))
  subst hsz
  have hD := hD0.self (sz := s.heap.size)
  generalize hAe : va_A (ceL_fewer cyI cyB cyJ cyZ a0 a1 a2 a3 a4 a5 a6 a7 a8 a9 b0_tape b0_kept b0_draftGround b0_draftLaw b0_grid b0_pack b0_pieces b1_law b1_marks b1_stroll b2_walls n9 g0_imageKept g0_wrongByte g1_drawSeed g2_wallCount g2_texts g2_ways f3 f4 f5 f7 f8 f9) s.heap.size = A at hD hXs ⊢
  have hA : ∀ q : Nat, s.heap.size ≤ q → A q := fun q h => by rw [← hAe]; exact Or.inr h
  have hS : va_S A s.heap s.heap [] := va_S.rf
  have C0 : cxM p s m meth c _ wsL_fewer RL cL_fewer 5 (some .int) := ⟨hx, hb, hr, hml, hown, hts, hlocks⟩
  have hl := lv_entry ([.ref a0, .int p1, .int p2, .ref a9]) (n := 5) (Nat.le_of_ble_eq_true rfl)
  rw [lg_entry_eq]
  generalize (lg_sl ([.ref a0, .int p1, .int p2, .ref a9]) ++ List.replicate (5 - (lg_sl ([.ref a0, .int p1, .int p2, .ref a9])).length) Slot.unset).toArray = ls at hl ⊢
  have hl : lv_has ls 5 [(0, .ref a0), (1, .int p1), (2, .int p2), (3, .ref a9)] := hl
  show W p l e rmL_fewer s m _ below meth c _ _ _ _ _ _
  refine wq (fun Q hQ => ?_)
  refine lv_aload_n hx hb dL_fewer_0 rfl (lv_at hl 3 rfl) ?_
  refine lv_iconst (v := 0) hx hb dL_fewer_1 (by decide) ?_
  refine lv_aload_n hx hb dL_fewer_2 rfl (lv_at hl 0 rfl) ?_
  refine lv_iload_n hx hb dL_fewer_3 rfl (lv_at hl 1 rfl) ?_
  refine lv_iload_n hx hb dL_fewer_4 rfl (lv_at hl 2 rfl) ?_
  have hPc := hP.sub (ws' := (ceX10_fewer cyI cyB cyJ cyZ a0 a1 a2 a3 a4 a5 a6 a7 a8 b0_tape b0_kept b0_draftGround b0_draftLaw b0_grid b0_pack b0_pieces b1_law b1_marks b1_stroll b2_walls g0_imageKept g0_wrongByte g1_drawSeed g2_wallCount g2_texts g2_ways f3 f4 f5 f7 f8)) [0, 1, 2, 3, 4, 5, 6, 7, 8] rfl
  have hDc := hD.sub (ws' := (ceX10_fewer cyI cyB cyJ cyZ a0 a1 a2 a3 a4 a5 a6 a7 a8 b0_tape b0_kept b0_draftGround b0_draftLaw b0_grid b0_pack b0_pieces b1_law b1_marks b1_stroll b2_walls g0_imageKept g0_wrongByte g1_drawSeed g2_wallCount g2_texts g2_ways f3 f4 f5 f7 f8)) [0, 1, 2, 3, 4, 5, 6, 7, 8] (by decide) rfl
  have hFc := va_free (wc := (ceX10_fewer cyI cyB cyJ cyZ a0 a1 a2 a3 a4 a5 a6 a7 a8 b0_tape b0_kept b0_draftGround b0_draftLaw b0_grid b0_pack b0_pieces b1_law b1_marks b1_stroll b2_walls g0_imageKept g0_wrongByte g1_drawSeed g2_wallCount g2_texts g2_ways f3 f4 f5 f7 f8)) hD hS hA [0, 1, 2, 3, 4, 5, 6, 7, 8] rfl
  refine vx_calli (vx_runV (As := [.int p1, .int p2]) (rest := [.int 0, .ref a9]) ⟨hx, hb, hml, hown, hts⟩ (ctX10_fewer l hl0 dC dI cyI cyB cyJ cyZ _ a0 a1 a2 a3 a4 a5 a6 a7 a8 b0_tape b0_kept b0_draftGround b0_draftLaw b0_grid b0_pack b0_pieces b1_law b1_marks b1_stroll b2_walls g0_imageKept g0_wrongByte g1_drawSeed g2_wallCount g2_texts g2_ways f3 f4 f5 f7 f8 p1 p2 _ _ adS hw) (cwV 2 hts gL_fewer_X10_fewer rfl rfl rfl (by decide +kernel) ⟨Nat.le_of_ble_eq_true rfl, Nat.le_of_ble_eq_true rfl⟩) ⟨wPreX_blind (xOk_txT adS), va_recv hK hPc (ci := 10) (q0 := 0) rfl rfl, fun U hU hW => wPreX_of (xOk_txT adS) hPc hK hDc hN hXs.1 hS hFc hU hW⟩ rfl rfl hl.1 rfl (lv_room (Nat.le_of_ble_eq_true rfl)) dL_fewer_5 ⟨(by decide), (by decide)⟩) hS (fun q _ h => hFc q h) hFc (fun q _ h => hFc q h) (fun E ce q9 u1 t H1 locs ht hvm hpx hBX hz1 hk1 hS hce hcv hcl => ?_) (fun r2 u1 t H1 locs ht hvm hw hB hz1 hk1 hS => ?_)
  · obtain ⟨hw, hP1, hK1, hD1⟩ := hBX
    rw [ht] at hP1
    obtain ⟨hP, hD⟩ := va_join (wr := pickW (ceL_fewer cyI cyB cyJ cyZ a0 a1 a2 a3 a4 a5 a6 a7 a8 a9 b0_tape b0_kept b0_draftGround b0_draftLaw b0_grid b0_pack b0_pieces b1_law b1_marks b1_stroll b2_walls n9 g0_imageKept g0_wrongByte g1_drawSeed g2_wallCount g2_texts g2_ways f3 f4 f5 f7 f8 f9) [9]) (w1 := (ceX10_fewer cyI cyB cyJ cyZ a0 a1 a2 a3 a4 a5 a6 a7 a8 b0_tape b0_kept b0_draftGround b0_draftLaw b0_grid b0_pack b0_pieces b1_law b1_marks b1_stroll b2_walls g0_imageKept g0_wrongByte g1_drawSeed g2_wallCount g2_texts g2_ways f3 f4 f5 u1.1 u1.2)) hP hD [0, 1, 2, 3, 4, 5, 6, 7, 8] [9] rfl rfl (by decide) (by decide) hk1 hFc hP1 hD1
    have hP := hP.sub (ws' := (ceL_fewer cyI cyB cyJ cyZ a0 a1 a2 a3 a4 a5 a6 a7 a8 a9 b0_tape b0_kept b0_draftGround b0_draftLaw b0_grid b0_pack b0_pieces b1_law b1_marks b1_stroll b2_walls n9 g0_imageKept g0_wrongByte g1_drawSeed g2_wallCount g2_texts g2_ways f3 f4 f5 u1.1 u1.2 f9)) [1, 2, 3, 4, 5, 6, 7, 8, 9, 0] rfl
    have hD := hD.sub (ws' := (ceL_fewer cyI cyB cyJ cyZ a0 a1 a2 a3 a4 a5 a6 a7 a8 a9 b0_tape b0_kept b0_draftGround b0_draftLaw b0_grid b0_pack b0_pieces b1_law b1_marks b1_stroll b2_walls n9 g0_imageKept g0_wrongByte g1_drawSeed g2_wallCount g2_texts g2_ways f3 f4 f5 u1.1 u1.2 f9)) [1, 2, 3, 4, 5, 6, 7, 8, 9, 0] (by decide) rfl
    obtain ⟨hw0, hw1, hE⟩ := hw
    rcases hE with rfl | rfl
    · have hw := hw0 rfl
      refine ec_catch (name := "java/lang/IndexOutOfBoundsException") hown [] _ _ (htb.trans rfl) (fun z hz => by cases hz) (by decide) (by decide) (hts (.classLink RL 24 "java/lang/IndexOutOfBoundsException") (List.mem_of_getElem? (i := 1) rfl)) (va_Nw.use rfl (hXs.1.2.2.2 (.castable "java/lang/IndexOutOfBoundsException" "java/lang/IndexOutOfBoundsException") (by decide +kernel))) hce hcv hcl ?_
      refine W.eq (g2 := F0 m 13 ls [.ref q9]) rfl ?_
      refine lv_astore (lv' := [(4, .ref q9), (0, .ref a0), (1, .int p1), (2, .int p2), (3, .ref a9)]) hx hb dL_fewer_13 hl (by decide) rfl (fun ls hl => ?_)
      refine lv_iconst (v := 1) hx hb dL_fewer_15 (by decide) ?_
      rw [hQ]
      refine W.widen (k := 2) (n := 12) (by decide) (by decide) ?_
      exact W.iret (v := 1) hx hb hr (fun t ht hW => ⟨⟨1, (u1.1, u1.2, f9), rfl, hw, by rw [ht]; exact hP, va_K.moved hW.alike hK, hD⟩, hS.F ht⟩) hS.2.2 dL_fewer_16
    · have hw := hw1 rfl
      refine ec_catch (name := "java/lang/IllegalArgumentException") hown [_] _ _ (htb.trans rfl) (fun z hz => by rw [List.mem_singleton] at hz; subst hz; exact Or.inr ⟨by decide, "java/lang/IndexOutOfBoundsException", (hts (.classLink RL 24 "java/lang/IndexOutOfBoundsException") (List.mem_of_getElem? (i := 1) rfl)), hXs.2.1⟩) (by decide) (by decide) (hts (.classLink RL 13 "java/lang/IllegalArgumentException") (List.mem_of_getElem? (i := 2) rfl)) (va_Nw.use rfl (hXs.1.2.2.2 (.castable "java/lang/IllegalArgumentException" "java/lang/IllegalArgumentException") (by decide +kernel))) hce hcv hcl ?_
      refine W.eq (g2 := F0 m 17 ls [.ref q9]) rfl ?_
      refine lv_astore (lv' := [(4, .ref q9), (0, .ref a0), (1, .int p1), (2, .int p2), (3, .ref a9)]) hx hb dL_fewer_17 hl (by decide) rfl (fun ls hl => ?_)
      refine lv_iconst (v := 2) hx hb dL_fewer_19 (by decide) ?_
      rw [hQ]
      refine W.widen (k := 2) (n := 12) (by decide) (by decide) ?_
      exact W.iret (v := 2) hx hb hr (fun t ht hW => ⟨⟨2, (u1.1, u1.2, f9), rfl, hw, by rw [ht]; exact hP, va_K.moved hW.alike hK, hD⟩, hS.F ht⟩) hS.2.2 dL_fewer_20
  -- returned
  obtain ⟨hP1, hK1, hD1⟩ := hB
  rw [ht] at hP1
  obtain ⟨hP, hD⟩ := va_join (wr := pickW (ceL_fewer cyI cyB cyJ cyZ a0 a1 a2 a3 a4 a5 a6 a7 a8 a9 b0_tape b0_kept b0_draftGround b0_draftLaw b0_grid b0_pack b0_pieces b1_law b1_marks b1_stroll b2_walls n9 g0_imageKept g0_wrongByte g1_drawSeed g2_wallCount g2_texts g2_ways f3 f4 f5 f7 f8 f9) [9]) (w1 := (ceX10_fewer cyI cyB cyJ cyZ a0 a1 a2 a3 a4 a5 a6 a7 a8 b0_tape b0_kept b0_draftGround b0_draftLaw b0_grid b0_pack b0_pieces b1_law b1_marks b1_stroll b2_walls g0_imageKept g0_wrongByte g1_drawSeed g2_wallCount g2_texts g2_ways f3 f4 f5 u1.1 u1.2)) hP hD [0, 1, 2, 3, 4, 5, 6, 7, 8] [9] rfl rfl (by decide) (by decide) hk1 hFc hP1 hD1
  have hP := hP.sub (ws' := (ceL_fewer cyI cyB cyJ cyZ a0 a1 a2 a3 a4 a5 a6 a7 a8 a9 b0_tape b0_kept b0_draftGround b0_draftLaw b0_grid b0_pack b0_pieces b1_law b1_marks b1_stroll b2_walls n9 g0_imageKept g0_wrongByte g1_drawSeed g2_wallCount g2_texts g2_ways f3 f4 f5 u1.1 u1.2 f9)) [1, 2, 3, 4, 5, 6, 7, 8, 9, 0] rfl
  have hD := hD.sub (ws' := (ceL_fewer cyI cyB cyJ cyZ a0 a1 a2 a3 a4 a5 a6 a7 a8 a9 b0_tape b0_kept b0_draftGround b0_draftLaw b0_grid b0_pack b0_pieces b1_law b1_marks b1_stroll b2_walls n9 g0_imageKept g0_wrongByte g1_drawSeed g2_wallCount g2_texts g2_ways f3 f4 f5 u1.1 u1.2 f9)) [1, 2, 3, 4, 5, 6, 7, 8, 9, 0] (by decide) rfl
  generalize H1 = H at hP hS ⊢
  refine W.widen (k := 2) (n := 12) (by decide) (by decide) ?_
  refine lv_i2l hx hb dL_fewer_8 rfl ?_
  obtain ⟨hi, hw⟩ := hw
  refine va_last hx hb hK hP hD hS 9 2 rfl rfl hi dL_fewer_9 (fun H locs hP hD hS => ?_)
  have hP : va_P (dC, dI) vwCl (ceL_fewer cyI cyB cyJ cyZ a0 a1 a2 a3 a4 a5 a6 a7 a8 a9 b0_tape b0_kept b0_draftGround b0_draftLaw b0_grid b0_pack b0_pieces b1_law b1_marks b1_stroll b2_walls n9 g0_imageKept g0_wrongByte g1_drawSeed g2_wallCount g2_texts g2_ways f3 f4 f5 u1.1 u1.2 (vp_updL f9 (0 : Int32).toNatClampNeg (r2.toInt64))) H := hP
  have hD : va_D A (ceL_fewer cyI cyB cyJ cyZ a0 a1 a2 a3 a4 a5 a6 a7 a8 a9 b0_tape b0_kept b0_draftGround b0_draftLaw b0_grid b0_pack b0_pieces b1_law b1_marks b1_stroll b2_walls n9 g0_imageKept g0_wrongByte g1_drawSeed g2_wallCount g2_texts g2_ways f3 f4 f5 u1.1 u1.2 (vp_updL f9 (0 : Int32).toNatClampNeg (r2.toInt64))) := hD
  refine lv_goto (tgt := 21) hx hb dL_fewer_10 (by decide) ?_
  refine lv_iconst (v := 0) hx hb dL_fewer_21 (by decide) ?_
  rw [hQ]
  refine W.widen (k := 2) (n := 12) (by decide) (by decide) ?_
  exact W.iret (v := 0) hx hb hr (fun t ht hW => ⟨⟨0, (u1.1, u1.2, (vp_updL f9 (0 : Int32).toNatClampNeg (r2.toInt64))), rfl, hw, by rw [ht]; exact hP, va_K.moved hW.alike hK, hD⟩, hS.F ht⟩) hS.2.2 dL_fewer_22
/-! LeadParkLaw.forged (LLeadPark;II[J)I -/
abbrev ceL_forged (cyI cyB cyJ cyZ : ClassId) (a0 a1 a2 a3 a4 a5 a6 a7 a8 a9 a10 a11 a12 a13 b0_tape b0_kept b0_draftGround b0_draftLaw b0_pack b0_pieces b0_thinning b1_marks b1_stroll n13 : Nat) (g0_imageKept : Int32) (g0_wrongByte : Int32) (g1_drawSeed : Int32) (g2_texts : Int32) (g7_lines : Int32) (g2_ways : Int32) (g2_wallCount : Int32) (f3 : Nat → Int32) (f4 : Nat → Int32) (f5 : Nat → Int32) (f6 : Nat → Int32) (g7_size : Int32) (f9 : Nat → Int32) (f8 : Nat → Int32) (g10_rows : Int32) (g10_columns : Int32) (f11 : Nat → Int32) (f12 : Nat → Int32) (f13 : Nat → Int64) : va_W := [(a0, .inr (10, [.ref b0_tape, .ref a1, .ref b0_kept, .ref b0_draftGround, .ref b0_draftLaw, .ref a10, .ref b0_pack, .ref b0_pieces, .ref b0_thinning, .int g0_imageKept, .int g0_wrongByte])), (a1, .inr (6, [.ref a2, .ref a7, .ref b1_marks, .ref b1_stroll, .int g1_drawSeed])), (a2, .inr (1, [.ref a4, .ref a5, .ref a3, .ref a6, .int g2_ways, .int g2_wallCount, .int g2_texts])), (a3, .inl (cyI, 12, .inl f3)), (a4, .inl (cyI, 360, .inl f4)), (a5, .inl (cyI, 360, .inl f5)), (a6, .inl (cyI, 32, .inl f6)), (a7, .inr (2, [.ref a9, .ref a8, .int g7_size, .int g7_lines])), (a8, .inl (cyI, 7, .inl f8)), (a9, .inl (cyI, 400, .inl f9)), (a10, .inr (0, [.ref a11, .ref a12, .int g10_rows, .int g10_columns])), (a11, .inl (cyI, 1089, .inl f11)), (a12, .inl (cyI, 1089, .inl f12)), (a13, .inl (cyJ, n13, .inr (.inl f13)))]

abbrev rmL_forged : Room := { frames := 8, cells := 1, slots := 6, locals := 225 }
set_option maxRecDepth 100000 in
set_option maxHeartbeats 4000000 in
theorem ctL_forged (l : Launch) (hl0 : l.stackTraces = false) (dC : Nat → ClassId) (dI : Nat → Nat → Nat) (cyI cyB cyJ cyZ : ClassId) (sz : Nat) (a0 a1 a2 a3 a4 a5 a6 a7 a8 a9 a10 a11 a12 a13 b0_tape b0_kept b0_draftGround b0_draftLaw b0_pack b0_pieces b0_thinning b1_marks b1_stroll n13 : Nat) (g0_imageKept : Int32) (g0_wrongByte : Int32) (g1_drawSeed : Int32) (g2_texts : Int32) (g7_lines : Int32) (g2_ways : Int32) (g2_wallCount : Int32) (f3 : Nat → Int32) (f4 : Nat → Int32) (f5 : Nat → Int32) (f6 : Nat → Int32) (g7_size : Int32) (f9 : Nat → Int32) (f8 : Nat → Int32) (g10_rows : Int32) (g10_columns : Int32) (f11 : Nat → Int32) (f12 : Nat → Int32) (f13 : Nat → Int64) (p1 : Int32) (p2 : Int32) (post : Int32 → ((Nat → Int32) × Int32 × Int32 × (Nat → Int32) × (Nat → Int32) × (Nat → Int64)) → Prop) (adS : Nat → Nat) (hw : wpL_forged n13 post g2_ways g2_wallCount f3 f4 f5 f6 g7_size f9 f8 g10_rows g10_columns f11 f12 f13 p1 p2) : Met l yL_forged wsL_forged rmL_forged (va_Pc [.ref a0, .int p1, .int p2, .ref a13] (wPreX dC dI cyI cyB cyJ cyZ sz (ceL_forged cyI cyB cyJ cyZ a0 a1 a2 a3 a4 a5 a6 a7 a8 a9 a10 a11 a12 a13 b0_tape b0_kept b0_draftGround b0_draftLaw b0_pack b0_pieces b0_thinning b1_marks b1_stroll n13 g0_imageKept g0_wrongByte g1_drawSeed g2_texts g7_lines g2_ways g2_wallCount f3 f4 f5 f6 g7_size f9 f8 g10_rows g10_columns f11 f12 f13) (txL adS))) (va_Qi post (fun u : (Nat → Int32) × Int32 × Int32 × (Nat → Int32) × (Nat → Int32) × (Nat → Int64) => wAt dC dI cyI cyB cyJ cyZ (va_A (ceL_forged cyI cyB cyJ cyZ a0 a1 a2 a3 a4 a5 a6 a7 a8 a9 a10 a11 a12 a13 b0_tape b0_kept b0_draftGround b0_draftLaw b0_pack b0_pieces b0_thinning b1_marks b1_stroll n13 g0_imageKept g0_wrongByte g1_drawSeed g2_texts g7_lines g2_ways g2_wallCount f3 f4 f5 f6 g7_size f9 f8 g10_rows g10_columns f11 f12 f13) sz) (ceL_forged cyI cyB cyJ cyZ a0 a1 a2 a3 a4 a5 a6 a7 a8 a9 a10 a11 a12 a13 b0_tape b0_kept b0_draftGround b0_draftLaw b0_pack b0_pieces b0_thinning b1_marks b1_stroll n13 g0_imageKept g0_wrongByte g1_drawSeed g2_texts g7_lines g2_ways g2_wallCount f3 f4 f5 f6 g7_size f9 u.1 u.2.1 u.2.2.1 u.2.2.2.1 u.2.2.2.2.1 u.2.2.2.2.2)) (va_A (ceL_forged cyI cyB cyJ cyZ a0 a1 a2 a3 a4 a5 a6 a7 a8 a9 a10 a11 a12 a13 b0_tape b0_kept b0_draftGround b0_draftLaw b0_pack b0_pieces b0_thinning b1_marks b1_stroll n13 g0_imageKept g0_wrongByte g1_drawSeed g2_texts g7_lines g2_ways g2_wallCount f3 f4 f5 f6 g7_size f9 f8 g10_rows g10_columns f11 f12 f13) sz)) 1 6 (va_A (ceL_forged cyI cyB cyJ cyZ a0 a1 a2 a3 a4 a5 a6 a7 a8 a9 a10 a11 a12 a13 b0_tape b0_kept b0_draftGround b0_draftLaw b0_pack b0_pieces b0_thinning b1_marks b1_stroll n13 g0_imageKept g0_wrongByte g1_drawSeed g2_texts g7_lines g2_ways g2_wallCount f3 f4 f5 f6 g7_size f9 f8 g10_rows g10_columns f11 f12 f13) sz) := by
  refine mt_ofWH (cc := cL_forged) (maxL := 5) (ret := (some .int)) (by decide) rfl ?_
  intro p e s m args below meth c s₁ B hml hv
  obtain ⟨rfl, ⟨hsz, hP, hK, hD0, hN⟩, hXs⟩ := hv
  have hx := B.exec
  have hb := B.bytes
  have hr := B.returns
  have hts := atoms_spec (ws := wsL_forged) B.pre
  have hown : s.vm.findClass RL = some m.cls := findClass_of_methodNamed B.named
  have hlocks := B.notSynchronized
  have htb := vx_table (x := yL_forged) B (hts _ (List.mem_of_getElem? (i := 0) rfl))
  subst hsz
  have hD := hD0.self (sz := s.heap.size)
  generalize hAe : va_A (ceL_forged cyI cyB cyJ cyZ a0 a1 a2 a3 a4 a5 a6 a7 a8 a9 a10 a11 a12 a13 b0_tape b0_kept b0_draftGround b0_draftLaw b0_pack b0_pieces b0_thinning b1_marks b1_stroll n13 g0_imageKept g0_wrongByte g1_drawSeed g2_texts g7_lines g2_ways g2_wallCount f3 f4 f5 f6 g7_size f9 f8 g10_rows g10_columns f11 f12 f13) s.heap.size = A at hD hXs ⊢
  have hA : ∀ q : Nat, s.heap.size ≤ q → A q := fun q h => by rw [← hAe]; exact Or.inr h
  have hS : va_S A s.heap s.heap [] := va_S.rf
  have C0 : cxM p s m meth c _ wsL_forged RL cL_forged 5 (some .int) := ⟨hx, hb, hr, hml, hown, hts, hlocks⟩
  have hl := lv_entry ([.ref a0, .int p1, .int p2, .ref a13]) (n := 5) (Nat.le_of_ble_eq_true rfl)
  rw [lg_entry_eq]
  generalize (lg_sl ([.ref a0, .int p1, .int p2, .ref a13]) ++ List.replicate (5 - (lg_sl ([.ref a0, .int p1, .int p2, .ref a13])).length) Slot.unset).toArray = ls at hl ⊢
  have hl : lv_has ls 5 [(0, .ref a0), (1, .int p1), (2, .int p2), (3, .ref a13)] := hl
  show W p l e rmL_forged s m _ below meth c _ _ _ _ _ _
  refine wq (fun Q hQ => ?_)
  refine lv_aload_n hx hb dL_forged_0 rfl (lv_at hl 3 rfl) ?_
  refine lv_iconst (v := 0) hx hb dL_forged_1 (by decide) ?_
  refine lv_aload_n hx hb dL_forged_2 rfl (lv_at hl 0 rfl) ?_
  refine lv_iload_n hx hb dL_forged_3 rfl (lv_at hl 1 rfl) ?_
  refine lv_iload_n hx hb dL_forged_4 rfl (lv_at hl 2 rfl) ?_
  have hPc := hP.sub (ws' := (ceX10_forged cyI cyB cyJ cyZ a0 a1 a2 a3 a4 a5 a6 a7 a8 a9 a10 a11 a12 b0_tape b0_kept b0_draftGround b0_draftLaw b0_pack b0_pieces b0_thinning b1_marks b1_stroll g0_imageKept g0_wrongByte g1_drawSeed g2_texts g7_lines g2_ways g2_wallCount f3 f4 f5 f6 g7_size f9 f8 g10_rows g10_columns f11 f12)) [0, 1, 2, 3, 4, 5, 6, 7, 8, 9, 10, 11, 12] rfl
  have hDc := hD.sub (ws' := (ceX10_forged cyI cyB cyJ cyZ a0 a1 a2 a3 a4 a5 a6 a7 a8 a9 a10 a11 a12 b0_tape b0_kept b0_draftGround b0_draftLaw b0_pack b0_pieces b0_thinning b1_marks b1_stroll g0_imageKept g0_wrongByte g1_drawSeed g2_texts g7_lines g2_ways g2_wallCount f3 f4 f5 f6 g7_size f9 f8 g10_rows g10_columns f11 f12)) [0, 1, 2, 3, 4, 5, 6, 7, 8, 9, 10, 11, 12] (by decide) rfl
  have hFc := va_free (wc := (ceX10_forged cyI cyB cyJ cyZ a0 a1 a2 a3 a4 a5 a6 a7 a8 a9 a10 a11 a12 b0_tape b0_kept b0_draftGround b0_draftLaw b0_pack b0_pieces b0_thinning b1_marks b1_stroll g0_imageKept g0_wrongByte g1_drawSeed g2_texts g7_lines g2_ways g2_wallCount f3 f4 f5 f6 g7_size f9 f8 g10_rows g10_columns f11 f12)) hD hS hA [0, 1, 2, 3, 4, 5, 6, 7, 8, 9, 10, 11, 12] rfl
  refine vx_calli (vx_runV (As := [.int p1, .int p2]) (rest := [.int 0, .ref a13]) ⟨hx, hb, hml, hown, hts⟩ (ctX10_forged l hl0 dC dI cyI cyB cyJ cyZ _ a0 a1 a2 a3 a4 a5 a6 a7 a8 a9 a10 a11 a12 b0_tape b0_kept b0_draftGround b0_draftLaw b0_pack b0_pieces b0_thinning b1_marks b1_stroll g0_imageKept g0_wrongByte g1_drawSeed g2_texts g7_lines g2_ways g2_wallCount f3 f4 f5 f6 g7_size f9 f8 g10_rows g10_columns f11 f12 p1 p2 _ _ adS hw) (cwV 2 hts gL_forged_X10_forged rfl rfl rfl (by decide +kernel) ⟨Nat.le_of_ble_eq_true rfl, Nat.le_of_ble_eq_true rfl⟩) ⟨wPreX_blind (xOk_txT adS), va_recv hK hPc (ci := 10) (q0 := 0) rfl rfl, fun U hU hW => wPreX_of (xOk_txT adS) hPc hK hDc hN hXs.1 hS hFc hU hW⟩ rfl rfl hl.1 rfl (lv_room (Nat.le_of_ble_eq_true rfl)) dL_forged_5 ⟨(by decide), (by decide)⟩) hS (fun q _ h => hFc q h) hFc (fun q _ h => hFc q h) (fun E ce q9 u1 t H1 locs ht hvm hpx hBX hz1 hk1 hS hce hcv hcl => ?_) (fun r2 u1 t H1 locs ht hvm hw hB hz1 hk1 hS => ?_)
  · obtain ⟨hw, hP1, hK1, hD1⟩ := hBX
    rw [ht] at hP1
    obtain ⟨hP, hD⟩ := va_join (wr := pickW (ceL_forged cyI cyB cyJ cyZ a0 a1 a2 a3 a4 a5 a6 a7 a8 a9 a10 a11 a12 a13 b0_tape b0_kept b0_draftGround b0_draftLaw b0_pack b0_pieces b0_thinning b1_marks b1_stroll n13 g0_imageKept g0_wrongByte g1_drawSeed g2_texts g7_lines g2_ways g2_wallCount f3 f4 f5 f6 g7_size f9 f8 g10_rows g10_columns f11 f12 f13) [13]) (w1 := (ceX10_forged cyI cyB cyJ cyZ a0 a1 a2 a3 a4 a5 a6 a7 a8 a9 a10 a11 a12 b0_tape b0_kept b0_draftGround b0_draftLaw b0_pack b0_pieces b0_thinning b1_marks b1_stroll g0_imageKept g0_wrongByte g1_drawSeed g2_texts g7_lines g2_ways g2_wallCount f3 f4 f5 f6 g7_size f9 u1.1 u1.2.1 u1.2.2.1 u1.2.2.2.1 u1.2.2.2.2)) hP hD [0, 1, 2, 3, 4, 5, 6, 7, 8, 9, 10, 11, 12] [13] rfl rfl (by decide) (by decide) hk1 hFc hP1 hD1
    have hP := hP.sub (ws' := (ceL_forged cyI cyB cyJ cyZ a0 a1 a2 a3 a4 a5 a6 a7 a8 a9 a10 a11 a12 a13 b0_tape b0_kept b0_draftGround b0_draftLaw b0_pack b0_pieces b0_thinning b1_marks b1_stroll n13 g0_imageKept g0_wrongByte g1_drawSeed g2_texts g7_lines g2_ways g2_wallCount f3 f4 f5 f6 g7_size f9 u1.1 u1.2.1 u1.2.2.1 u1.2.2.2.1 u1.2.2.2.2 f13)) [1, 2, 3, 4, 5, 6, 7, 8, 9, 10, 11, 12, 13, 0] rfl
    have hD := hD.sub (ws' := (ceL_forged cyI cyB cyJ cyZ a0 a1 a2 a3 a4 a5 a6 a7 a8 a9 a10 a11 a12 a13 b0_tape b0_kept b0_draftGround b0_draftLaw b0_pack b0_pieces b0_thinning b1_marks b1_stroll n13 g0_imageKept g0_wrongByte g1_drawSeed g2_texts g7_lines g2_ways g2_wallCount f3 f4 f5 f6 g7_size f9 u1.1 u1.2.1 u1.2.2.1 u1.2.2.2.1 u1.2.2.2.2 f13)) [1, 2, 3, 4, 5, 6, 7, 8, 9, 10, 11, 12, 13, 0] (by decide) rfl
    obtain ⟨hw0, hE⟩ := hw
    subst hE
    have hw := hw0 rfl
    refine ec_catch (name := "java/lang/IndexOutOfBoundsException") hown [] _ _ (htb.trans rfl) (fun z hz => by cases hz) (by decide) (by decide) (hts (.classLink RL 24 "java/lang/IndexOutOfBoundsException") (List.mem_of_getElem? (i := 1) rfl)) (va_Nw.use rfl (hXs.1.2.2.2 (.castable "java/lang/IndexOutOfBoundsException" "java/lang/IndexOutOfBoundsException") (by decide +kernel))) hce hcv hcl ?_
    refine W.eq (g2 := F0 m 20 ls [.ref q9]) rfl ?_
    refine lv_astore (lv' := [(4, .ref q9), (0, .ref a0), (1, .int p1), (2, .int p2), (3, .ref a13)]) hx hb dL_forged_20 hl (by decide) rfl (fun ls hl => ?_)
    refine lv_iconst (v := 1) hx hb dL_forged_22 (by decide) ?_
    rw [hQ]
    refine W.widen (k := 1) (n := 6) (by decide) (by decide) ?_
    exact W.iret (v := 1) hx hb hr (fun t ht hW => ⟨⟨1, (u1.1, u1.2.1, u1.2.2.1, u1.2.2.2.1, u1.2.2.2.2, f13), rfl, hw, by rw [ht]; exact hP, va_K.moved hW.alike hK, hD⟩, hS.F ht⟩) hS.2.2 dL_forged_23
  -- returned
  obtain ⟨hP1, hK1, hD1⟩ := hB
  rw [ht] at hP1
  obtain ⟨hP, hD⟩ := va_join (wr := pickW (ceL_forged cyI cyB cyJ cyZ a0 a1 a2 a3 a4 a5 a6 a7 a8 a9 a10 a11 a12 a13 b0_tape b0_kept b0_draftGround b0_draftLaw b0_pack b0_pieces b0_thinning b1_marks b1_stroll n13 g0_imageKept g0_wrongByte g1_drawSeed g2_texts g7_lines g2_ways g2_wallCount f3 f4 f5 f6 g7_size f9 f8 g10_rows g10_columns f11 f12 f13) [13]) (w1 := (ceX10_forged cyI cyB cyJ cyZ a0 a1 a2 a3 a4 a5 a6 a7 a8 a9 a10 a11 a12 b0_tape b0_kept b0_draftGround b0_draftLaw b0_pack b0_pieces b0_thinning b1_marks b1_stroll g0_imageKept g0_wrongByte g1_drawSeed g2_texts g7_lines g2_ways g2_wallCount f3 f4 f5 f6 g7_size f9 u1.1 u1.2.1 u1.2.2.1 u1.2.2.2.1 u1.2.2.2.2)) hP hD [0, 1, 2, 3, 4, 5, 6, 7, 8, 9, 10, 11, 12] [13] rfl rfl (by decide) (by decide) hk1 hFc hP1 hD1
  have hP := hP.sub (ws' := (ceL_forged cyI cyB cyJ cyZ a0 a1 a2 a3 a4 a5 a6 a7 a8 a9 a10 a11 a12 a13 b0_tape b0_kept b0_draftGround b0_draftLaw b0_pack b0_pieces b0_thinning b1_marks b1_stroll n13 g0_imageKept g0_wrongByte g1_drawSeed g2_texts g7_lines g2_ways g2_wallCount f3 f4 f5 f6 g7_size f9 u1.1 u1.2.1 u1.2.2.1 u1.2.2.2.1 u1.2.2.2.2 f13)) [1, 2, 3, 4, 5, 6, 7, 8, 9, 10, 11, 12, 13, 0] rfl
  have hD := hD.sub (ws' := (ceL_forged cyI cyB cyJ cyZ a0 a1 a2 a3 a4 a5 a6 a7 a8 a9 a10 a11 a12 a13 b0_tape b0_kept b0_draftGround b0_draftLaw b0_pack b0_pieces b0_thinning b1_marks b1_stroll n13 g0_imageKept g0_wrongByte g1_drawSeed g2_texts g7_lines g2_ways g2_wallCount f3 f4 f5 f6 g7_size f9 u1.1 u1.2.1 u1.2.2.1 u1.2.2.2.1 u1.2.2.2.2 f13)) [1, 2, 3, 4, 5, 6, 7, 8, 9, 10, 11, 12, 13, 0] (by decide) rfl
  generalize H1 = H at hP hS ⊢
  refine W.widen (k := 1) (n := 6) (by decide) (by decide) ?_
  refine lv_if_eq (tgt := 15) hx hb dL_forged_8 (by decide) (fun hc => ?_) (fun hc => ?_)
  · have hw := hw.1 hc
    refine lv_lconst (v := 0) hx hb dL_forged_15 (by decide) ?_
    obtain ⟨hi, hw⟩ := hw
    refine va_last hx hb hK hP hD hS 13 2 rfl rfl hi dL_forged_16 (fun H locs hP hD hS => ?_)
    have hP : va_P (dC, dI) vwCl (ceL_forged cyI cyB cyJ cyZ a0 a1 a2 a3 a4 a5 a6 a7 a8 a9 a10 a11 a12 a13 b0_tape b0_kept b0_draftGround b0_draftLaw b0_pack b0_pieces b0_thinning b1_marks b1_stroll n13 g0_imageKept g0_wrongByte g1_drawSeed g2_texts g7_lines g2_ways g2_wallCount f3 f4 f5 f6 g7_size f9 u1.1 u1.2.1 u1.2.2.1 u1.2.2.2.1 u1.2.2.2.2 (vp_updL f13 (0 : Int32).toNatClampNeg 0)) H := hP
    have hD : va_D A (ceL_forged cyI cyB cyJ cyZ a0 a1 a2 a3 a4 a5 a6 a7 a8 a9 a10 a11 a12 a13 b0_tape b0_kept b0_draftGround b0_draftLaw b0_pack b0_pieces b0_thinning b1_marks b1_stroll n13 g0_imageKept g0_wrongByte g1_drawSeed g2_texts g7_lines g2_ways g2_wallCount f3 f4 f5 f6 g7_size f9 u1.1 u1.2.1 u1.2.2.1 u1.2.2.2.1 u1.2.2.2.2 (vp_updL f13 (0 : Int32).toNatClampNeg 0)) := hD
    refine lv_goto (tgt := 24) hx hb dL_forged_17 (by decide) ?_
    refine lv_iconst (v := 0) hx hb dL_forged_24 (by decide) ?_
    rw [hQ]
    refine W.widen (k := 1) (n := 6) (by decide) (by decide) ?_
    exact W.iret (v := 0) hx hb hr (fun t ht hW => ⟨⟨0, (u1.1, u1.2.1, u1.2.2.1, u1.2.2.2.1, u1.2.2.2.2, (vp_updL f13 (0 : Int32).toNatClampNeg 0)), rfl, hw, by rw [ht]; exact hP, va_K.moved hW.alike hK, hD⟩, hS.F ht⟩) hS.2.2 dL_forged_25
  · have hw := hw.2 hc
    refine lv_lconst (v := 1) hx hb dL_forged_11 (by decide) ?_
    refine lv_goto (tgt := 16) hx hb dL_forged_12 (by decide) ?_
    obtain ⟨hi, hw⟩ := hw
    refine va_last hx hb hK hP hD hS 13 2 rfl rfl hi dL_forged_16 (fun H locs hP hD hS => ?_)
    have hP : va_P (dC, dI) vwCl (ceL_forged cyI cyB cyJ cyZ a0 a1 a2 a3 a4 a5 a6 a7 a8 a9 a10 a11 a12 a13 b0_tape b0_kept b0_draftGround b0_draftLaw b0_pack b0_pieces b0_thinning b1_marks b1_stroll n13 g0_imageKept g0_wrongByte g1_drawSeed g2_texts g7_lines g2_ways g2_wallCount f3 f4 f5 f6 g7_size f9 u1.1 u1.2.1 u1.2.2.1 u1.2.2.2.1 u1.2.2.2.2 (vp_updL f13 (0 : Int32).toNatClampNeg 1)) H := hP
    have hD : va_D A (ceL_forged cyI cyB cyJ cyZ a0 a1 a2 a3 a4 a5 a6 a7 a8 a9 a10 a11 a12 a13 b0_tape b0_kept b0_draftGround b0_draftLaw b0_pack b0_pieces b0_thinning b1_marks b1_stroll n13 g0_imageKept g0_wrongByte g1_drawSeed g2_texts g7_lines g2_ways g2_wallCount f3 f4 f5 f6 g7_size f9 u1.1 u1.2.1 u1.2.2.1 u1.2.2.2.1 u1.2.2.2.2 (vp_updL f13 (0 : Int32).toNatClampNeg 1)) := hD
    refine lv_goto (tgt := 24) hx hb dL_forged_17 (by decide) ?_
    refine lv_iconst (v := 0) hx hb dL_forged_24 (by decide) ?_
    rw [hQ]
    refine W.widen (k := 1) (n := 6) (by decide) (by decide) ?_
    exact W.iret (v := 0) hx hb hr (fun t ht hW => ⟨⟨0, (u1.1, u1.2.1, u1.2.2.1, u1.2.2.2.1, u1.2.2.2.2, (vp_updL f13 (0 : Int32).toNatClampNeg 1)), rfl, hw, by rw [ht]; exact hP, va_K.moved hW.alike hK, hD⟩, hS.F ht⟩) hS.2.2 dL_forged_25
