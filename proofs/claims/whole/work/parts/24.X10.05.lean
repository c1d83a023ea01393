/-! LeadPark.isOutside (II)Z -/

abbrev rmX10_isOutside : Room := { frames := 0, cells := 0, slots := 0, locals := 0 }
set_option maxRecDepth 100000 in
set_option maxHeartbeats 4000000 in
theorem ctX10_isOutside (l : Launch) (dC : Nat → ClassId) (dI : Nat → Nat → Nat) (cyI cyB cyJ cyZ : ClassId) (sz : Nat) (p0 : Int32) (p1 : Int32) (post : Int32 → Unit → Prop) (hw : wpX10_isOutside post p0 p1) : Met l yX10_isOutside wsX10_isOutside rmX10_isOutside (va_Pc [.int p0, .int p1] (wPre dC dI cyI cyB cyJ cyZ sz ([] : va_W))) (va_Qi post (fun u : Unit => wAt dC dI cyI cyB cyJ cyZ (va_A ([] : va_W) sz) ([] : va_W)) (va_A ([] : va_W) sz)) 0 0 (va_A ([] : va_W) sz) := by
  refine Met.ofW (cc := cX10_isOutside) (maxL := 2) (ret := (some .boolean)) (by decide) rfl ?_
  intro p e s m args below meth c s₁ B hml hv
  obtain ⟨rfl, hsz, hP, hK, hD0, hN⟩ := hv
  have hx := B.exec
  have hb := B.bytes
  have hr := B.returns
  have hts := atoms_spec (ws := wsX10_isOutside) B.pre
  have hown : s.vm.findClass RX10 = some m.cls := findClass_of_methodNamed B.named
  have hlocks := B.notSynchronized
  subst hsz
  have hD := hD0.self (sz := s.heap.size)
  generalize hAe : va_A ([] : va_W) s.heap.size = A at hD ⊢
  have hA : ∀ q : Nat, s.heap.size ≤ q → A q := fun q h => by rw [← hAe]; exact Or.inr h
  have hS : va_S A s.heap s.heap [] := va_S.rf
  have C0 : cxM p s m meth c _ wsX10_isOutside RX10 cX10_isOutside 2 (some .boolean) := ⟨hx, hb, hr, hml, hown, hts, hlocks⟩
  have hl := lv_entry ([.int p0, .int p1]) (n := 2) (Nat.le_of_ble_eq_true rfl)
  rw [lg_entry_eq]
  generalize (lg_sl ([.int p0, .int p1]) ++ List.replicate (2 - (lg_sl ([.int p0, .int p1])).length) Slot.unset).toArray = ls at hl ⊢
  have hl : lv_has ls 2 [(0, .int p0), (1, .int p1)] := hl
  show W p l e rmX10_isOutside s m _ below meth c _ _ _ _ _ _
  refine wq (fun Q hQ => ?_)
  refine lv_iload_n hx hb dX10_isOutside_0 rfl (lv_at hl 0 rfl) ?_
  refine lv_if_lt (tgt := 9) hx hb dX10_isOutside_1 (by decide) (fun hc => ?_) (fun hc => ?_)
  · have hw := hw.1 hc
    refine lv_iconst (v := 1) hx hb dX10_isOutside_9 (by decide) ?_
    refine lv_goto (tgt := 14) hx hb dX10_isOutside_10 (by decide) ?_
    rw [hQ]
    exact W.zret (v := 1) (ty := .boolean) hx hb hr rfl (fun t ht hW => ⟨⟨1, (), rfl, hw, by rw [ht]; exact hP, va_K.moved hW.alike hK, hD⟩, hS.F ht⟩) hS.2.2 dX10_isOutside_14
  · have hw := hw.2 hc
    refine lv_iload_n hx hb dX10_isOutside_4 rfl (lv_at hl 0 rfl) ?_
    refine lv_iload_n hx hb dX10_isOutside_5 rfl (lv_at hl 1 rfl) ?_
    refine lv_icmp_le (tgt := 13) hx hb dX10_isOutside_6 (by decide) (fun hc => ?_) (fun hc => ?_)
    · have hw := hw.1 hc
      refine lv_iconst (v := 0) hx hb dX10_isOutside_13 (by decide) ?_
      rw [hQ]
      exact W.zret (v := 0) (ty := .boolean) hx hb hr rfl (fun t ht hW => ⟨⟨0, (), rfl, hw, by rw [ht]; exact hP, va_K.moved hW.alike hK, hD⟩, hS.F ht⟩) hS.2.2 dX10_isOutside_14
    · have hw := hw.2 hc
      refine lv_iconst (v := 1) hx hb dX10_isOutside_9 (by decide) ?_
      refine lv_goto (tgt := 14) hx hb dX10_isOutside_10 (by decide) ?_
      rw [hQ]
      exact W.zret (v := 1) (ty := .boolean) hx hb hr rfl (fun t ht hW => ⟨⟨1, (), rfl, hw, by rw [ht]; exact hP, va_K.moved hW.alike hK, hD⟩, hS.F ht⟩) hS.2.2 dX10_isOutside_14
/-! LeadPark.mark (ZIII)I -/
abbrev ceX10_mark (cyI cyB cyJ cyZ : ClassId) (a0 a1 a2 a3 a4 a5 a6 b0_tape b0_kept b0_draftGround b0_draftLaw b0_grid b0_pack b0_pieces b0_thinning b1_ground b1_law b1_stroll : Nat) (g0_imageKept : Int32) (g0_wrongByte : Int32) (g1_drawSeed : Int32) (g2_size : Int32) (f3 : Nat → Int32) (f4 : Nat → Int32) (f5 : Nat → Int32) (f6 : Nat → Int32) : va_W := [(a0, .inr (10, [.ref b0_tape, .ref a1, .ref b0_kept, .ref b0_draftGround, .ref b0_draftLaw, .ref b0_grid, .ref b0_pack, .ref b0_pieces, .ref b0_thinning, .int g0_imageKept, .int g0_wrongByte])), (a1, .inr (6, [.ref b1_ground, .ref b1_law, .ref a2, .ref b1_stroll, .int g1_drawSeed])), (a2, .inr (3, [.ref a3, .ref a4, .ref a5, .ref a6, .int g2_size])), (a3, .inl (cyI, 20, .inl f3)), (a4, .inl (cyI, 20, .inl f4)), (a5, .inl (cyI, 20, .inl f5)), (a6, .inl (cyI, 20, .inl f6))]

theorem inX10_mark_X10 : ∀ w ∈ wsX100, w ∈ wsX10_mark := fun _ h => List.mem_cons_of_mem _ (List.mem_append_left _ (List.mem_append_left _ (List.mem_append_left _ (List.mem_append_left _ (List.mem_append_right _ h)))))
theorem inX10_mark_X3 : ∀ w ∈ wsX30, w ∈ wsX10_mark := fun _ h => List.mem_cons_of_mem _ (List.mem_append_left _ (List.mem_append_left _ (List.mem_append_right _ h)))
theorem inX10_mark_X6 : ∀ w ∈ wsX60, w ∈ wsX10_mark := fun _ h => List.mem_cons_of_mem _ (List.mem_append_left _ (List.mem_append_left _ (List.mem_append_left _ (List.mem_append_right _ h))))
theorem hatX10_mark_106 {args : Array Value} {s : State} (hts : ∀ w ∈ wsX10_mark, w.before args s = true) (hB : ∀ w ∈ txBad, w.before #[] s = true) : ∀ w ∈ vx_atS RX10 106 "java/lang/IllegalArgumentException" ["java/lang/RuntimeException", "java/lang/Exception"], w.before args s = true := vx_hat (B := txBad) (fun w h => hts w (List.mem_cons_of_mem _ (List.mem_append_left _ (List.mem_append_right _ h)))) hbd_106 (fun w h => va_Nw.use (List.all_eq_true.mp txBad_tab w h) (hB w h))
theorem hatX10_mark_116 {args : Array Value} {s : State} (hts : ∀ w ∈ wsX10_mark, w.before args s = true) (hB : ∀ w ∈ txBad, w.before #[] s = true) : ∀ w ∈ vx_atS RX10 116 "java/lang/UnsupportedOperationException" ["java/lang/RuntimeException", "java/lang/Exception"], w.before args s = true := vx_hat (B := txBad) (fun w h => hts w (List.mem_cons_of_mem _ (List.mem_append_right _ h))) hbd_116 (fun w h => va_Nw.use (List.all_eq_true.mp txBad_tab w h) (hB w h))
abbrev rmX10_mark : Room := { frames := 6, cells := 1, slots := 6, locals := 100 }
set_option maxRecDepth 100000 in
set_option maxHeartbeats 4000000 in
theorem bX10_mark_31 {p : Program} {l : Launch} {e : Env} {s : State} {m : MethodId} {args : Array Value} {below : List Frame} {meth : Method} {c : Code} {dC : Nat → ClassId} {dI : Nat → Nat → Nat} {cyI cyB cyJ cyZ : ClassId} {A : Nat → Prop} {a0 a1 a2 a3 a4 a5 a6 b0_tape b0_kept b0_draftGround b0_draftLaw b0_grid b0_pack b0_pieces b0_thinning b1_ground b1_law b1_stroll : Nat} {g0_imageKept : Int32} {g0_wrongByte : Int32} {g1_drawSeed : Int32} {adS : Nat → Nat} (C0 : cxM p s m meth c args wsX10_mark RX10 cX10_mark 5 (some .int)) (hK : va_K (dC, dI) vwCl (tyA cyI cyB cyJ cyZ) s) (hN : nwA s) (hA : ∀ q : Nat, s.heap.size ≤ q → A q) (hXs : (txT adS) A s s.heap) (hl0 : l.stackTraces = false) (hT : ∀ x ∈ c.exceptionTable.toList, False) {post : Int32 → (Int32 × (Nat → Int32) × (Nat → Int32) × (Nat → Int32) × (Nat → Int32)) → Prop} {postX : String → (Int32 × (Nat → Int32) × (Nat → Int32) × (Nat → Int32) × (Nat → Int32)) → Prop} {Q : State → Prop} (hQ : Q = vx_MQ below (va_Qi post (fun u : Int32 × (Nat → Int32) × (Nat → Int32) × (Nat → Int32) × (Nat → Int32) => wAt dC dI cyI cyB cyJ cyZ A (ceX10_mark cyI cyB cyJ cyZ a0 a1 a2 a3 a4 a5 a6 b0_tape b0_kept b0_draftGround b0_draftLaw b0_grid b0_pack b0_pieces b0_thinning b1_ground b1_law b1_stroll g0_imageKept g0_wrongByte g1_drawSeed u.1 u.2.1 u.2.2.1 u.2.2.2.1 u.2.2.2.2)) A) (vx_X (fun _ : Int32 × (Nat → Int32) × (Nat → Int32) × (Nat → Int32) × (Nat → Int32) => True) (fun E (u : Int32 × (Nat → Int32) × (Nat → Int32) × (Nat → Int32) × (Nat → Int32)) t => postX E u ∧ wAt dC dI cyI cyB cyJ cyZ A (ceX10_mark cyI cyB cyJ cyZ a0 a1 a2 a3 a4 a5 a6 b0_tape b0_kept b0_draftGround b0_draftLaw b0_grid b0_pack b0_pieces b0_thinning b1_ground b1_law b1_stroll g0_imageKept g0_wrongByte g1_drawSeed u.1 u.2.1 u.2.2.1 u.2.2.2.1 u.2.2.2.2) t) A) args s 1 6 A) : ∀ (g2_size : Int32) (f3 : Nat → Int32) (f4 : Nat → Int32) (f5 : Nat → Int32) (f6 : Nat → Int32), wpX10_mark_31 post postX g2_size f3 f4 f5 f6 → AtW p l e rmX10_mark s m args below meth c dC dI A Q 5 0 0 (ceX10_mark cyI cyB cyJ cyZ a0 a1 a2 a3 a4 a5 a6 b0_tape b0_kept b0_draftGround b0_draftLaw b0_grid b0_pack b0_pieces b0_thinning b1_ground b1_law b1_stroll g0_imageKept g0_wrongByte g1_drawSeed g2_size f3 f4 f5 f6) [] 31 [] := by
  intro g2_size f3 f4 f5 f6 hw H locs hP hD hS ls hl
  have C1 := C0
  obtain ⟨hx, hb, hr, hml, hown, hts, hlocks⟩ := C1
  rw [hQ]
  exact vx_throwS (cls := "java/lang/IllegalArgumentException") (names := ["java/lang/RuntimeException", "java/lang/Exception"]) (mc := 1) (ms := 6) hx hb hl0 hown (by decide +kernel) (by decide +kernel) (hts (.classLink RX10 102 "java/lang/IllegalArgumentException") (List.mem_of_getElem? (i := 1) rfl)) (hts (.initialized "java/lang/IllegalArgumentException") (List.mem_of_getElem? (i := 2) rfl)) (hXs.1.2 37 _ rfl).1 (hatX10_mark_106 hts hXs.2.2.2) hgd_106 hXs.2.1 hXs.2.2.1 hS (hl.1.trans hml.symm) dX10_mark_31 dX10_mark_34 dX10_mark_35 dX10_mark_37 dX10_mark_40 (fun x h => (hT x h).elim) (by decide) (by decide) (by decide) (by decide) hlocks (fun t hvm hz hk => thr_X (g2_size, f3, f4, f5, f6) hw hP hK hD hS hvm hz hk) hS.2.2 (by decide) (by decide)
set_option maxRecDepth 100000 in
set_option maxHeartbeats 4000000 in
theorem ctX10_mark (l : Launch) (hl0 : l.stackTraces = false) (dC : Nat → ClassId) (dI : Nat → Nat → Nat) (cyI cyB cyJ cyZ : ClassId) (sz : Nat) (a0 a1 a2 a3 a4 a5 a6 b0_tape b0_kept b0_draftGround b0_draftLaw b0_grid b0_pack b0_pieces b0_thinning b1_ground b1_law b1_stroll : Nat) (g0_imageKept : Int32) (g0_wrongByte : Int32) (g1_drawSeed : Int32) (g2_size : Int32) (f3 : Nat → Int32) (f4 : Nat → Int32) (f5 : Nat → Int32) (f6 : Nat → Int32) (p0 : Int32) (p1 : Int32) (p2 : Int32) (p3 : Int32) (post : Int32 → (Int32 × (Nat → Int32) × (Nat → Int32) × (Nat → Int32) × (Nat → Int32)) → Prop) (postX : String → (Int32 × (Nat → Int32) × (Nat → Int32) × (Nat → Int32) × (Nat → Int32)) → Prop) (adS : Nat → Nat) (hw : wpX10_mark post postX g2_size f3 f4 f5 f6 p0 p1 p2 p3) : vx_Met l yX10_mark wsX10_mark rmX10_mark (va_Pc [.ref a0, .int p0, .int p1, .int p2, .int p3] (wPreX dC dI cyI cyB cyJ cyZ sz (ceX10_mark cyI cyB cyJ cyZ a0 a1 a2 a3 a4 a5 a6 b0_tape b0_kept b0_draftGround b0_draftLaw b0_grid b0_pack b0_pieces b0_thinning b1_ground b1_law b1_stroll g0_imageKept g0_wrongByte g1_drawSeed g2_size f3 f4 f5 f6) (txT adS))) (va_Qi post (fun u : Int32 × (Nat → Int32) × (Nat → Int32) × (Nat → Int32) × (Nat → Int32) => wAt dC dI cyI cyB cyJ cyZ (va_A (ceX10_mark cyI cyB cyJ cyZ a0 a1 a2 a3 a4 a5 a6 b0_tape b0_kept b0_draftGround b0_draftLaw b0_grid b0_pack b0_pieces b0_thinning b1_ground b1_law b1_stroll g0_imageKept g0_wrongByte g1_drawSeed g2_size f3 f4 f5 f6) sz) (ceX10_mark cyI cyB cyJ cyZ a0 a1 a2 a3 a4 a5 a6 b0_tape b0_kept b0_draftGround b0_draftLaw b0_grid b0_pack b0_pieces b0_thinning b1_ground b1_law b1_stroll g0_imageKept g0_wrongByte g1_drawSeed u.1 u.2.1 u.2.2.1 u.2.2.2.1 u.2.2.2.2)) (va_A (ceX10_mark cyI cyB cyJ cyZ a0 a1 a2 a3 a4 a5 a6 b0_tape b0_kept b0_draftGround b0_draftLaw b0_grid b0_pack b0_pieces b0_thinning b1_ground b1_law b1_stroll g0_imageKept g0_wrongByte g1_drawSeed g2_size f3 f4 f5 f6) sz)) (vx_X (fun _ : Int32 × (Nat → Int32) × (Nat → Int32) × (Nat → Int32) × (Nat → Int32) => True) (fun E (u : Int32 × (Nat → Int32) × (Nat → Int32) × (Nat → Int32) × (Nat → Int32)) t => postX E u ∧ wAt dC dI cyI cyB cyJ cyZ (va_A (ceX10_mark cyI cyB cyJ cyZ a0 a1 a2 a3 a4 a5 a6 b0_tape b0_kept b0_draftGround b0_draftLaw b0_grid b0_pack b0_pieces b0_thinning b1_ground b1_law b1_stroll g0_imageKept g0_wrongByte g1_drawSeed g2_size f3 f4 f5 f6) sz) (ceX10_mark cyI cyB cyJ cyZ a0 a1 a2 a3 a4 a5 a6 b0_tape b0_kept b0_draftGround b0_draftLaw b0_grid b0_pack b0_pieces b0_thinning b1_ground b1_law b1_stroll g0_imageKept g0_wrongByte g1_drawSeed u.1 u.2.1 u.2.2.1 u.2.2.2.1 u.2.2.2.2) t) (va_A (ceX10_mark cyI cyB cyJ cyZ a0 a1 a2 a3 a4 a5 a6 b0_tape b0_kept b0_draftGround b0_draftLaw b0_grid b0_pack b0_pieces b0_thinning b1_ground b1_law b1_stroll g0_imageKept g0_wrongByte g1_drawSeed g2_size f3 f4 f5 f6) sz)) 1 6 (va_A (ceX10_mark cyI cyB cyJ cyZ a0 a1 a2 a3 a4 a5 a6 b0_tape b0_kept b0_draftGround b0_draftLaw b0_grid b0_pack b0_pieces b0_thinning b1_ground b1_law b1_stroll g0_imageKept g0_wrongByte g1_drawSeed g2_size f3 f4 f5 f6) sz) := by
  refine vx_ofW (cc := cX10_mark) (maxL := 5) (ret := (some .int)) (by decide) rfl ?_
  intro p e s m args below meth c s₁ B hml hT hv
  obtain ⟨rfl, ⟨hsz, hP, hK, hD0, hN⟩, hXs⟩ := hv
  have hx := B.exec
  have hb := B.bytes
  have hr := B.returns
  have hts := atoms_spec (ws := wsX10_mark) B.pre
  have hown : s.vm.findClass RX10 = some m.cls := findClass_of_methodNamed B.named
  have hlocks := B.notSynchronized
  subst hsz
  have hD := hD0.self (sz := s.heap.size)
  generalize hAe : va_A (ceX10_mark cyI cyB cyJ cyZ a0 a1 a2 a3 a4 a5 a6 b0_tape b0_kept b0_draftGround b0_draftLaw b0_grid b0_pack b0_pieces b0_thinning b1_ground b1_law b1_stroll g0_imageKept g0_wrongByte g1_drawSeed g2_size f3 f4 f5 f6) s.heap.size = A at hD hXs ⊢
  have hA : ∀ q : Nat, s.heap.size ≤ q → A q := fun q h => by rw [← hAe]; exact Or.inr h
  have hS : va_S A s.heap s.heap [] := va_S.rf
  have C0 : cxM p s m meth c _ wsX10_mark RX10 cX10_mark 5 (some .int) := ⟨hx, hb, hr, hml, hown, hts, hlocks⟩
  have hl := lv_entry ([.ref a0, .int p0, .int p1, .int p2, .int p3]) (n := 5) (Nat.le_of_ble_eq_true rfl)
  rw [lg_entry_eq]
  generalize (lg_sl ([.ref a0, .int p0, .int p1, .int p2, .int p3]) ++ List.replicate (5 - (lg_sl ([.ref a0, .int p0, .int p1, .int p2, .int p3])).length) Slot.unset).toArray = ls at hl ⊢
  have hl : lv_has ls 5 [(0, .ref a0), (1, .int p0), (2, .int p1), (3, .int p2), (4, .int p3)] := hl
  show W p l e rmX10_mark s m _ below meth c _ _ _ _ _ _
  refine wq (fun Q hQ => ?_)
  refine lv_iload_n hx hb dX10_mark_0 rfl (lv_at hl 2 rfl) ?_
  refine lv_sipush (v := 999) hx hb dX10_mark_1 (by decide) ?_
  have hPc := hP.sub (ws' := ([] : va_W)) [] rfl
  have hDc := hD.sub (ws' := ([] : va_W)) [] (by decide) rfl
  have hFc := va_free (wc := ([] : va_W)) hD hS hA [] rfl
  refine va_calli (va_runS (As := [.int p1, .int 999]) (rest := []) ⟨hx, hb, hml, hown, hts⟩ (ctX10_isOutside l dC dI cyI cyB cyJ cyZ _ p1 999 _ hw) (va_cwS 2 hts gX10_mark_X10_isOutside rfl rfl rfl (by decide +kernel) ⟨Nat.le_of_ble_eq_true rfl, Nat.le_of_ble_eq_true rfl⟩) ⟨wPre_blind, fun U hU hW => wPre_of hPc hK hDc hN hU hW⟩ rfl rfl hl.1 rfl (lv_room (Nat.le_of_ble_eq_true rfl)) dX10_mark_4 ⟨(by decide), (by decide)⟩) hS (fun q _ h => hFc q h) hFc (fun r2 u1 t H1 locs ht hvm hw hB hz1 hk1 hS => ?_)
  obtain ⟨hP1, hK1, hD1⟩ := hB
  rw [ht] at hP1
  obtain ⟨hP, hD⟩ := va_join (wr := pickW (ceX10_mark cyI cyB cyJ cyZ a0 a1 a2 a3 a4 a5 a6 b0_tape b0_kept b0_draftGround b0_draftLaw b0_grid b0_pack b0_pieces b0_thinning b1_ground b1_law b1_stroll g0_imageKept g0_wrongByte g1_drawSeed g2_size f3 f4 f5 f6) [0, 1, 2, 3, 4, 5, 6]) (w1 := ([] : va_W)) hP hD [] [0, 1, 2, 3, 4, 5, 6] rfl rfl (by decide) (by decide) hk1 hFc hP1 hD1
  have hP := hP.sub (ws' := (ceX10_mark cyI cyB cyJ cyZ a0 a1 a2 a3 a4 a5 a6 b0_tape b0_kept b0_draftGround b0_draftLaw b0_grid b0_pack b0_pieces b0_thinning b1_ground b1_law b1_stroll g0_imageKept g0_wrongByte g1_drawSeed g2_size f3 f4 f5 f6)) [0, 1, 2, 3, 4, 5, 6] rfl
  have hD := hD.sub (ws' := (ceX10_mark cyI cyB cyJ cyZ a0 a1 a2 a3 a4 a5 a6 b0_tape b0_kept b0_draftGround b0_draftLaw b0_grid b0_pack b0_pieces b0_thinning b1_ground b1_law b1_stroll g0_imageKept g0_wrongByte g1_drawSeed g2_size f3 f4 f5 f6)) [0, 1, 2, 3, 4, 5, 6] (by decide) rfl
  generalize H1 = H at hP hS ⊢
  refine lv_if_ne (tgt := 31) hx hb dX10_mark_7 (by decide) (fun hc => ?_) (fun hc => ?_)
  · have hw := hw.1 hc
    refine W.widen (k := 0) (n := 0) (by decide) (by decide) ?_
    exact bX10_mark_31 C0 hK hN hA hXs hl0 hT hQ g2_size f3 f4 f5 f6 hw _ _ hP hD hS ls (lv_sub hl [] rfl)
  · have hw := hw.2 hc
    refine lv_iload_n hx hb dX10_mark_10 rfl (lv_at hl 3 rfl) ?_
    refine lv_sipush (v := 999) hx hb dX10_mark_11 (by decide) ?_
    have hPc := hP.sub (ws' := ([] : va_W)) [] rfl
    have hDc := hD.sub (ws' := ([] : va_W)) [] (by decide) rfl
    have hFc := va_free (wc := ([] : va_W)) hD hS hA [] rfl
    refine va_calli (va_runS (As := [.int p2, .int 999]) (rest := []) ⟨hx, hb, hml, hown, hts⟩ (ctX10_isOutside l dC dI cyI cyB cyJ cyZ _ p2 999 _ hw) (va_cwS 2 hts gX10_mark_X10_isOutside rfl rfl rfl (by decide +kernel) ⟨Nat.le_of_ble_eq_true rfl, Nat.le_of_ble_eq_true rfl⟩) ⟨wPre_blind, fun U hU hW => wPre_of hPc hK hDc hN hU hW⟩ rfl rfl hl.1 rfl (lv_room (Nat.le_of_ble_eq_true rfl)) dX10_mark_14 ⟨(by decide), (by decide)⟩) hS (fun q _ h => hFc q h) hFc (fun r4 u3 t H1 locs ht hvm hw hB hz1 hk1 hS => ?_)
    obtain ⟨hP1, hK1, hD1⟩ := hB
    rw [ht] at hP1
    obtain ⟨hP, hD⟩ := va_join (wr := pickW (ceX10_mark cyI cyB cyJ cyZ a0 a1 a2 a3 a4 a5 a6 b0_tape b0_kept b0_draftGround b0_draftLaw b0_grid b0_pack b0_pieces b0_thinning b1_ground b1_law b1_stroll g0_imageKept g0_wrongByte g1_drawSeed g2_size f3 f4 f5 f6) [0, 1, 2, 3, 4, 5, 6]) (w1 := ([] : va_W)) hP hD [] [0, 1, 2, 3, 4, 5, 6] rfl rfl (by decide) (by decide) hk1 hFc hP1 hD1
    have hP := hP.sub (ws' := (ceX10_mark cyI cyB cyJ cyZ a0 a1 a2 a3 a4 a5 a6 b0_tape b0_kept b0_draftGround b0_draftLaw b0_grid b0_pack b0_pieces b0_thinning b1_ground b1_law b1_stroll g0_imageKept g0_wrongByte g1_drawSeed g2_size f3 f4 f5 f6)) [0, 1, 2, 3, 4, 5, 6] rfl
    have hD := hD.sub (ws' := (ceX10_mark cyI cyB cyJ cyZ a0 a1 a2 a3 a4 a5 a6 b0_tape b0_kept b0_draftGround b0_draftLaw b0_grid b0_pack b0_pieces b0_thinning b1_ground b1_law b1_stroll g0_imageKept g0_wrongByte g1_drawSeed g2_size f3 f4 f5 f6)) [0, 1, 2, 3, 4, 5, 6] (by decide) rfl
    generalize H1 = H at hP hS ⊢
    refine lv_if_ne (tgt := 31) hx hb dX10_mark_17 (by decide) (fun hc => ?_) (fun hc => ?_)
    · have hw := hw.1 hc
      refine W.widen (k := 0) (n := 0) (by decide) (by decide) ?_
      exact bX10_mark_31 C0 hK hN hA hXs hl0 hT hQ g2_size f3 f4 f5 f6 hw _ _ hP hD hS ls (lv_sub hl [] rfl)
    · have hw := hw.2 hc
      refine lv_iload hx hb dX10_mark_20 (lv_at hl 4 rfl) ?_
      refine lv_sipush (v := 999) hx hb dX10_mark_22 (by decide) ?_
      have hPc := hP.sub (ws' := ([] : va_W)) [] rfl
      have hDc := hD.sub (ws' := ([] : va_W)) [] (by decide) rfl
      have hFc := va_free (wc := ([] : va_W)) hD hS hA [] rfl
      refine va_calli (va_runS (As := [.int p3, .int 999]) (rest := []) ⟨hx, hb, hml, hown, hts⟩ (ctX10_isOutside l dC dI cyI cyB cyJ cyZ _ p3 999 _ hw) (va_cwS 2 hts gX10_mark_X10_isOutside rfl rfl rfl (by decide +kernel) ⟨Nat.le_of_ble_eq_true rfl, Nat.le_of_ble_eq_true rfl⟩) ⟨wPre_blind, fun U hU hW => wPre_of hPc hK hDc hN hU hW⟩ rfl rfl hl.1 rfl (lv_room (Nat.le_of_ble_eq_true rfl)) dX10_mark_25 ⟨(by decide), (by decide)⟩) hS (fun q _ h => hFc q h) hFc (fun r6 u5 t H1 locs ht hvm hw hB hz1 hk1 hS => ?_)
      obtain ⟨hP1, hK1, hD1⟩ := hB
      rw [ht] at hP1
      obtain ⟨hP, hD⟩ := va_join (wr := pickW (ceX10_mark cyI cyB cyJ cyZ a0 a1 a2 a3 a4 a5 a6 b0_tape b0_kept b0_draftGround b0_draftLaw b0_grid b0_pack b0_pieces b0_thinning b1_ground b1_law b1_stroll g0_imageKept g0_wrongByte g1_drawSeed g2_size f3 f4 f5 f6) [0, 1, 2, 3, 4, 5, 6]) (w1 := ([] : va_W)) hP hD [] [0, 1, 2, 3, 4, 5, 6] rfl rfl (by decide) (by decide) hk1 hFc hP1 hD1
      have hP := hP.sub (ws' := (ceX10_mark cyI cyB cyJ cyZ a0 a1 a2 a3 a4 a5 a6 b0_tape b0_kept b0_draftGround b0_draftLaw b0_grid b0_pack b0_pieces b0_thinning b1_ground b1_law b1_stroll g0_imageKept g0_wrongByte g1_drawSeed g2_size f3 f4 f5 f6)) [0, 1, 2, 3, 4, 5, 6] rfl
      have hD := hD.sub (ws' := (ceX10_mark cyI cyB cyJ cyZ a0 a1 a2 a3 a4 a5 a6 b0_tape b0_kept b0_draftGround b0_draftLaw b0_grid b0_pack b0_pieces b0_thinning b1_ground b1_law b1_stroll g0_imageKept g0_wrongByte g1_drawSeed g2_size f3 f4 f5 f6)) [0, 1, 2, 3, 4, 5, 6] (by decide) rfl
      generalize H1 = H at hP hS ⊢
      refine lv_if_eq (tgt := 41) hx hb dX10_mark_28 (by decide) (fun hc => ?_) (fun hc => ?_)
      · have hw := hw.1 hc
        refine lv_aload_n hx hb dX10_mark_41 rfl (lv_at hl 0 rfl) ?_
        refine va_get (D := (dC, dI)) (ci := 10) (v := .ref a1) (C := RX10) (T := TX10) (N := 11) hx hb hts inX10_mark_X10 hown hK hP 0 rfl rfl 1 (by decide) (hts (.fieldLink RX10 19 "LeadPark" "scene" "LLeadPark$Scene;") (List.mem_of_getElem? (i := 5) rfl)) (fun _ h9 => h9) rfl dX10_mark_42 ?_
        refine va_getN (D := (dC, dI)) (ci := 6) (v := .ref a2) (C := RX6) (T := TX6) (N := 5) hx hb hts inX10_mark_X6 hown hK hP 1 rfl rfl 2 (by decide) (va_Nw.use rfl (hN _ (List.mem_of_getElem? (i := 31) rfl))) (fun _ h9 => h9) rfl dX10_mark_45 ?_
        refine va_getN (D := (dC, dI)) (ci := 3) (v := .int g2_size) (C := RX3) (T := TX3) (N := 5) hx hb hts inX10_mark_X3 hown hK hP 2 rfl rfl 4 (by decide) (va_Nw.use rfl (hN _ (List.mem_of_getElem? (i := 13) rfl))) (fun _ h9 => h9) rfl dX10_mark_48 ?_
        refine lv_bipush (v := 20) hx hb dX10_mark_51 (by decide) ?_
        refine lv_icmp_lt (tgt := 67) hx hb dX10_mark_53 (by decide) (fun hc => ?_) (fun hc => ?_)
        · have hw := hw.1 hc
          refine lv_aload_n hx hb dX10_mark_67 rfl (lv_at hl 0 rfl) ?_
          refine va_get (D := (dC, dI)) (ci := 10) (v := .ref a1) (C := RX10) (T := TX10) (N := 11) hx hb hts inX10_mark_X10 hown hK hP 0 rfl rfl 1 (by decide) (hts (.fieldLink RX10 19 "LeadPark" "scene" "LLeadPark$Scene;") (List.mem_of_getElem? (i := 5) rfl)) (fun _ h9 => h9) rfl dX10_mark_68 ?_
          refine va_getN (D := (dC, dI)) (ci := 6) (v := .ref a2) (C := RX6) (T := TX6) (N := 5) hx hb hts inX10_mark_X6 hown hK hP 1 rfl rfl 2 (by decide) (va_Nw.use rfl (hN _ (List.mem_of_getElem? (i := 31) rfl))) (fun _ h9 => h9) rfl dX10_mark_71 ?_
          refine lv_iload_n hx hb dX10_mark_74 rfl (lv_at hl 1 rfl) ?_
          refine lv_iload_n hx hb dX10_mark_75 rfl (lv_at hl 2 rfl) ?_
          refine lv_iload_n hx hb dX10_mark_76 rfl (lv_at hl 3 rfl) ?_
          refine lv_iload hx hb dX10_mark_77 (lv_at hl 4 rfl) ?_
          have hPc := hP.sub (ws' := (ceX3_add cyI cyB cyJ cyZ a2 a3 a4 a5 a6 g2_size f3 f4 f5 f6)) [2, 3, 4, 5, 6] rfl
          have hDc := hD.sub (ws' := (ceX3_add cyI cyB cyJ cyZ a2 a3 a4 a5 a6 g2_size f3 f4 f5 f6)) [2, 3, 4, 5, 6] (by decide) rfl
          have hFc := va_free (wc := (ceX3_add cyI cyB cyJ cyZ a2 a3 a4 a5 a6 g2_size f3 f4 f5 f6)) hD hS hA [2, 3, 4, 5, 6] rfl
          refine va_calli (va_runV (As := [.int p0, .int p1, .int p2, .int p3]) (rest := []) ⟨hx, hb, hml, hown, hts⟩ (ctX3_add l dC dI cyI cyB cyJ cyZ _ a2 a3 a4 a5 a6 g2_size f3 f4 f5 f6 p0 p1 p2 p3 _ hw) (cwV 4 hts gX10_mark_X3_add rfl rfl rfl (by decide +kernel) ⟨Nat.le_of_ble_eq_true rfl, Nat.le_of_ble_eq_true rfl⟩) ⟨wPre_blind, va_recv hK hPc (ci := 3) (q0 := 0) rfl rfl, fun U hU hW => wPre_of hPc hK hDc hN hU hW⟩ rfl rfl hl.1 rfl (lv_room (Nat.le_of_ble_eq_true rfl)) dX10_mark_79 ⟨(by decide), (by decide)⟩) hS (fun q _ h => hFc q h) hFc (fun r8 u7 t H1 locs ht hvm hw hB hz1 hk1 hS => ?_)
          obtain ⟨hP1, hK1, hD1⟩ := hB
          rw [ht] at hP1
          obtain ⟨hP, hD⟩ := va_join (wr := pickW (ceX10_mark cyI cyB cyJ cyZ a0 a1 a2 a3 a4 a5 a6 b0_tape b0_kept b0_draftGround b0_draftLaw b0_grid b0_pack b0_pieces b0_thinning b1_ground b1_law b1_stroll g0_imageKept g0_wrongByte g1_drawSeed g2_size f3 f4 f5 f6) [0, 1]) (w1 := (ceX3_add cyI cyB cyJ cyZ a2 a3 a4 a5 a6 u7.1 u7.2.1 u7.2.2.1 u7.2.2.2.1 u7.2.2.2.2)) hP hD [2, 3, 4, 5, 6] [0, 1] rfl rfl (by decide) (by decide) hk1 hFc hP1 hD1
          have hP := hP.sub (ws' := (ceX10_mark cyI cyB cyJ cyZ a0 a1 a2 a3 a4 a5 a6 b0_tape b0_kept b0_draftGround b0_draftLaw b0_grid b0_pack b0_pieces b0_thinning b1_ground b1_law b1_stroll g0_imageKept g0_wrongByte g1_drawSeed u7.1 u7.2.1 u7.2.2.1 u7.2.2.2.1 u7.2.2.2.2)) [0, 1, 2, 3, 4, 5, 6] rfl
          have hD := hD.sub (ws' := (ceX10_mark cyI cyB cyJ cyZ a0 a1 a2 a3 a4 a5 a6 b0_tape b0_kept b0_draftGround b0_draftLaw b0_grid b0_pack b0_pieces b0_thinning b1_ground b1_law b1_stroll g0_imageKept g0_wrongByte g1_drawSeed u7.1 u7.2.1 u7.2.2.1 u7.2.2.2.1 u7.2.2.2.2)) [0, 1, 2, 3, 4, 5, 6] (by decide) rfl
          generalize H1 = H at hP hS ⊢
          rw [hQ]
          refine vx_ret ?_
          refine W.widen (k := 1) (n := 6) (by decide) (by decide) ?_
          exact W.iret (v := r8) hx hb hr (fun t ht hW => ⟨⟨r8, (u7.1, u7.2.1, u7.2.2.1, u7.2.2.2.1, u7.2.2.2.2), rfl, hw, by rw [ht]; exact hP, va_K.moved hW.alike hK, hD⟩, hS.F ht⟩) hS.2.2 dX10_mark_82
        · have hw := hw.2 hc
          rw [hQ]
          exact vx_throwSW (cls := "java/lang/UnsupportedOperationException") (names := ["java/lang/RuntimeException", "java/lang/Exception"]) (mc := 1) (ms := 6) hx hb hl0 hown (by decide +kernel) (by decide +kernel) (hts (.classLink RX10 112 "java/lang/UnsupportedOperationException") (List.mem_of_getElem? (i := 3) rfl)) (hts (.initialized "java/lang/UnsupportedOperationException") (List.mem_of_getElem? (i := 4) rfl)) (hXs.1.2 38 _ rfl).1 (hatX10_mark_116 hts hXs.2.2.2) hgd_116 hXs.2.1 hXs.2.2.1 hS (hl.1.trans hml.symm) dX10_mark_56 dX10_mark_59 dX10_mark_60 dX10_mark_63 dX10_mark_66 (fun x h => (hT x h).elim) (by decide) (by decide) (by decide) (by decide) hlocks (fun t hvm hz hk => thr_X (g2_size, f3, f4, f5, f6) hw hP hK hD hS hvm hz hk) hS.2.2 (by decide) (by decide)
      · have hw := hw.2 hc
        refine W.widen (k := 0) (n := 0) (by decide) (by decide) ?_
        exact bX10_mark_31 C0 hK hN hA hXs hl0 hT hQ g2_size f3 f4 f5 f6 hw _ _ hP hD hS ls (lv_sub hl [] rfl)
/-! LeadPark.unmark ()I -/
abbrev ceX10_unmark (cyI cyB cyJ cyZ : ClassId) (a0 a1 a2 b0_tape b0_kept b0_draftGround b0_draftLaw b0_grid b0_pack b0_pieces b0_thinning b1_ground b1_law b1_stroll b2_minutes b2_xs b2_ys b2_whose : Nat) (g0_imageKept : Int32) (g0_wrongByte : Int32) (g1_drawSeed : Int32) (g2_size : Int32) : va_W := [(a0, .inr (10, [.ref b0_tape, .ref a1, .ref b0_kept, .ref b0_draftGround, .ref b0_draftLaw, .ref b0_grid, .ref b0_pack, .ref b0_pieces, .ref b0_thinning, .int g0_imageKept, .int g0_wrongByte])), (a1, .inr (6, [.ref b1_ground, .ref b1_law, .ref a2, .ref b1_stroll, .int g1_drawSeed])), (a2, .inr (3, [.ref b2_minutes, .ref b2_xs, .ref b2_ys, .ref b2_whose, .int g2_size]))]

theorem inX10_unmark_X10 : ∀ w ∈ wsX100, w ∈ wsX10_unmark := fun _ h => List.mem_cons_of_mem _ (List.mem_append_left _ (List.mem_append_left _ (List.mem_append_right _ h)))
theorem inX10_unmark_X3 : ∀ w ∈ wsX30, w ∈ wsX10_unmark := fun _ h => List.mem_cons_of_mem _ (List.mem_append_right _ h)
theorem inX10_unmark_X6 : ∀ w ∈ wsX60, w ∈ wsX10_unmark := fun _ h => List.mem_cons_of_mem _ (List.mem_append_left _ (List.mem_append_right _ h))
abbrev rmX10_unmark : Room := { frames := 0, cells := 0, slots := 0, locals := 0 }
set_option maxRecDepth 100000 in
set_option maxHeartbeats 4000000 in
theorem ctX10_unmark (l : Launch) (dC : Nat → ClassId) (dI : Nat → Nat → Nat) (cyI cyB cyJ cyZ : ClassId) (sz : Nat) (a0 a1 a2 b0_tape b0_kept b0_draftGround b0_draftLaw b0_grid b0_pack b0_pieces b0_thinning b1_ground b1_law b1_stroll b2_minutes b2_xs b2_ys b2_whose : Nat) (g0_imageKept : Int32) (g0_wrongByte : Int32) (g1_drawSeed : Int32) (g2_size : Int32) (post : Int32 → Int32 → Prop) (hw : wpX10_unmark post g2_size ) : Met l yX10_unmark wsX10_unmark rmX10_unmark (va_Pc [.ref a0] (wPre dC dI cyI cyB cyJ cyZ sz (ceX10_unmark cyI cyB cyJ cyZ a0 a1 a2 b0_tape b0_kept b0_draftGround b0_draftLaw b0_grid b0_pack b0_pieces b0_thinning b1_ground b1_law b1_stroll b2_minutes b2_xs b2_ys b2_whose g0_imageKept g0_wrongByte g1_drawSeed g2_size))) (va_Qi post (fun u : Int32 => wAt dC dI cyI cyB cyJ cyZ (va_A (ceX10_unmark cyI cyB cyJ cyZ a0 a1 a2 b0_tape b0_kept b0_draftGround b0_draftLaw b0_grid b0_pack b0_pieces b0_thinning b1_ground b1_law b1_stroll b2_minutes b2_xs b2_ys b2_whose g0_imageKept g0_wrongByte g1_drawSeed g2_size) sz) (ceX10_unmark cyI cyB cyJ cyZ a0 a1 a2 b0_tape b0_kept b0_draftGround b0_draftLaw b0_grid b0_pack b0_pieces b0_thinning b1_ground b1_law b1_stroll b2_minutes b2_xs b2_ys b2_whose g0_imageKept g0_wrongByte g1_drawSeed u)) (va_A (ceX10_unmark cyI cyB cyJ cyZ a0 a1 a2 b0_tape b0_kept b0_draftGround b0_draftLaw b0_grid b0_pack b0_pieces b0_thinning b1_ground b1_law b1_stroll b2_minutes b2_xs b2_ys b2_whose g0_imageKept g0_wrongByte g1_drawSeed g2_size) sz)) 0 0 (va_A (ceX10_unmark cyI cyB cyJ cyZ a0 a1 a2 b0_tape b0_kept b0_draftGround b0_draftLaw b0_grid b0_pack b0_pieces b0_thinning b1_ground b1_law b1_stroll b2_minutes b2_xs b2_ys b2_whose g0_imageKept g0_wrongByte g1_drawSeed g2_size) sz) := by
  refine Met.ofW (cc := cX10_unmark) (maxL := 1) (ret := (some .int)) (by decide) rfl ?_
  intro p e s m args below meth c s₁ B hml hv
  obtain ⟨rfl, hsz, hP, hK, hD0, hN⟩ := hv
  have hx := B.exec
  have hb := B.bytes
  have hr := B.returns
  have hts := atoms_spec (ws := wsX10_unmark) B.pre
  have hown : s.vm.findClass RX10 = some m.cls := findClass_of_methodNamed B.named
  have hlocks := B.notSynchronized
  subst hsz
  have hD := hD0.self (sz := s.heap.size)
  generalize hAe : va_A (ceX10_unmark cyI cyB cyJ cyZ a0 a1 a2 b0_tape b0_kept b0_draftGround b0_draftLaw b0_grid b0_pack b0_pieces b0_thinning b1_ground b1_law b1_stroll b2_minutes b2_xs b2_ys b2_whose g0_imageKept g0_wrongByte g1_drawSeed g2_size) s.heap.size = A at hD ⊢
  have hA : ∀ q : Nat, s.heap.size ≤ q → A q := fun q h => by rw [← hAe]; exact Or.inr h
  have hS : va_S A s.heap s.heap [] := va_S.rf
  have C0 : cxM p s m meth c _ wsX10_unmark RX10 cX10_unmark 1 (some .int) := ⟨hx, hb, hr, hml, hown, hts, hlocks⟩
  have hl := lv_entry ([.ref a0]) (n := 1) (Nat.le_of_ble_eq_true rfl)
  rw [lg_entry_eq]
  generalize (lg_sl ([.ref a0]) ++ List.replicate (1 - (lg_sl ([.ref a0])).length) Slot.unset).toArray = ls at hl ⊢
  have hl : lv_has ls 1 [(0, .ref a0)] := hl
  show W p l e rmX10_unmark s m _ below meth c _ _ _ _ _ _
  refine wq (fun Q hQ => ?_)
  refine lv_aload_n hx hb dX10_unmark_0 rfl (lv_at hl 0 rfl) ?_
  refine va_get (D := (dC, dI)) (ci := 10) (v := .ref a1) (C := RX10) (T := TX10) (N := 11) hx hb hts inX10_unmark_X10 hown hK hP 0 rfl rfl 1 (by decide) (hts (.fieldLink RX10 19 "LeadPark" "scene" "LLeadPark$Scene;") (List.mem_of_getElem? (i := 1) rfl)) (fun _ h9 => h9) rfl dX10_unmark_1 ?_
  refine va_getN (D := (dC, dI)) (ci := 6) (v := .ref a2) (C := RX6) (T := TX6) (N := 5) hx hb hts inX10_unmark_X6 hown hK hP 1 rfl rfl 2 (by decide) (va_Nw.use rfl (hN _ (List.mem_of_getElem? (i := 31) rfl))) (fun _ h9 => h9) rfl dX10_unmark_4 ?_
  refine va_getN (D := (dC, dI)) (ci := 3) (v := .int g2_size) (C := RX3) (T := TX3) (N := 5) hx hb hts inX10_unmark_X3 hown hK hP 2 rfl rfl 4 (by decide) (va_Nw.use rfl (hN _ (List.mem_of_getElem? (i := 13) rfl))) (fun _ h9 => h9) rfl dX10_unmark_7 ?_
  refine lv_if_ne (tgt := 15) hx hb dX10_unmark_10 (by decide) (fun hc => ?_) (fun hc => ?_)
  · have hw := hw.1 hc
    refine lv_aload_n hx hb dX10_unmark_15 rfl (lv_at hl 0 rfl) ?_
    refine va_get (D := (dC, dI)) (ci := 10) (v := .ref a1) (C := RX10) (T := TX10) (N := 11) hx hb hts inX10_unmark_X10 hown hK hP 0 rfl rfl 1 (by decide) (hts (.fieldLink RX10 19 "LeadPark" "scene" "LLeadPark$Scene;") (List.mem_of_getElem? (i := 1) rfl)) (fun _ h9 => h9) rfl dX10_unmark_16 ?_
    refine va_getN (D := (dC, dI)) (ci := 6) (v := .ref a2) (C := RX6) (T := TX6) (N := 5) hx hb hts inX10_unmark_X6 hown hK hP 1 rfl rfl 2 (by decide) (va_Nw.use rfl (hN _ (List.mem_of_getElem? (i := 31) rfl))) (fun _ h9 => h9) rfl dX10_unmark_19 ?_
    refine lv_dup hx hb dX10_unmark_22 rfl ?_
    refine va_getN (D := (dC, dI)) (ci := 3) (v := .int g2_size) (C := RX3) (T := TX3) (N := 5) hx hb hts inX10_unmark_X3 hown hK hP 2 rfl rfl 4 (by decide) (va_Nw.use rfl (hN _ (List.mem_of_getElem? (i := 13) rfl))) (fun _ h9 => h9) rfl dX10_unmark_23 ?_
    refine lv_iconst (v := 1) hx hb dX10_unmark_26 (by decide) ?_
    refine lv_isub hx hb dX10_unmark_27 ?_
    refine lv_topi (fun v1 ev1 => ?_)
    have hw := hw v1 ev1
    refine va_putN (D := (dC, dI)) (ci := 3) (v := .int v1) (ty := .int) (C := RX3) (T := TX3) (N := 5) hx hb hts inX10_unmark_X3 tyX3 tyX3_ok nmX3 hown hK hP hD hS 2 rfl rfl 4 (by decide) (va_Nw.use rfl (hN _ (List.mem_of_getElem? (i := 13) rfl))) (fun _ h9 => h9) rfl (by decide +kernel) rfl rfl (Nat.le_of_ble_eq_true rfl) dX10_unmark_28 (fun H locs hP hD hS => ?_)
    have hP : va_P (dC, dI) vwCl (ceX10_unmark cyI cyB cyJ cyZ a0 a1 a2 b0_tape b0_kept b0_draftGround b0_draftLaw b0_grid b0_pack b0_pieces b0_thinning b1_ground b1_law b1_stroll b2_minutes b2_xs b2_ys b2_whose g0_imageKept g0_wrongByte g1_drawSeed v1) H := hP
    have hD : va_D A (ceX10_unmark cyI cyB cyJ cyZ a0 a1 a2 b0_tape b0_kept b0_draftGround b0_draftLaw b0_grid b0_pack b0_pieces b0_thinning b1_ground b1_law b1_stroll b2_minutes b2_xs b2_ys b2_whose g0_imageKept g0_wrongByte g1_drawSeed v1) := hD
    refine lv_aload_n hx hb dX10_unmark_31 rfl (lv_at hl 0 rfl) ?_
    refine va_get (D := (dC, dI)) (ci := 10) (v := .ref a1) (C := RX10) (T := TX10) (N := 11) hx hb hts inX10_unmark_X10 hown hK hP 0 rfl rfl 1 (by decide) (hts (.fieldLink RX10 19 "LeadPark" "scene" "LLeadPark$Scene;") (List.mem_of_getElem? (i := 1) rfl)) (fun _ h9 => h9) rfl dX10_unmark_32 ?_
    refine va_getN (D := (dC, dI)) (ci := 6) (v := .ref a2) (C := RX6) (T := TX6) (N := 5) hx hb hts inX10_unmark_X6 hown hK hP 1 rfl rfl 2 (by decide) (va_Nw.use rfl (hN _ (List.mem_of_getElem? (i := 31) rfl))) (fun _ h9 => h9) rfl dX10_unmark_35 ?_
    refine va_getN (D := (dC, dI)) (ci := 3) (v := .int v1) (C := RX3) (T := TX3) (N := 5) hx hb hts inX10_unmark_X3 hown hK hP 2 rfl rfl 4 (by decide) (va_Nw.use rfl (hN _ (List.mem_of_getElem? (i := 13) rfl))) (fun _ h9 => h9) rfl dX10_unmark_38 ?_
    rw [hQ]
    exact W.iret (v := v1) hx hb hr (fun t ht hW => ⟨⟨v1, (v1), rfl, hw, by rw [ht]; exact hP, va_K.moved hW.alike hK, hD⟩, hS.F ht⟩) hS.2.2 dX10_unmark_41
  · have hw := hw.2 hc
    refine lv_iconst (v := (-1)) hx hb dX10_unmark_13 (by decide) ?_
    rw [hQ]
    exact W.iret (v := (-1)) hx hb hr (fun t ht hW => ⟨⟨(-1), (g2_size), rfl, hw, by rw [ht]; exact hP, va_K.moved hW.alike hK, hD⟩, hS.F ht⟩) hS.2.2 dX10_unmark_14
/-! LeadPark.needed ()I -/
abbrev ceX10_needed (cyI cyB cyJ cyZ : ClassId) (a0 a1 a2 a3 a4 a5 a6 b0_tape b0_kept b0_draftGround b0_draftLaw b0_grid b0_pack b0_pieces b0_thinning b1_ground b1_law b1_stroll : Nat) (g0_imageKept : Int32) (g0_wrongByte : Int32) (g1_drawSeed : Int32) (g2_size : Int32) (f3 : Nat → Int32) (f4 : Nat → Int32) (f5 : Nat → Int32) (f6 : Nat → Int32) : va_W := [(a0, .inr (10, [.ref b0_tape, .ref a1, .ref b0_kept, .ref b0_draftGround, .ref b0_draftLaw, .ref b0_grid, .ref b0_pack, .ref b0_pieces, .ref b0_thinning, .int g0_imageKept, .int g0_wrongByte])), (a1, .inr (6, [.ref b1_ground, .ref b1_law, .ref a2, .ref b1_stroll, .int g1_drawSeed])), (a2, .inr (3, [.ref a4, .ref a5, .ref a6, .ref a3, .int g2_size])), (a3, .inl (cyI, 20, .inl f3)), (a4, .inl (cyI, 20, .inl f4)), (a5, .inl (cyI, 20, .inl f5)), (a6, .inl (cyI, 20, .inl f6))]

theorem inX10_needed_X10 : ∀ w ∈ wsX100, w ∈ wsX10_needed := fun _ h => List.mem_cons_of_mem _ (List.mem_append_left _ (List.mem_append_left _ (List.mem_append_right _ h)))
theorem inX10_needed_X6 : ∀ w ∈ wsX60, w ∈ wsX10_needed := fun _ h => List.mem_cons_of_mem _ (List.mem_append_left _ (List.mem_append_right _ h))
abbrev rmX10_needed : Room := { frames := 2, cells := 0, slots := 0, locals := 63 }
set_option maxRecDepth 100000 in
set_option maxHeartbeats 4000000 in
theorem ctX10_needed (l : Launch) (dC : Nat → ClassId) (dI : Nat → Nat → Nat) (cyI cyB cyJ cyZ : ClassId) (sz : Nat) (a0 a1 a2 a3 a4 a5 a6 b0_tape b0_kept b0_draftGround b0_draftLaw b0_grid b0_pack b0_pieces b0_thinning b1_ground b1_law b1_stroll : Nat) (g0_imageKept : Int32) (g0_wrongByte : Int32) (g1_drawSeed : Int32) (g2_size : Int32) (f3 : Nat → Int32) (f4 : Nat → Int32) (f5 : Nat → Int32) (f6 : Nat → Int32) (post : Int32 → Unit → Prop) (hw : wpX10_needed post g2_size f3 f4 f5 f6 ) : Met l yX10_needed wsX10_needed rmX10_needed (va_Pc [.ref a0] (wPre dC dI cyI cyB cyJ cyZ sz (ceX10_needed cyI cyB cyJ cyZ a0 a1 a2 a3 a4 a5 a6 b0_tape b0_kept b0_draftGround b0_draftLaw b0_grid b0_pack b0_pieces b0_thinning b1_ground b1_law b1_stroll g0_imageKept g0_wrongByte g1_drawSeed g2_size f3 f4 f5 f6))) (va_Qi post (fun u : Unit => wAt dC dI cyI cyB cyJ cyZ (va_A (ceX10_needed cyI cyB cyJ cyZ a0 a1 a2 a3 a4 a5 a6 b0_tape b0_kept b0_draftGround b0_draftLaw b0_grid b0_pack b0_pieces b0_thinning b1_ground b1_law b1_stroll g0_imageKept g0_wrongByte g1_drawSeed g2_size f3 f4 f5 f6) sz) (ceX10_needed cyI cyB cyJ cyZ a0 a1 a2 a3 a4 a5 a6 b0_tape b0_kept b0_draftGround b0_draftLaw b0_grid b0_pack b0_pieces b0_thinning b1_ground b1_law b1_stroll g0_imageKept g0_wrongByte g1_drawSeed g2_size f3 f4 f5 f6)) (va_A (ceX10_needed cyI cyB cyJ cyZ a0 a1 a2 a3 a4 a5 a6 b0_tape b0_kept b0_draftGround b0_draftLaw b0_grid b0_pack b0_pieces b0_thinning b1_ground b1_law b1_stroll g0_imageKept g0_wrongByte g1_drawSeed g2_size f3 f4 f5 f6) sz)) 0 0 (va_A (ceX10_needed cyI cyB cyJ cyZ a0 a1 a2 a3 a4 a5 a6 b0_tape b0_kept b0_draftGround b0_draftLaw b0_grid b0_pack b0_pieces b0_thinning b1_ground b1_law b1_stroll g0_imageKept g0_wrongByte g1_drawSeed g2_size f3 f4 f5 f6) sz) := by
  refine Met.ofW (cc := cX10_needed) (maxL := 1) (ret := (some .int)) (by decide) rfl ?_
  intro p e s m args below meth c s₁ B hml hv
  obtain ⟨rfl, hsz, hP, hK, hD0, hN⟩ := hv
  have hx := B.exec
  have hb := B.bytes
  have hr := B.returns
  have hts := atoms_spec (ws := wsX10_needed) B.pre
  have hown : s.vm.findClass RX10 = some m.cls := findClass_of_methodNamed B.named
  have hlocks := B.notSynchronized
  subst hsz
  have hD := hD0.self (sz := s.heap.size)
  generalize hAe : va_A (ceX10_needed cyI cyB cyJ cyZ a0 a1 a2 a3 a4 a5 a6 b0_tape b0_kept b0_draftGround b0_draftLaw b0_grid b0_pack b0_pieces b0_thinning b1_ground b1_law b1_stroll g0_imageKept g0_wrongByte g1_drawSeed g2_size f3 f4 f5 f6) s.heap.size = A at hD ⊢
  have hA : ∀ q : Nat, s.heap.size ≤ q → A q := fun q h => by rw [← hAe]; exact Or.inr h
  have hS : va_S A s.heap s.heap [] := va_S.rf
  have C0 : cxM p s m meth c _ wsX10_needed RX10 cX10_needed 1 (some .int) := ⟨hx, hb, hr, hml, hown, hts, hlocks⟩
  have hl := lv_entry ([.ref a0]) (n := 1) (Nat.le_of_ble_eq_true rfl)
  rw [lg_entry_eq]
  generalize (lg_sl ([.ref a0]) ++ List.replicate (1 - (lg_sl ([.ref a0])).length) Slot.unset).toArray = ls at hl ⊢
  have hl : lv_has ls 1 [(0, .ref a0)] := hl
  show W p l e rmX10_needed s m _ below meth c _ _ _ _ _ _
  refine wq (fun Q hQ => ?_)
  refine lv_aload_n hx hb dX10_needed_0 rfl (lv_at hl 0 rfl) ?_
  refine va_get (D := (dC, dI)) (ci := 10) (v := .ref a1) (C := RX10) (T := TX10) (N := 11) hx hb hts inX10_needed_X10 hown hK hP 0 rfl rfl 1 (by decide) (hts (.fieldLink RX10 19 "LeadPark" "scene" "LLeadPark$Scene;") (List.mem_of_getElem? (i := 1) rfl)) (fun _ h9 => h9) rfl dX10_needed_1 ?_
  refine va_getN (D := (dC, dI)) (ci := 6) (v := .ref a2) (C := RX6) (T := TX6) (N := 5) hx hb hts inX10_needed_X6 hown hK hP 1 rfl rfl 2 (by decide) (va_Nw.use rfl (hN _ (List.mem_of_getElem? (i := 31) rfl))) (fun _ h9 => h9) rfl dX10_needed_4 ?_
  have hPc := hP.sub (ws' := (ceX3_greatestOfOneMinute cyI cyB cyJ cyZ a2 a3 a4 a5 a6 g2_size f3 f4 f5 f6)) [2, 3, 4, 5, 6] rfl
  have hDc := hD.sub (ws' := (ceX3_greatestOfOneMinute cyI cyB cyJ cyZ a2 a3 a4 a5 a6 g2_size f3 f4 f5 f6)) [2, 3, 4, 5, 6] (by decide) rfl
  have hFc := va_free (wc := (ceX3_greatestOfOneMinute cyI cyB cyJ cyZ a2 a3 a4 a5 a6 g2_size f3 f4 f5 f6)) hD hS hA [2, 3, 4, 5, 6] rfl
  refine va_calli (va_runV (As := []) (rest := []) ⟨hx, hb, hml, hown, hts⟩ (ctX3_greatestOfOneMinute l dC dI cyI cyB cyJ cyZ _ a2 a3 a4 a5 a6 g2_size f3 f4 f5 f6 _ hw) (cwV 0 hts gX10_needed_X3_greatestOfOneMinute rfl rfl rfl (by decide +kernel) ⟨Nat.le_of_ble_eq_true rfl, Nat.le_of_ble_eq_true rfl⟩) ⟨wPre_blind, va_recv hK hPc (ci := 3) (q0 := 0) rfl rfl, fun U hU hW => wPre_of hPc hK hDc hN hU hW⟩ rfl rfl hl.1 rfl (lv_room (Nat.le_of_ble_eq_true rfl)) dX10_needed_7 ⟨(Nat.zero_le _), (Nat.zero_le _)⟩) hS (fun q _ h => hFc q h) hFc (fun r2 u1 t H1 locs ht hvm hw hB hz1 hk1 hS => ?_)
  obtain ⟨hP1, hK1, hD1⟩ := hB
  rw [ht] at hP1
  obtain ⟨hP, hD⟩ := va_join (wr := pickW (ceX10_needed cyI cyB cyJ cyZ a0 a1 a2 a3 a4 a5 a6 b0_tape b0_kept b0_draftGround b0_draftLaw b0_grid b0_pack b0_pieces b0_thinning b1_ground b1_law b1_stroll g0_imageKept g0_wrongByte g1_drawSeed g2_size f3 f4 f5 f6) [0, 1]) (w1 := (ceX3_greatestOfOneMinute cyI cyB cyJ cyZ a2 a3 a4 a5 a6 g2_size f3 f4 f5 f6)) hP hD [2, 3, 4, 5, 6] [0, 1] rfl rfl (by decide) (by decide) hk1 hFc hP1 hD1
  have hP := hP.sub (ws' := (ceX10_needed cyI cyB cyJ cyZ a0 a1 a2 a3 a4 a5 a6 b0_tape b0_kept b0_draftGround b0_draftLaw b0_grid b0_pack b0_pieces b0_thinning b1_ground b1_law b1_stroll g0_imageKept g0_wrongByte g1_drawSeed g2_size f3 f4 f5 f6)) [0, 1, 2, 3, 4, 5, 6] rfl
  have hD := hD.sub (ws' := (ceX10_needed cyI cyB cyJ cyZ a0 a1 a2 a3 a4 a5 a6 b0_tape b0_kept b0_draftGround b0_draftLaw b0_grid b0_pack b0_pieces b0_thinning b1_ground b1_law b1_stroll g0_imageKept g0_wrongByte g1_drawSeed g2_size f3 f4 f5 f6)) [0, 1, 2, 3, 4, 5, 6] (by decide) rfl
  generalize H1 = H at hP hS ⊢
  rw [hQ]
  exact W.iret (v := r2) hx hb hr (fun t ht hW => ⟨⟨r2, (), rfl, hw, by rw [ht]; exact hP, va_K.moved hW.alike hK, hD⟩, hS.F ht⟩) hS.2.2 dX10_needed_10
/-! LeadPark.fits (IIZ)I -/
abbrev ceX10_fits (cyI cyB cyJ cyZ : ClassId) (a0 a1 a2 a3 a4 a5 a6 b0_tape b0_kept b0_draftGround b0_draftLaw b0_grid b0_pack b0_pieces b0_thinning b1_ground b1_law b1_stroll : Nat) (g0_imageKept : Int32) (g0_wrongByte : Int32) (g1_drawSeed : Int32) (g2_size : Int32) (f3 : Nat → Int32) (f4 : Nat → Int32) (f5 : Nat → Int32) (f6 : Nat → Int32) : va_W := [(a0, .inr (10, [.ref b0_tape, .ref a1, .ref b0_kept, .ref b0_draftGround, .ref b0_draftLaw, .ref b0_grid, .ref b0_pack, .ref b0_pieces, .ref b0_thinning, .int g0_imageKept, .int g0_wrongByte])), (a1, .inr (6, [.ref b1_ground, .ref b1_law, .ref a2, .ref b1_stroll, .int g1_drawSeed])), (a2, .inr (3, [.ref a3, .ref a5, .ref a6, .ref a4, .int g2_size])), (a3, .inl (cyI, 20, .inl f3)), (a4, .inl (cyI, 20, .inl f4)), (a5, .inl (cyI, 20, .inl f5)), (a6, .inl (cyI, 20, .inl f6))]

theorem inX10_fits_X10 : ∀ w ∈ wsX100, w ∈ wsX10_fits := fun _ h => List.mem_cons_of_mem _ (List.mem_append_left _ (List.mem_append_left _ (List.mem_append_left _ (List.mem_append_right _ h))))
theorem inX10_fits_X6 : ∀ w ∈ wsX60, w ∈ wsX10_fits := fun _ h => List.mem_cons_of_mem _ (List.mem_append_left _ (List.mem_append_left _ (List.mem_append_right _ h)))
theorem hatX10_fits_106 {args : Array Value} {s : State} (hts : ∀ w ∈ wsX10_fits, w.before args s = true) (hB : ∀ w ∈ txBad, w.before #[] s = true) : ∀ w ∈ vx_atS RX10 106 "java/lang/IllegalArgumentException" ["java/lang/RuntimeException", "java/lang/Exception"], w.before args s = true := vx_hat (B := txBad) (fun w h => hts w (List.mem_cons_of_mem _ (List.mem_append_right _ h))) hbd_106 (fun w h => va_Nw.use (List.all_eq_true.mp txBad_tab w h) (hB w h))
abbrev rmX10_fits : Room := { frames := 6, cells := 1, slots := 6, locals := 100 }
set_option maxRecDepth 100000 in
set_option maxHeartbeats 4000000 in
theorem bX10_fits_19 {p : Program} {l : Launch} {e : Env} {s : State} {m : MethodId} {args : Array Value} {below : List Frame} {meth : Method} {c : Code} {dC : Nat → ClassId} {dI : Nat → Nat → Nat} {cyI cyB cyJ cyZ : ClassId} {A : Nat → Prop} {a0 a1 a2 a3 a4 a5 a6 b0_tape b0_kept b0_draftGround b0_draftLaw b0_grid b0_pack b0_pieces b0_thinning b1_ground b1_law b1_stroll : Nat} {g0_imageKept : Int32} {g0_wrongByte : Int32} {g1_drawSeed : Int32} {adS : Nat → Nat} (C0 : cxM p s m meth c args wsX10_fits RX10 cX10_fits 4 (some .int)) (hK : va_K (dC, dI) vwCl (tyA cyI cyB cyJ cyZ) s) (hN : nwA s) (hA : ∀ q : Nat, s.heap.size ≤ q → A q) (hXs : (txT adS) A s s.heap) (hl0 : l.stackTraces = false) (hT : ∀ x ∈ c.exceptionTable.toList, False) {post : Int32 → Unit → Prop} {postX : String → Unit → Prop} {g2_size : Int32} {f3 : Nat → Int32} {f4 : Nat → Int32} {f5 : Nat → Int32} {f6 : Nat → Int32} {Q : State → Prop} (hQ : Q = vx_MQ below (va_Qi post (fun u : Unit => wAt dC dI cyI cyB cyJ cyZ A (ceX10_fits cyI cyB cyJ cyZ a0 a1 a2 a3 a4 a5 a6 b0_tape b0_kept b0_draftGround b0_draftLaw b0_grid b0_pack b0_pieces b0_thinning b1_ground b1_law b1_stroll g0_imageKept g0_wrongByte g1_drawSeed g2_size f3 f4 f5 f6)) A) (vx_X (fun _ : Unit => True) (fun E (u : Unit) t => postX E u ∧ wAt dC dI cyI cyB cyJ cyZ A (ceX10_fits cyI cyB cyJ cyZ a0 a1 a2 a3 a4 a5 a6 b0_tape b0_kept b0_draftGround b0_draftLaw b0_grid b0_pack b0_pieces b0_thinning b1_ground b1_law b1_stroll g0_imageKept g0_wrongByte g1_drawSeed g2_size f3 f4 f5 f6) t) A) args s 1 6 A) : ∀ (_ : Unit), wpX10_fits_19 post postX g2_size f3 f4 f5 f6  → AtW p l e rmX10_fits s m args below meth c dC dI A Q 4 0 0 (ceX10_fits cyI cyB cyJ cyZ a0 a1 a2 a3 a4 a5 a6 b0_tape b0_kept b0_draftGround b0_draftLaw b0_grid b0_pack b0_pieces b0_thinning b1_ground b1_law b1_stroll g0_imageKept g0_wrongByte g1_drawSeed g2_size f3 f4 f5 f6) [] 19 [] := by
  intro _ hw H locs hP hD hS ls hl
  have C1 := C0
  obtain ⟨hx, hb, hr, hml, hown, hts, hlocks⟩ := C1
  rw [hQ]
  exact vx_throwSW (cls := "java/lang/IllegalArgumentException") (names := ["java/lang/RuntimeException", "java/lang/Exception"]) (mc := 1) (ms := 6) hx hb hl0 hown (by decide +kernel) (by decide +kernel) (hts (.classLink RX10 102 "java/lang/IllegalArgumentException") (List.mem_of_getElem? (i := 1) rfl)) (hts (.initialized "java/lang/IllegalArgumentException") (List.mem_of_getElem? (i := 2) rfl)) (hXs.1.2 39 _ rfl).1 (hatX10_fits_106 hts hXs.2.2.2) hgd_106 hXs.2.1 hXs.2.2.1 hS (hl.1.trans hml.symm) dX10_fits_19 dX10_fits_22 dX10_fits_23 dX10_fits_26 dX10_fits_29 (fun x h => (hT x h).elim) (by decide) (by decide) (by decide) (by decide) hlocks (fun t hvm hz hk => thr_X () hw hP hK hD hS hvm hz hk) hS.2.2 (by decide) (by decide)
set_option maxRecDepth 100000 in
set_option maxHeartbeats 4000000 in
theorem ctX10_fits (l : Launch) (hl0 : l.stackTraces = false) (dC : Nat → ClassId) (dI : Nat → Nat → Nat) (cyI cyB cyJ cyZ : ClassId) (sz : Nat) (a0 a1 a2 a3 a4 a5 a6 b0_tape b0_kept b0_draftGround b0_draftLaw b0_grid b0_pack b0_pieces b0_thinning b1_ground b1_law b1_stroll : Nat) (g0_imageKept : Int32) (g0_wrongByte : Int32) (g1_drawSeed : Int32) (g2_size : Int32) (f3 : Nat → Int32) (f4 : Nat → Int32) (f5 : Nat → Int32) (f6 : Nat → Int32) (p0 : Int32) (p1 : Int32) (p2 : Int32) (post : Int32 → Unit → Prop) (postX : String → Unit → Prop) (adS : Nat → Nat) (hw : wpX10_fits post postX g2_size f3 f4 f5 f6 p0 p1 p2) : vx_Met l yX10_fits wsX10_fits rmX10_fits (va_Pc [.ref a0, .int p0, .int p1, .int p2] (wPreX dC dI cyI cyB cyJ cyZ sz (ceX10_fits cyI cyB cyJ cyZ a0 a1 a2 a3 a4 a5 a6 b0_tape b0_kept b0_draftGround b0_draftLaw b0_grid b0_pack b0_pieces b0_thinning b1_ground b1_law b1_stroll g0_imageKept g0_wrongByte g1_drawSeed g2_size f3 f4 f5 f6) (txT adS))) (va_Qi post (fun u : Unit => wAt dC dI cyI cyB cyJ cyZ (va_A (ceX10_fits cyI cyB cyJ cyZ a0 a1 a2 a3 a4 a5 a6 b0_tape b0_kept b0_draftGround b0_draftLaw b0_grid b0_pack b0_pieces b0_thinning b1_ground b1_law b1_stroll g0_imageKept g0_wrongByte g1_drawSeed g2_size f3 f4 f5 f6) sz) (ceX10_fits cyI cyB cyJ cyZ a0 a1 a2 a3 a4 a5 a6 b0_tape b0_kept b0_draftGround b0_draftLaw b0_grid b0_pack b0_pieces b0_thinning b1_ground b1_law b1_stroll g0_imageKept g0_wrongByte g1_drawSeed g2_size f3 f4 f5 f6)) (va_A (ceX10_fits cyI cyB cyJ cyZ a0 a1 a2 a3 a4 a5 a6 b0_tape b0_kept b0_draftGround b0_draftLaw b0_grid b0_pack b0_pieces b0_thinning b1_ground b1_law b1_stroll g0_imageKept g0_wrongByte g1_drawSeed g2_size f3 f4 f5 f6) sz)) (vx_X (fun _ : Unit => True) (fun E (u : Unit) t => postX E u ∧ wAt dC dI cyI cyB cyJ cyZ (va_A (ceX10_fits cyI cyB cyJ cyZ a0 a1 a2 a3 a4 a5 a6 b0_tape b0_kept b0_draftGround b0_draftLaw b0_grid b0_pack b0_pieces b0_thinning b1_ground b1_law b1_stroll g0_imageKept g0_wrongByte g1_drawSeed g2_size f3 f4 f5 f6) sz) (ceX10_fits cyI cyB cyJ cyZ a0 a1 a2 a3 a4 a5 a6 b0_tape b0_kept b0_draftGround b0_draftLaw b0_grid b0_pack b0_pieces b0_thinning b1_ground b1_law b1_stroll g0_imageKept g0_wrongByte g1_drawSeed g2_size f3 f4 f5 f6) t) (va_A (ceX10_fits cyI cyB cyJ cyZ a0 a1 a2 a3 a4 a5 a6 b0_tape b0_kept b0_draftGround b0_draftLaw b0_grid b0_pack b0_pieces b0_thinning b1_ground b1_law b1_stroll g0_imageKept g0_wrongByte g1_drawSeed g2_size f3 f4 f5 f6) sz)) 1 6 (va_A (ceX10_fits cyI cyB cyJ cyZ a0 a1 a2 a3 a4 a5 a6 b0_tape b0_kept b0_draftGround b0_draftLaw b0_grid b0_pack b0_pieces b0_thinning b1_ground b1_law b1_stroll g0_imageKept g0_wrongByte g1_drawSeed g2_size f3 f4 f5 f6) sz) := by
  refine vx_ofW (cc := cX10_fits) (maxL := 4) (ret := (some .int)) (by decide) rfl ?_
  intro p e s m args below meth c s₁ B hml hT hv
  obtain ⟨rfl, ⟨hsz, hP, hK, hD0, hN⟩, hXs⟩ := hv
  have hx := B.exec
  have hb := B.bytes
  have hr := B.returns
  have hts := atoms_spec (ws := wsX10_fits) B.pre
  have hown : s.vm.findClass RX10 = some m.cls := findClass_of_methodNamed B.named
  have hlocks := B.notSynchronized
  subst hsz
  have hD := hD0.self (sz := s.heap.size)
  generalize hAe : va_A (ceX10_fits cyI cyB cyJ cyZ a0 a1 a2 a3 a4 a5 a6 b0_tape b0_kept b0_draftGround b0_draftLaw b0_grid b0_pack b0_pieces b0_thinning b1_ground b1_law b1_stroll g0_imageKept g0_wrongByte g1_drawSeed g2_size f3 f4 f5 f6) s.heap.size = A at hD hXs ⊢
  have hA : ∀ q : Nat, s.heap.size ≤ q → A q := fun q h => by rw [← hAe]; exact Or.inr h
  have hS : va_S A s.heap s.heap [] := va_S.rf
  have C0 : cxM p s m meth c _ wsX10_fits RX10 cX10_fits 4 (some .int) := ⟨hx, hb, hr, hml, hown, hts, hlocks⟩
  have hl := lv_entry ([.ref a0, .int p0, .int p1, .int p2]) (n := 4) (Nat.le_of_ble_eq_true rfl)
  rw [lg_entry_eq]
  generalize (lg_sl ([.ref a0, .int p0, .int p1, .int p2]) ++ List.replicate (4 - (lg_sl ([.ref a0, .int p0, .int p1, .int p2])).length) Slot.unset).toArray = ls at hl ⊢
  have hl : lv_has ls 4 [(0, .ref a0), (1, .int p0), (2, .int p1), (3, .int p2)] := hl
  show W p l e rmX10_fits s m _ below meth c _ _ _ _ _ _
  refine wq (fun Q hQ => ?_)
  refine lv_iload_n hx hb dX10_fits_0 rfl (lv_at hl 1 rfl) ?_
  refine lv_sipush (v := 999) hx hb dX10_fits_1 (by decide) ?_
  have hPc := hP.sub (ws' := ([] : va_W)) [] rfl
  have hDc := hD.sub (ws' := ([] : va_W)) [] (by decide) rfl
  have hFc := va_free (wc := ([] : va_W)) hD hS hA [] rfl
  refine va_calli (va_runS (As := [.int p0, .int 999]) (rest := []) ⟨hx, hb, hml, hown, hts⟩ (ctX10_isOutside l dC dI cyI cyB cyJ cyZ _ p0 999 _ hw) (va_cwS 2 hts gX10_fits_X10_isOutside rfl rfl rfl (by decide +kernel) ⟨Nat.le_of_ble_eq_true rfl, Nat.le_of_ble_eq_true rfl⟩) ⟨wPre_blind, fun U hU hW => wPre_of hPc hK hDc hN hU hW⟩ rfl rfl hl.1 rfl (lv_room (Nat.le_of_ble_eq_true rfl)) dX10_fits_4 ⟨(by decide), (by decide)⟩) hS (fun q _ h => hFc q h) hFc (fun r2 u1 t H1 locs ht hvm hw hB hz1 hk1 hS => ?_)
  obtain ⟨hP1, hK1, hD1⟩ := hB
  rw [ht] at hP1
  obtain ⟨hP, hD⟩ := va_join (wr := pickW (ceX10_fits cyI cyB cyJ cyZ a0 a1 a2 a3 a4 a5 a6 b0_tape b0_kept b0_draftGround b0_draftLaw b0_grid b0_pack b0_pieces b0_thinning b1_ground b1_law b1_stroll g0_imageKept g0_wrongByte g1_drawSeed g2_size f3 f4 f5 f6) [0, 1, 2, 3, 4, 5, 6]) (w1 := ([] : va_W)) hP hD [] [0, 1, 2, 3, 4, 5, 6] rfl rfl (by decide) (by decide) hk1 hFc hP1 hD1
  have hP := hP.sub (ws' := (ceX10_fits cyI cyB cyJ cyZ a0 a1 a2 a3 a4 a5 a6 b0_tape b0_kept b0_draftGround b0_draftLaw b0_grid b0_pack b0_pieces b0_thinning b1_ground b1_law b1_stroll g0_imageKept g0_wrongByte g1_drawSeed g2_size f3 f4 f5 f6)) [0, 1, 2, 3, 4, 5, 6] rfl
  have hD := hD.sub (ws' := (ceX10_fits cyI cyB cyJ cyZ a0 a1 a2 a3 a4 a5 a6 b0_tape b0_kept b0_draftGround b0_draftLaw b0_grid b0_pack b0_pieces b0_thinning b1_ground b1_law b1_stroll g0_imageKept g0_wrongByte g1_drawSeed g2_size f3 f4 f5 f6)) [0, 1, 2, 3, 4, 5, 6] (by decide) rfl
  generalize H1 = H at hP hS ⊢
  refine lv_if_ne (tgt := 19) hx hb dX10_fits_7 (by decide) (fun hc => ?_) (fun hc => ?_)
  · have hw := hw.1 hc
    refine W.widen (k := 0) (n := 0) (by decide) (by decide) ?_
    exact bX10_fits_19 C0 hK hN hA hXs hl0 hT hQ () hw _ _ hP hD hS ls (lv_sub hl [] rfl)
  · have hw := hw.2 hc
    refine lv_iload_n hx hb dX10_fits_10 rfl (lv_at hl 2 rfl) ?_
    refine lv_bipush (v := 99) hx hb dX10_fits_11 (by decide) ?_
    have hPc := hP.sub (ws' := ([] : va_W)) [] rfl
    have hDc := hD.sub (ws' := ([] : va_W)) [] (by decide) rfl
    have hFc := va_free (wc := ([] : va_W)) hD hS hA [] rfl
    refine va_calli (va_runS (As := [.int p1, .int 99]) (rest := []) ⟨hx, hb, hml, hown, hts⟩ (ctX10_isOutside l dC dI cyI cyB cyJ cyZ _ p1 99 _ hw) (va_cwS 2 hts gX10_fits_X10_isOutside rfl rfl rfl (by decide +kernel) ⟨Nat.le_of_ble_eq_true rfl, Nat.le_of_ble_eq_true rfl⟩) ⟨wPre_blind, fun U hU hW => wPre_of hPc hK hDc hN hU hW⟩ rfl rfl hl.1 rfl (lv_room (Nat.le_of_ble_eq_true rfl)) dX10_fits_13 ⟨(by decide), (by decide)⟩) hS (fun q _ h => hFc q h) hFc (fun r4 u3 t H1 locs ht hvm hw hB hz1 hk1 hS => ?_)
    obtain ⟨hP1, hK1, hD1⟩ := hB
    rw [ht] at hP1
    obtain ⟨hP, hD⟩ := va_join (wr := pickW (ceX10_fits cyI cyB cyJ cyZ a0 a1 a2 a3 a4 a5 a6 b0_tape b0_kept b0_draftGround b0_draftLaw b0_grid b0_pack b0_pieces b0_thinning b1_ground b1_law b1_stroll g0_imageKept g0_wrongByte g1_drawSeed g2_size f3 f4 f5 f6) [0, 1, 2, 3, 4, 5, 6]) (w1 := ([] : va_W)) hP hD [] [0, 1, 2, 3, 4, 5, 6] rfl rfl (by decide) (by decide) hk1 hFc hP1 hD1
    have hP := hP.sub (ws' := (ceX10_fits cyI cyB cyJ cyZ a0 a1 a2 a3 a4 a5 a6 b0_tape b0_kept b0_draftGround b0_draftLaw b0_grid b0_pack b0_pieces b0_thinning b1_ground b1_law b1_stroll g0_imageKept g0_wrongByte g1_drawSeed g2_size f3 f4 f5 f6)) [0, 1, 2, 3, 4, 5, 6] rfl
    have hD := hD.sub (ws' := (ceX10_fits cyI cyB cyJ cyZ a0 a1 a2 a3 a4 a5 a6 b0_tape b0_kept b0_draftGround b0_draftLaw b0_grid b0_pack b0_pieces b0_thinning b1_ground b1_law b1_stroll g0_imageKept g0_wrongByte g1_drawSeed g2_size f3 f4 f5 f6)) [0, 1, 2, 3, 4, 5, 6] (by decide) rfl
    generalize H1 = H at hP hS ⊢
    refine lv_if_eq (tgt := 30) hx hb dX10_fits_16 (by decide) (fun hc => ?_) (fun hc => ?_)
    · have hw := hw.1 hc
      refine lv_iload_n hx hb dX10_fits_30 rfl (lv_at hl 3 rfl) ?_
      refine lv_if_eq (tgt := 49) hx hb dX10_fits_31 (by decide) (fun hc => ?_) (fun hc => ?_)
      · have hw := hw.1 hc
        refine lv_aload_n hx hb dX10_fits_49 rfl (lv_at hl 0 rfl) ?_
        refine va_get (D := (dC, dI)) (ci := 10) (v := .ref a1) (C := RX10) (T := TX10) (N := 11) hx hb hts inX10_fits_X10 hown hK hP 0 rfl rfl 1 (by decide) (hts (.fieldLink RX10 19 "LeadPark" "scene" "LLeadPark$Scene;") (List.mem_of_getElem? (i := 3) rfl)) (fun _ h9 => h9) rfl dX10_fits_50 ?_
        refine va_getN (D := (dC, dI)) (ci := 6) (v := .ref a2) (C := RX6) (T := TX6) (N := 5) hx hb hts inX10_fits_X6 hown hK hP 1 rfl rfl 2 (by decide) (va_Nw.use rfl (hN _ (List.mem_of_getElem? (i := 31) rfl))) (fun _ h9 => h9) rfl dX10_fits_53 ?_
        refine lv_iload_n hx hb dX10_fits_56 rfl (lv_at hl 1 rfl) ?_
        refine lv_iload_n hx hb dX10_fits_57 rfl (lv_at hl 2 rfl) ?_
        have hPc := hP.sub (ws' := (ceX3_countMisfits cyI cyB cyJ cyZ a2 a3 a4 a5 a6 g2_size f3 f4 f5 f6)) [2, 3, 4, 5, 6] rfl
        have hDc := hD.sub (ws' := (ceX3_countMisfits cyI cyB cyJ cyZ a2 a3 a4 a5 a6 g2_size f3 f4 f5 f6)) [2, 3, 4, 5, 6] (by decide) rfl
        have hFc := va_free (wc := (ceX3_countMisfits cyI cyB cyJ cyZ a2 a3 a4 a5 a6 g2_size f3 f4 f5 f6)) hD hS hA [2, 3, 4, 5, 6] rfl
        refine va_calli (va_runV (As := [.int p0, .int p1]) (rest := []) ⟨hx, hb, hml, hown, hts⟩ (ctX3_countMisfits l dC dI cyI cyB cyJ cyZ _ a2 a3 a4 a5 a6 g2_size f3 f4 f5 f6 p0 p1 _ hw) (cwV 2 hts gX10_fits_X3_countMisfits rfl rfl rfl (by decide +kernel) ⟨Nat.le_of_ble_eq_true rfl, Nat.le_of_ble_eq_true rfl⟩) ⟨wPre_blind, va_recv hK hPc (ci := 3) (q0 := 0) rfl rfl, fun U hU hW => wPre_of hPc hK hDc hN hU hW⟩ rfl rfl hl.1 rfl (lv_room (Nat.le_of_ble_eq_true rfl)) dX10_fits_58 ⟨(by decide), (by decide)⟩) hS (fun q _ h => hFc q h) hFc (fun r6 u5 t H1 locs ht hvm hw hB hz1 hk1 hS => ?_)
        obtain ⟨hP1, hK1, hD1⟩ := hB
        rw [ht] at hP1
        obtain ⟨hP, hD⟩ := va_join (wr := pickW (ceX10_fits cyI cyB cyJ cyZ a0 a1 a2 a3 a4 a5 a6 b0_tape b0_kept b0_draftGround b0_draftLaw b0_grid b0_pack b0_pieces b0_thinning b1_ground b1_law b1_stroll g0_imageKept g0_wrongByte g1_drawSeed g2_size f3 f4 f5 f6) [0, 1]) (w1 := (ceX3_countMisfits cyI cyB cyJ cyZ a2 a3 a4 a5 a6 g2_size f3 f4 f5 f6)) hP hD [2, 3, 4, 5, 6] [0, 1] rfl rfl (by decide) (by decide) hk1 hFc hP1 hD1
        have hP := hP.sub (ws' := (ceX10_fits cyI cyB cyJ cyZ a0 a1 a2 a3 a4 a5 a6 b0_tape b0_kept b0_draftGround b0_draftLaw b0_grid b0_pack b0_pieces b0_thinning b1_ground b1_law b1_stroll g0_imageKept g0_wrongByte g1_drawSeed g2_size f3 f4 f5 f6)) [0, 1, 2, 3, 4, 5, 6] rfl
        have hD := hD.sub (ws' := (ceX10_fits cyI cyB cyJ cyZ a0 a1 a2 a3 a4 a5 a6 b0_tape b0_kept b0_draftGround b0_draftLaw b0_grid b0_pack b0_pieces b0_thinning b1_ground b1_law b1_stroll g0_imageKept g0_wrongByte g1_drawSeed g2_size f3 f4 f5 f6)) [0, 1, 2, 3, 4, 5, 6] (by decide) rfl
        generalize H1 = H at hP hS ⊢
        rw [hQ]
        refine vx_ret ?_
        refine W.widen (k := 1) (n := 6) (by decide) (by decide) ?_
        exact W.iret (v := r6) hx hb hr (fun t ht hW => ⟨⟨r6, (), rfl, hw, by rw [ht]; exact hP, va_K.moved hW.alike hK, hD⟩, hS.F ht⟩) hS.2.2 dX10_fits_61
      · have hw := hw.2 hc
        refine lv_aload_n hx hb dX10_fits_34 rfl (lv_at hl 0 rfl) ?_
        refine va_get (D := (dC, dI)) (ci := 10) (v := .ref a1) (C := RX10) (T := TX10) (N := 11) hx hb hts inX10_fits_X10 hown hK hP 0 rfl rfl 1 (by decide) (hts (.fieldLink RX10 19 "LeadPark" "scene" "LLeadPark$Scene;") (List.mem_of_getElem? (i := 3) rfl)) (fun _ h9 => h9) rfl dX10_fits_35 ?_
        refine va_getN (D := (dC, dI)) (ci := 6) (v := .ref a2) (C := RX6) (T := TX6) (N := 5) hx hb hts inX10_fits_X6 hown hK hP 1 rfl rfl 2 (by decide) (va_Nw.use rfl (hN _ (List.mem_of_getElem? (i := 31) rfl))) (fun _ h9 => h9) rfl dX10_fits_38 ?_
        refine lv_iload_n hx hb dX10_fits_41 rfl (lv_at hl 1 rfl) ?_
        refine lv_iload_n hx hb dX10_fits_42 rfl (lv_at hl 2 rfl) ?_
        have hPc := hP.sub (ws' := (ceX3_firstMisfit cyI cyB cyJ cyZ a2 a3 a4 a5 a6 g2_size f3 f4 f5 f6)) [2, 3, 4, 5, 6] rfl
        have hDc := hD.sub (ws' := (ceX3_firstMisfit cyI cyB cyJ cyZ a2 a3 a4 a5 a6 g2_size f3 f4 f5 f6)) [2, 3, 4, 5, 6] (by decide) rfl
        have hFc := va_free (wc := (ceX3_firstMisfit cyI cyB cyJ cyZ a2 a3 a4 a5 a6 g2_size f3 f4 f5 f6)) hD hS hA [2, 3, 4, 5, 6] rfl
        refine va_calli (va_runV (As := [.int p0, .int p1]) (rest := []) ⟨hx, hb, hml, hown, hts⟩ (ctX3_firstMisfit l dC dI cyI cyB cyJ cyZ _ a2 a3 a4 a5 a6 g2_size f3 f4 f5 f6 p0 p1 _ hw) (cwV 2 hts gX10_fits_X3_firstMisfit rfl rfl rfl (by decide +kernel) ⟨Nat.le_of_ble_eq_true rfl, Nat.le_of_ble_eq_true rfl⟩) ⟨wPre_blind, va_recv hK hPc (ci := 3) (q0 := 0) rfl rfl, fun U hU hW => wPre_of hPc hK hDc hN hU hW⟩ rfl rfl hl.1 rfl (lv_room (Nat.le_of_ble_eq_true rfl)) dX10_fits_43 ⟨(by decide), (by decide)⟩) hS (fun q _ h => hFc q h) hFc (fun r8 u7 t H1 locs ht hvm hw hB hz1 hk1 hS => ?_)
        obtain ⟨hP1, hK1, hD1⟩ := hB
        rw [ht] at hP1
        obtain ⟨hP, hD⟩ := va_join (wr := pickW (ceX10_fits cyI cyB cyJ cyZ a0 a1 a2 a3 a4 a5 a6 b0_tape b0_kept b0_draftGround b0_draftLaw b0_grid b0_pack b0_pieces b0_thinning b1_ground b1_law b1_stroll g0_imageKept g0_wrongByte g1_drawSeed g2_size f3 f4 f5 f6) [0, 1]) (w1 := (ceX3_firstMisfit cyI cyB cyJ cyZ a2 a3 a4 a5 a6 g2_size f3 f4 f5 f6)) hP hD [2, 3, 4, 5, 6] [0, 1] rfl rfl (by decide) (by decide) hk1 hFc hP1 hD1
        have hP := hP.sub (ws' := (ceX10_fits cyI cyB cyJ cyZ a0 a1 a2 a3 a4 a5 a6 b0_tape b0_kept b0_draftGround b0_draftLaw b0_grid b0_pack b0_pieces b0_thinning b1_ground b1_law b1_stroll g0_imageKept g0_wrongByte g1_drawSeed g2_size f3 f4 f5 f6)) [0, 1, 2, 3, 4, 5, 6] rfl
        have hD := hD.sub (ws' := (ceX10_fits cyI cyB cyJ cyZ a0 a1 a2 a3 a4 a5 a6 b0_tape b0_kept b0_draftGround b0_draftLaw b0_grid b0_pack b0_pieces b0_thinning b1_ground b1_law b1_stroll g0_imageKept g0_wrongByte g1_drawSeed g2_size f3 f4 f5 f6)) [0, 1, 2, 3, 4, 5, 6] (by decide) rfl
        generalize H1 = H at hP hS ⊢
        refine lv_goto (tgt := 61) hx hb dX10_fits_46 (by decide) ?_
        rw [hQ]
        refine vx_ret ?_
        refine W.widen (k := 1) (n := 6) (by decide) (by decide) ?_
        exact W.iret (v := r8) hx hb hr (fun t ht hW => ⟨⟨r8, (), rfl, hw, by rw [ht]; exact hP, va_K.moved hW.alike hK, hD⟩, hS.F ht⟩) hS.2.2 dX10_fits_61
    · have hw := hw.2 hc
      refine W.widen (k := 0) (n := 0) (by decide) (by decide) ?_
      exact bX10_fits_19 C0 hK hN hA hXs hl0 hT hQ () hw _ _ hP hD hS ls (lv_sub hl [] rfl)
/-! LeadPark.begin (III)Z -/
abbrev ceX10_begin (cyI cyB cyJ cyZ : ClassId) (a0 a1 a2 a3 a4 a5 a6 a7 a8 a9 a10 b0_tape b0_kept b0_draftGround b0_draftLaw b0_grid b0_pack b0_pieces b0_thinning b1_marks b10_steps b10_greatestAhead : Nat) (g0_imageKept : Int32) (g0_wrongByte : Int32) (g1_drawSeed : Int32) (g2_texts : Int32) (g7_lines : Int32) (g2_ways : Int32) (g2_wallCount : Int32) (f3 : Nat → Int32) (f4 : Nat → Int32) (f5 : Nat → Int32) (f6 : Nat → Int32) (g7_size : Int32) (f9 : Nat → Int32) (f8 : Nat → Int32) (g10_underWay : Int32) (g10_way : Int32) (g10_other : Int32) (g10_lead : Int32) (g10_man : Int32) (g10_dog : Int32) (g10_gone : Int32) (g10_greatest : Int32) (g10_remembered : Int32) : va_W := [(a0, .inr (10, [.ref b0_tape, .ref a1, .ref b0_kept, .ref b0_draftGround, .ref b0_draftLaw, .ref b0_grid, .ref b0_pack, .ref b0_pieces, .ref b0_thinning, .int g0_imageKept, .int g0_wrongByte])), (a1, .inr (6, [.ref a2, .ref a7, .ref b1_marks, .ref a10, .int g1_drawSeed])), (a2, .inr (1, [.ref a4, .ref a5, .ref a3, .ref a6, .int g2_ways, .int g2_wallCount, .int g2_texts])), (a3, .inl (cyI, 12, .inl f3)), (a4, .inl (cyI, 360, .inl f4)), (a5, .inl (cyI, 360, .inl f5)), (a6, .inl (cyI, 32, .inl f6)), (a7, .inr (2, [.ref a9, .ref a8, .int g7_size, .int g7_lines])), (a8, .inl (cyI, 7, .inl f8)), (a9, .inl (cyI, 400, .inl f9)), (a10, .inr (7, [.int g10_underWay, .int g10_way, .int g10_other, .int g10_lead, .int g10_man, .int g10_dog, .int g10_gone, .int g10_greatest, .int g10_remembered, .ref b10_steps, .ref b10_greatestAhead]))]

theorem inX10_begin_X10 : ∀ w ∈ wsX100, w ∈ wsX10_begin := fun _ h => List.mem_cons_of_mem _ (List.mem_append_left _ (List.mem_append_left _ (List.mem_append_left _ (List.mem_append_left _ (List.mem_append_left _ (List.mem_append_left _ (List.mem_append_right _ h)))))))
theorem inX10_begin_X6 : ∀ w ∈ wsX60, w ∈ wsX10_begin := fun _ h => List.mem_cons_of_mem _ (List.mem_append_left _ (List.mem_append_left _ (List.mem_append_left _ (List.mem_append_left _ (List.mem_append_left _ (List.mem_append_right _ h))))))
theorem hatX10_begin_106 {args : Array Value} {s : State} (hts : ∀ w ∈ wsX10_begin, w.before args s = true) (hB : ∀ w ∈ txBad, w.before #[] s = true) : ∀ w ∈ vx_atS RX10 106 "java/lang/IllegalArgumentException" ["java/lang/RuntimeException", "java/lang/Exception"], w.before args s = true := vx_hat (B := txBad) (fun w h => hts w (List.mem_cons_of_mem _ (List.mem_append_left _ (List.mem_append_right _ h)))) hbd_106 (fun w h => va_Nw.use (List.all_eq_true.mp txBad_tab w h) (hB w h))
abbrev rmX10_begin : Room := { frames := 7, cells := 3, slots := 18, locals := 153 }
set_option maxRecDepth 100000 in
set_option maxHeartbeats 4000000 in
theorem ctX10_begin (l : Launch) (hl0 : l.stackTraces = false) (dC : Nat → ClassId) (dI : Nat → Nat → Nat) (cyI cyB cyJ cyZ : ClassId) (sz : Nat) (a0 a1 a2 a3 a4 a5 a6 a7 a8 a9 a10 b0_tape b0_kept b0_draftGround b0_draftLaw b0_grid b0_pack b0_pieces b0_thinning b1_marks b10_steps b10_greatestAhead : Nat) (g0_imageKept : Int32) (g0_wrongByte : Int32) (g1_drawSeed : Int32) (g2_texts : Int32) (g7_lines : Int32) (g2_ways : Int32) (g2_wallCount : Int32) (f3 : Nat → Int32) (f4 : Nat → Int32) (f5 : Nat → Int32) (f6 : Nat → Int32) (g7_size : Int32) (f9 : Nat → Int32) (f8 : Nat → Int32) (g10_underWay : Int32) (g10_way : Int32) (g10_other : Int32) (g10_lead : Int32) (g10_man : Int32) (g10_dog : Int32) (g10_gone : Int32) (g10_greatest : Int32) (g10_remembered : Int32) (p0 : Int32) (p1 : Int32) (p2 : Int32) (post : Int32 → ((Nat → Int32) × Int32 × Int32 × Int32 × Int32 × Int32 × Int32 × Int32 × Int32 × Int32) → Prop) (postX : String → ((Nat → Int32) × Int32 × Int32 × Int32 × Int32 × Int32 × Int32 × Int32 × Int32 × Int32) → Prop) (adS : Nat → Nat) (hw : wpX10_begin post postX g2_ways g2_wallCount f3 f4 f5 f6 g7_size f9 f8 g10_underWay g10_way g10_other g10_lead g10_man g10_dog g10_gone g10_greatest g10_remembered p0 p1 p2) : vx_Met l yX10_begin wsX10_begin rmX10_begin (va_Pc [.ref a0, .int p0, .int p1, .int p2] (wPreX dC dI cyI cyB cyJ cyZ sz (ceX10_begin cyI cyB cyJ cyZ a0 a1 a2 a3 a4 a5 a6 a7 a8 a9 a10 b0_tape b0_kept b0_draftGround b0_draftLaw b0_grid b0_pack b0_pieces b0_thinning b1_marks b10_steps b10_greatestAhead g0_imageKept g0_wrongByte g1_drawSeed g2_texts g7_lines g2_ways g2_wallCount f3 f4 f5 f6 g7_size f9 f8 g10_underWay g10_way g10_other g10_lead g10_man g10_dog g10_gone g10_greatest g10_remembered) (txT adS))) (va_Qi post (fun u : (Nat → Int32) × Int32 × Int32 × Int32 × Int32 × Int32 × Int32 × Int32 × Int32 × Int32 => wAt dC dI cyI cyB cyJ cyZ (va_A (ceX10_begin cyI cyB cyJ cyZ a0 a1 a2 a3 a4 a5 a6 a7 a8 a9 a10 b0_tape b0_kept b0_draftGround b0_draftLaw b0_grid b0_pack b0_pieces b0_thinning b1_marks b10_steps b10_greatestAhead g0_imageKept g0_wrongByte g1_drawSeed g2_texts g7_lines g2_ways g2_wallCount f3 f4 f5 f6 g7_size f9 f8 g10_underWay g10_way g10_other g10_lead g10_man g10_dog g10_gone g10_greatest g10_remembered) sz) (ceX10_begin cyI cyB cyJ cyZ a0 a1 a2 a3 a4 a5 a6 a7 a8 a9 a10 b0_tape b0_kept b0_draftGround b0_draftLaw b0_grid b0_pack b0_pieces b0_thinning b1_marks b10_steps b10_greatestAhead g0_imageKept g0_wrongByte g1_drawSeed g2_texts g7_lines g2_ways g2_wallCount f3 f4 f5 f6 g7_size f9 u.1 u.2.1 u.2.2.1 u.2.2.2.1 u.2.2.2.2.1 u.2.2.2.2.2.1 u.2.2.2.2.2.2.1 u.2.2.2.2.2.2.2.1 u.2.2.2.2.2.2.2.2.1 u.2.2.2.2.2.2.2.2.2)) (va_A (ceX10_begin cyI cyB cyJ cyZ a0 a1 a2 a3 a4 a5 a6 a7 a8 a9 a10 b0_tape b0_kept b0_draftGround b0_draftLaw b0_grid b0_pack b0_pieces b0_thinning b1_marks b10_steps b10_greatestAhead g0_imageKept g0_wrongByte g1_drawSeed g2_texts g7_lines g2_ways g2_wallCount f3 f4 f5 f6 g7_size f9 f8 g10_underWay g10_way g10_other g10_lead g10_man g10_dog g10_gone g10_greatest g10_remembered) sz)) (vx_X (fun _ : (Nat → Int32) × Int32 × Int32 × Int32 × Int32 × Int32 × Int32 × Int32 × Int32 × Int32 => True) (fun E (u : (Nat → Int32) × Int32 × Int32 × Int32 × Int32 × Int32 × Int32 × Int32 × Int32 × Int32) t => postX E u ∧ wAt dC dI cyI cyB cyJ cyZ (va_A (ceX10_begin cyI cyB cyJ cyZ a0 a1 a2 a3 a4 a5 a6 a7 a8 a9 a10 b0_tape b0_kept b0_draftGround b0_draftLaw b0_grid b0_pack b0_pieces b0_thinning b1_marks b10_steps b10_greatestAhead g0_imageKept g0_wrongByte g1_drawSeed g2_texts g7_lines g2_ways g2_wallCount f3 f4 f5 f6 g7_size f9 f8 g10_underWay g10_way g10_other g10_lead g10_man g10_dog g10_gone g10_greatest g10_remembered) sz) (ceX10_begin cyI cyB cyJ cyZ a0 a1 a2 a3 a4 a5 a6 a7 a8 a9 a10 b0_tape b0_kept b0_draftGround b0_draftLaw b0_grid b0_pack b0_pieces b0_thinning b1_marks b10_steps b10_greatestAhead g0_imageKept g0_wrongByte g1_drawSeed g2_texts g7_lines g2_ways g2_wallCount f3 f4 f5 f6 g7_size f9 u.1 u.2.1 u.2.2.1 u.2.2.2.1 u.2.2.2.2.1 u.2.2.2.2.2.1 u.2.2.2.2.2.2.1 u.2.2.2.2.2.2.2.1 u.2.2.2.2.2.2.2.2.1 u.2.2.2.2.2.2.2.2.2) t) (va_A (ceX10_begin cyI cyB cyJ cyZ a0 a1 a2 a3 a4 a5 a6 a7 a8 a9 a10 b0_tape b0_kept b0_draftGround b0_draftLaw b0_grid b0_pack b0_pieces b0_thinning b1_marks b10_steps b10_greatestAhead g0_imageKept g0_wrongByte g1_drawSeed g2_texts g7_lines g2_ways g2_wallCount f3 f4 f5 f6 g7_size f9 f8 g10_underWay g10_way g10_other g10_lead g10_man g10_dog g10_gone g10_greatest g10_remembered) sz)) 3 18 (va_A (ceX10_begin cyI cyB cyJ cyZ a0 a1 a2 a3 a4 a5 a6 a7 a8 a9 a10 b0_tape b0_kept b0_draftGround b0_draftLaw b0_grid b0_pack b0_pieces b0_thinning b1_marks b10_steps b10_greatestAhead g0_imageKept g0_wrongByte g1_drawSeed g2_texts g7_lines g2_ways g2_wallCount f3 f4 f5 f6 g7_size f9 f8 g10_underWay g10_way g10_other g10_lead g10_man g10_dog g10_gone g10_greatest g10_remembered) sz) := by
  refine vx_ofW (cc := cX10_begin) (maxL := 4) (ret := (some .boolean)) (by decide) rfl ?_
  intro p e s m args below meth c s₁ B hml hT hv
  obtain ⟨rfl, ⟨hsz, hP, hK, hD0, hN⟩, hXs⟩ := hv
  have hx := B.exec
  have hb := B.bytes
  have hr := B.returns
  have hts := atoms_spec (ws := wsX10_begin) B.pre
  have hown : s.vm.findClass RX10 = some m.cls := findClass_of_methodNamed B.named
  have hlocks := B.notSynchronized
  subst hsz
  have hD := hD0.self (sz := s.heap.size)
  generalize hAe : va_A (ceX10_begin cyI cyB cyJ cyZ a0 a1 a2 a3 a4 a5 a6 a7 a8 a9 a10 b0_tape b0_kept b0_draftGround b0_draftLaw b0_grid b0_pack b0_pieces b0_thinning b1_marks b10_steps b10_greatestAhead g0_imageKept g0_wrongByte g1_drawSeed g2_texts g7_lines g2_ways g2_wallCount f3 f4 f5 f6 g7_size f9 f8 g10_underWay g10_way g10_other g10_lead g10_man g10_dog g10_gone g10_greatest g10_remembered) s.heap.size = A at hD hXs ⊢
  have hA : ∀ q : Nat, s.heap.size ≤ q → A q := fun q h => by rw [← hAe]; exact Or.inr h
  have hS : va_S A s.heap s.heap [] := va_S.rf
  have C0 : cxM p s m meth c _ wsX10_begin RX10 cX10_begin 4 (some .boolean) := ⟨hx, hb, hr, hml, hown, hts, hlocks⟩
  have hl := lv_entry ([.ref a0, .int p0, .int p1, .int p2]) (n := 4) (Nat.le_of_ble_eq_true rfl)
  rw [lg_entry_eq]
  generalize (lg_sl ([.ref a0, .int p0, .int p1, .int p2]) ++ List.replicate (4 - (lg_sl ([.ref a0, .int p0, .int p1, .int p2])).length) Slot.unset).toArray = ls at hl ⊢
  have hl : lv_has ls 4 [(0, .ref a0), (1, .int p0), (2, .int p1), (3, .int p2)] := hl
  show W p l e rmX10_begin s m _ below meth c _ _ _ _ _ _
  refine wq (fun Q hQ => ?_)
  refine lv_aload_n hx hb dX10_begin_0 rfl (lv_at hl 0 rfl) ?_
  refine lv_iload_n hx hb dX10_begin_1 rfl (lv_at hl 1 rfl) ?_
  have hPc := hP.sub (ws' := (ceX10_needWay cyI cyB cyJ cyZ a0 a1 a2 b0_tape b0_kept b0_draftGround b0_draftLaw b0_grid b0_pack b0_pieces b0_thinning a7 b1_marks a10 a4 a5 a3 a6 g0_imageKept g0_wrongByte g1_drawSeed g2_wallCount g2_texts g2_ways)) [0, 1, 2] rfl
  have hDc := hD.sub (ws' := (ceX10_needWay cyI cyB cyJ cyZ a0 a1 a2 b0_tape b0_kept b0_draftGround b0_draftLaw b0_grid b0_pack b0_pieces b0_thinning a7 b1_marks a10 a4 a5 a3 a6 g0_imageKept g0_wrongByte g1_drawSeed g2_wallCount g2_texts g2_ways)) [0, 1, 2] (by decide) rfl
  have hFc := va_free (wc := (ceX10_needWay cyI cyB cyJ cyZ a0 a1 a2 b0_tape b0_kept b0_draftGround b0_draftLaw b0_grid b0_pack b0_pieces b0_thinning a7 b1_marks a10 a4 a5 a3 a6 g0_imageKept g0_wrongByte g1_drawSeed g2_wallCount g2_texts g2_ways)) hD hS hA [0, 1, 2] rfl
  refine vx_callv (vx_runV (As := [.int p0]) (rest := []) ⟨hx, hb, hml, hown, hts⟩ (ctX10_needWay l hl0 dC dI cyI cyB cyJ cyZ _ a0 a1 a2 b0_tape b0_kept b0_draftGround b0_draftLaw b0_grid b0_pack b0_pieces b0_thinning a7 b1_marks a10 a4 a5 a3 a6 g0_imageKept g0_wrongByte g1_drawSeed g2_wallCount g2_texts g2_ways p0 _ _ adS hw) (cwV 1 hts gX10_begin_X10_needWay rfl rfl rfl (by decide +kernel) ⟨Nat.le_of_ble_eq_true rfl, Nat.le_of_ble_eq_true rfl⟩) ⟨wPreX_blind (xOk_txT adS), va_recv hK hPc (ci := 10) (q0 := 0) rfl rfl, fun U hU hW => wPreX_of (xOk_txT adS) hPc hK hDc hN hXs hS hFc hU hW⟩ rfl rfl hl.1 rfl (lv_room (Nat.le_of_ble_eq_true rfl)) dX10_begin_2 ⟨(by decide), (by decide)⟩) hS (fun q _ h => hFc q h) hFc (fun q _ h => hFc q h) (fun E ce q9 u1 t H1 locs ht hvm hpx hBX hz1 hk1 hS hce hcv hcl => ?_) (fun u1 t H1 locs ht hvm hw hB hz1 hk1 hS => ?_)
  · obtain ⟨hw, hP1, hK1, hD1⟩ := hBX
    rw [ht] at hP1
    obtain ⟨hP, hD⟩ := va_join (wr := pickW (ceX10_begin cyI cyB cyJ cyZ a0 a1 a2 a3 a4 a5 a6 a7 a8 a9 a10 b0_tape b0_kept b0_draftGround b0_draftLaw b0_grid b0_pack b0_pieces b0_thinning b1_marks b10_steps b10_greatestAhead g0_imageKept g0_wrongByte g1_drawSeed g2_texts g7_lines g2_ways g2_wallCount f3 f4 f5 f6 g7_size f9 f8 g10_underWay g10_way g10_other g10_lead g10_man g10_dog g10_gone g10_greatest g10_remembered) [3, 4, 5, 6, 7, 8, 9, 10]) (w1 := (ceX10_needWay cyI cyB cyJ cyZ a0 a1 a2 b0_tape b0_kept b0_draftGround b0_draftLaw b0_grid b0_pack b0_pieces b0_thinning a7 b1_marks a10 a4 a5 a3 a6 g0_imageKept g0_wrongByte g1_drawSeed g2_wallCount g2_texts g2_ways)) hP hD [0, 1, 2] [3, 4, 5, 6, 7, 8, 9, 10] rfl rfl (by decide) (by decide) hk1 hFc hP1 hD1
    have hP := hP.sub (ws' := (ceX10_begin cyI cyB cyJ cyZ a0 a1 a2 a3 a4 a5 a6 a7 a8 a9 a10 b0_tape b0_kept b0_draftGround b0_draftLaw b0_grid b0_pack b0_pieces b0_thinning b1_marks b10_steps b10_greatestAhead g0_imageKept g0_wrongByte g1_drawSeed g2_texts g7_lines g2_ways g2_wallCount f3 f4 f5 f6 g7_size f9 f8 g10_underWay g10_way g10_other g10_lead g10_man g10_dog g10_gone g10_greatest g10_remembered)) [8, 9, 10, 0, 1, 2, 3, 4, 5, 6, 7] rfl
    have hD := hD.sub (ws' := (ceX10_begin cyI cyB cyJ cyZ a0 a1 a2 a3 a4 a5 a6 a7 a8 a9 a10 b0_tape b0_kept b0_draftGround b0_draftLaw b0_grid b0_pack b0_pieces b0_thinning b1_marks b10_steps b10_greatestAhead g0_imageKept g0_wrongByte g1_drawSeed g2_texts g7_lines g2_ways g2_wallCount f3 f4 f5 f6 g7_size f9 f8 g10_underWay g10_way g10_other g10_lead g10_man g10_dog g10_gone g10_greatest g10_remembered)) [8, 9, 10, 0, 1, 2, 3, 4, 5, 6, 7] (by decide) rfl
    rw [hQ]
    exact vx_widen (k := 3) (n := 18) (by decide) (by decide) (vx_out (fun x h => (hT x h).elim) hlocks hce hcv hcl (fun t9 ht9 hvm9 => ⟨(f8, g10_underWay, g10_way, g10_other, g10_lead, g10_man, g10_dog, g10_gone, g10_greatest, g10_remembered), trivial, ⟨hw, by rw [ht9]; exact hP, va_K.moved hvm9 hK, hD⟩, hS.F ht9⟩) hS.2.2 (by decide) (by decide))
  -- returned
  obtain ⟨hP1, hK1, hD1⟩ := hB
  rw [ht] at hP1
  obtain ⟨hP, hD⟩ := va_join (wr := pickW (ceX10_begin cyI cyB cyJ cyZ a0 a1 a2 a3 a4 a5 a6 a7 a8 a9 a10 b0_tape b0_kept b0_draftGround b0_draftLaw b0_grid b0_pack b0_pieces b0_thinning b1_marks b10_steps b10_greatestAhead g0_imageKept g0_wrongByte g1_drawSeed g2_texts g7_lines g2_ways g2_wallCount f3 f4 f5 f6 g7_size f9 f8 g10_underWay g10_way g10_other g10_lead g10_man g10_dog g10_gone g10_greatest g10_remembered) [3, 4, 5, 6, 7, 8, 9, 10]) (w1 := (ceX10_needWay cyI cyB cyJ cyZ a0 a1 a2 b0_tape b0_kept b0_draftGround b0_draftLaw b0_grid b0_pack b0_pieces b0_thinning a7 b1_marks a10 a4 a5 a3 a6 g0_imageKept g0_wrongByte g1_drawSeed g2_wallCount g2_texts g2_ways)) hP hD [0, 1, 2] [3, 4, 5, 6, 7, 8, 9, 10] rfl rfl (by decide) (by decide) hk1 hFc hP1 hD1
  have hP := hP.sub (ws' := (ceX10_begin cyI cyB cyJ cyZ a0 a1 a2 a3 a4 a5 a6 a7 a8 a9 a10 b0_tape b0_kept b0_draftGround b0_draftLaw b0_grid b0_pack b0_pieces b0_thinning b1_marks b10_steps b10_greatestAhead g0_imageKept g0_wrongByte g1_drawSeed g2_texts g7_lines g2_ways g2_wallCount f3 f4 f5 f6 g7_size f9 f8 g10_underWay g10_way g10_other g10_lead g10_man g10_dog g10_gone g10_greatest g10_remembered)) [8, 9, 10, 0, 1, 2, 3, 4, 5, 6, 7] rfl
  have hD := hD.sub (ws' := (ceX10_begin cyI cyB cyJ cyZ a0 a1 a2 a3 a4 a5 a6 a7 a8 a9 a10 b0_tape b0_kept b0_draftGround b0_draftLaw b0_grid b0_pack b0_pieces b0_thinning b1_marks b10_steps b10_greatestAhead g0_imageKept g0_wrongByte g1_drawSeed g2_texts g7_lines g2_ways g2_wallCount f3 f4 f5 f6 g7_size f9 f8 g10_underWay g10_way g10_other g10_lead g10_man g10_dog g10_gone g10_greatest g10_remembered)) [8, 9, 10, 0, 1, 2, 3, 4, 5, 6, 7] (by decide) rfl
  generalize H1 = H at hP hS ⊢
  refine W.widen (k := 1) (n := 6) (by decide) (by decide) ?_
  refine lv_aload_n hx hb dX10_begin_5 rfl (lv_at hl 0 rfl) ?_
  refine lv_iload_n hx hb dX10_begin_6 rfl (lv_at hl 2 rfl) ?_
  have hPc := hP.sub (ws' := (ceX10_needWay cyI cyB cyJ cyZ a0 a1 a2 b0_tape b0_kept b0_draftGround b0_draftLaw b0_grid b0_pack b0_pieces b0_thinning a7 b1_marks a10 a4 a5 a3 a6 g0_imageKept g0_wrongByte g1_drawSeed g2_wallCount g2_texts g2_ways)) [0, 1, 2] rfl
  have hDc := hD.sub (ws' := (ceX10_needWay cyI cyB cyJ cyZ a0 a1 a2 b0_tape b0_kept b0_draftGround b0_draftLaw b0_grid b0_pack b0_pieces b0_thinning a7 b1_marks a10 a4 a5 a3 a6 g0_imageKept g0_wrongByte g1_drawSeed g2_wallCount g2_texts g2_ways)) [0, 1, 2] (by decide) rfl
  have hFc := va_free (wc := (ceX10_needWay cyI cyB cyJ cyZ a0 a1 a2 b0_tape b0_kept b0_draftGround b0_draftLaw b0_grid b0_pack b0_pieces b0_thinning a7 b1_marks a10 a4 a5 a3 a6 g0_imageKept g0_wrongByte g1_drawSeed g2_wallCount g2_texts g2_ways)) hD hS hA [0, 1, 2] rfl
  refine vx_callv (vx_runV (As := [.int p1]) (rest := []) ⟨hx, hb, hml, hown, hts⟩ (ctX10_needWay l hl0 dC dI cyI cyB cyJ cyZ _ a0 a1 a2 b0_tape b0_kept b0_draftGround b0_draftLaw b0_grid b0_pack b0_pieces b0_thinning a7 b1_marks a10 a4 a5 a3 a6 g0_imageKept g0_wrongByte g1_drawSeed g2_wallCount g2_texts g2_ways p1 _ _ adS hw) (cwV 1 hts gX10_begin_X10_needWay rfl rfl rfl (by decide +kernel) ⟨Nat.le_of_ble_eq_true rfl, Nat.le_of_ble_eq_true rfl⟩) ⟨wPreX_blind (xOk_txT adS), va_recv hK hPc (ci := 10) (q0 := 0) rfl rfl, fun U hU hW => wPreX_of (xOk_txT adS) hPc hK hDc hN hXs hS hFc hU hW⟩ rfl rfl hl.1 rfl (lv_room (Nat.le_of_ble_eq_true rfl)) dX10_begin_7 ⟨(by decide), (by decide)⟩) hS (fun q _ h => hFc q h) hFc (fun q _ h => hFc q h) (fun E ce q9 u2 t H1 locs ht hvm hpx hBX hz1 hk1 hS hce hcv hcl => ?_) (fun u2 t H1 locs ht hvm hw hB hz1 hk1 hS => ?_)
  · obtain ⟨hw, hP1, hK1, hD1⟩ := hBX
    rw [ht] at hP1
    obtain ⟨hP, hD⟩ := va_join (wr := pickW (ceX10_begin cyI cyB cyJ cyZ a0 a1 a2 a3 a4 a5 a6 a7 a8 a9 a10 b0_tape b0_kept b0_draftGround b0_draftLaw b0_grid b0_pack b0_pieces b0_thinning b1_marks b10_steps b10_greatestAhead g0_imageKept g0_wrongByte g1_drawSeed g2_texts g7_lines g2_ways g2_wallCount f3 f4 f5 f6 g7_size f9 f8 g10_underWay g10_way g10_other g10_lead g10_man g10_dog g10_gone g10_greatest g10_remembered) [3, 4, 5, 6, 7, 8, 9, 10]) (w1 := (ceX10_needWay cyI cyB cyJ cyZ a0 a1 a2 b0_tape b0_kept b0_draftGround b0_draftLaw b0_grid b0_pack b0_pieces b0_thinning a7 b1_marks a10 a4 a5 a3 a6 g0_imageKept g0_wrongByte g1_drawSeed g2_wallCount g2_texts g2_ways)) hP hD [0, 1, 2] [3, 4, 5, 6, 7, 8, 9, 10] rfl rfl (by decide) (by decide) hk1 hFc hP1 hD1
    have hP := hP.sub (ws' := (ceX10_begin cyI cyB cyJ cyZ a0 a1 a2 a3 a4 a5 a6 a7 a8 a9 a10 b0_tape b0_kept b0_draftGround b0_draftLaw b0_grid b0_pack b0_pieces b0_thinning b1_marks b10_steps b10_greatestAhead g0_imageKept g0_wrongByte g1_drawSeed g2_texts g7_lines g2_ways g2_wallCount f3 f4 f5 f6 g7_size f9 f8 g10_underWay g10_way g10_other g10_lead g10_man g10_dog g10_gone g10_greatest g10_remembered)) [8, 9, 10, 0, 1, 2, 3, 4, 5, 6, 7] rfl
    have hD := hD.sub (ws' := (ceX10_begin cyI cyB cyJ cyZ a0 a1 a2 a3 a4 a5 a6 a7 a8 a9 a10 b0_tape b0_kept b0_draftGround b0_draftLaw b0_grid b0_pack b0_pieces b0_thinning b1_marks b10_steps b10_greatestAhead g0_imageKept g0_wrongByte g1_drawSeed g2_texts g7_lines g2_ways g2_wallCount f3 f4 f5 f6 g7_size f9 f8 g10_underWay g10_way g10_other g10_lead g10_man g10_dog g10_gone g10_greatest g10_remembered)) [8, 9, 10, 0, 1, 2, 3, 4, 5, 6, 7] (by decide) rfl
    rw [hQ]
    exact vx_widen (k := 3) (n := 18) (by decide) (by decide) (vx_out (fun x h => (hT x h).elim) hlocks hce hcv hcl (fun t9 ht9 hvm9 => ⟨(f8, g10_underWay, g10_way, g10_other, g10_lead, g10_man, g10_dog, g10_gone, g10_greatest, g10_remembered), trivial, ⟨hw, by rw [ht9]; exact hP, va_K.moved hvm9 hK, hD⟩, hS.F ht9⟩) hS.2.2 (by decide) (by decide))
  -- returned
  obtain ⟨hP1, hK1, hD1⟩ := hB
  rw [ht] at hP1
  obtain ⟨hP, hD⟩ := va_join (wr := pickW (ceX10_begin cyI cyB cyJ cyZ a0 a1 a2 a3 a4 a5 a6 a7 a8 a9 a10 b0_tape b0_kept b0_draftGround b0_draftLaw b0_grid b0_pack b0_pieces b0_thinning b1_marks b10_steps b10_greatestAhead g0_imageKept g0_wrongByte g1_drawSeed g2_texts g7_lines g2_ways g2_wallCount f3 f4 f5 f6 g7_size f9 f8 g10_underWay g10_way g10_other g10_lead g10_man g10_dog g10_gone g10_greatest g10_remembered) [3, 4, 5, 6, 7, 8, 9, 10]) (w1 := (ceX10_needWay cyI cyB cyJ cyZ a0 a1 a2 b0_tape b0_kept b0_draftGround b0_draftLaw b0_grid b0_pack b0_pieces b0_thinning a7 b1_marks a10 a4 a5 a3 a6 g0_imageKept g0_wrongByte g1_drawSeed g2_wallCount g2_texts g2_ways)) hP hD [0, 1, 2] [3, 4, 5, 6, 7, 8, 9, 10] rfl rfl (by decide) (by decide) hk1 hFc hP1 hD1
  have hP := hP.sub (ws' := (ceX10_begin cyI cyB cyJ cyZ a0 a1 a2 a3 a4 a5 a6 a7 a8 a9 a10 b0_tape b0_kept b0_draftGround b0_draftLaw b0_grid b0_pack b0_pieces b0_thinning b1_marks b10_steps b10_greatestAhead g0_imageKept g0_wrongByte g1_drawSeed g2_texts g7_lines g2_ways g2_wallCount f3 f4 f5 f6 g7_size f9 f8 g10_underWay g10_way g10_other g10_lead g10_man g10_dog g10_gone g10_greatest g10_remembered)) [8, 9, 10, 0, 1, 2, 3, 4, 5, 6, 7] rfl
  have hD := hD.sub (ws' := (ceX10_begin cyI cyB cyJ cyZ a0 a1 a2 a3 a4 a5 a6 a7 a8 a9 a10 b0_tape b0_kept b0_draftGround b0_draftLaw b0_grid b0_pack b0_pieces b0_thinning b1_marks b10_steps b10_greatestAhead g0_imageKept g0_wrongByte g1_drawSeed g2_texts g7_lines g2_ways g2_wallCount f3 f4 f5 f6 g7_size f9 f8 g10_underWay g10_way g10_other g10_lead g10_man g10_dog g10_gone g10_greatest g10_remembered)) [8, 9, 10, 0, 1, 2, 3, 4, 5, 6, 7] (by decide) rfl
  generalize H1 = H at hP hS ⊢
  refine W.widen (k := 2) (n := 12) (by decide) (by decide) ?_
  refine lv_iload_n hx hb dX10_begin_10 rfl (lv_at hl 3 rfl) ?_
  refine lv_if_ge (tgt := 24) hx hb dX10_begin_11 (by decide) (fun hc => ?_) (fun hc => ?_)
  · have hw := hw.1 hc
    refine lv_aload_n hx hb dX10_begin_24 rfl (lv_at hl 0 rfl) ?_
    refine va_get (D := (dC, dI)) (ci := 10) (v := .ref a1) (C := RX10) (T := TX10) (N := 11) hx hb hts inX10_begin_X10 hown hK hP 0 rfl rfl 1 (by decide) (hts (.fieldLink RX10 19 "LeadPark" "scene" "LLeadPark$Scene;") (List.mem_of_getElem? (i := 3) rfl)) (fun _ h9 => h9) rfl dX10_begin_25 ?_
    refine lv_iload_n hx hb dX10_begin_28 rfl (lv_at hl 1 rfl) ?_
    refine lv_iconst (v := 0) hx hb dX10_begin_29 (by decide) ?_
    refine lv_iload_n hx hb dX10_begin_30 rfl (lv_at hl 2 rfl) ?_
    refine lv_iconst (v := 0) hx hb dX10_begin_31 (by decide) ?_
    refine lv_iload_n hx hb dX10_begin_32 rfl (lv_at hl 3 rfl) ?_
    have hPc := hP.sub (ws' := (ceX6_allows cyI cyB cyJ cyZ a1 a2 a3 a4 a5 a6 a7 a8 a9 b1_marks a10 g1_drawSeed g2_texts g7_lines g2_ways g2_wallCount f3 f4 f5 f6 g7_size f9 f8)) [1, 2, 3, 4, 5, 6, 7, 8, 9] rfl
    have hDc := hD.sub (ws' := (ceX6_allows cyI cyB cyJ cyZ a1 a2 a3 a4 a5 a6 a7 a8 a9 b1_marks a10 g1_drawSeed g2_texts g7_lines g2_ways g2_wallCount f3 f4 f5 f6 g7_size f9 f8)) [1, 2, 3, 4, 5, 6, 7, 8, 9] (by decide) rfl
    have hFc := va_free (wc := (ceX6_allows cyI cyB cyJ cyZ a1 a2 a3 a4 a5 a6 a7 a8 a9 b1_marks a10 g1_drawSeed g2_texts g7_lines g2_ways g2_wallCount f3 f4 f5 f6 g7_size f9 f8)) hD hS hA [1, 2, 3, 4, 5, 6, 7, 8, 9] rfl
    refine va_calli (va_runV (As := [.int p0, .int 0, .int p1, .int 0, .int p2]) (rest := []) ⟨hx, hb, hml, hown, hts⟩ (ctX6_allows l dC dI cyI cyB cyJ cyZ _ a1 a2 a3 a4 a5 a6 a7 a8 a9 b1_marks a10 g1_drawSeed g2_texts g7_lines g2_ways g2_wallCount f3 f4 f5 f6 g7_size f9 f8 p0 0 p1 0 p2 _ hw) (cwV 5 hts gX10_begin_X6_allows rfl rfl rfl (by decide +kernel) ⟨Nat.le_of_ble_eq_true rfl, Nat.le_of_ble_eq_true rfl⟩) ⟨wPre_blind, va_recv hK hPc (ci := 6) (q0 := 0) rfl rfl, fun U hU hW => wPre_of hPc hK hDc hN hU hW⟩ rfl rfl hl.1 rfl (lv_room (Nat.le_of_ble_eq_true rfl)) dX10_begin_33 ⟨(by decide), (by decide)⟩) hS (fun q _ h => hFc q h) hFc (fun r4 u3 t H1 locs ht hvm hw hB hz1 hk1 hS => ?_)
    obtain ⟨hP1, hK1, hD1⟩ := hB
    rw [ht] at hP1
    obtain ⟨hP, hD⟩ := va_join (wr := pickW (ceX10_begin cyI cyB cyJ cyZ a0 a1 a2 a3 a4 a5 a6 a7 a8 a9 a10 b0_tape b0_kept b0_draftGround b0_draftLaw b0_grid b0_pack b0_pieces b0_thinning b1_marks b10_steps b10_greatestAhead g0_imageKept g0_wrongByte g1_drawSeed g2_texts g7_lines g2_ways g2_wallCount f3 f4 f5 f6 g7_size f9 f8 g10_underWay g10_way g10_other g10_lead g10_man g10_dog g10_gone g10_greatest g10_remembered) [0, 10]) (w1 := (ceX6_allows cyI cyB cyJ cyZ a1 a2 a3 a4 a5 a6 a7 a8 a9 b1_marks a10 g1_drawSeed g2_texts g7_lines g2_ways g2_wallCount f3 f4 f5 f6 g7_size f9 u3)) hP hD [1, 2, 3, 4, 5, 6, 7, 8, 9] [0, 10] rfl rfl (by decide) (by decide) hk1 hFc hP1 hD1
    have hP := hP.sub (ws' := (ceX10_begin cyI cyB cyJ cyZ a0 a1 a2 a3 a4 a5 a6 a7 a8 a9 a10 b0_tape b0_kept b0_draftGround b0_draftLaw b0_grid b0_pack b0_pieces b0_thinning b1_marks b10_steps b10_greatestAhead g0_imageKept g0_wrongByte g1_drawSeed g2_texts g7_lines g2_ways g2_wallCount f3 f4 f5 f6 g7_size f9 u3 g10_underWay g10_way g10_other g10_lead g10_man g10_dog g10_gone g10_greatest g10_remembered)) [0, 2, 3, 4, 5, 6, 7, 8, 9, 10, 1] rfl
    have hD := hD.sub (ws' := (ceX10_begin cyI cyB cyJ cyZ a0 a1 a2 a3 a4 a5 a6 a7 a8 a9 a10 b0_tape b0_kept b0_draftGround b0_draftLaw b0_grid b0_pack b0_pieces b0_thinning b1_marks b10_steps b10_greatestAhead g0_imageKept g0_wrongByte g1_drawSeed g2_texts g7_lines g2_ways g2_wallCount f3 f4 f5 f6 g7_size f9 u3 g10_underWay g10_way g10_other g10_lead g10_man g10_dog g10_gone g10_greatest g10_remembered)) [0, 2, 3, 4, 5, 6, 7, 8, 9, 10, 1] (by decide) rfl
    generalize H1 = H at hP hS ⊢
    refine lv_if_ne (tgt := 41) hx hb dX10_begin_36 (by decide) (fun hc => ?_) (fun hc => ?_)
    · have hw := hw.1 hc
      refine lv_aload_n hx hb dX10_begin_41 rfl (lv_at hl 0 rfl) ?_
      refine va_get (D := (dC, dI)) (ci := 10) (v := .ref a1) (C := RX10) (T := TX10) (N := 11) hx hb hts inX10_begin_X10 hown hK hP 0 rfl rfl 1 (by decide) (hts (.fieldLink RX10 19 "LeadPark" "scene" "LLeadPark$Scene;") (List.mem_of_getElem? (i := 3) rfl)) (fun _ h9 => h9) rfl dX10_begin_42 ?_
      refine va_getN (D := (dC, dI)) (ci := 6) (v := .ref a10) (C := RX6) (T := TX6) (N := 5) hx hb hts inX10_begin_X6 hown hK hP 1 rfl rfl 3 (by decide) (va_Nw.use rfl (hN _ (List.mem_of_getElem? (i := 32) rfl))) (fun _ h9 => h9) rfl dX10_begin_45 ?_
      refine lv_iload_n hx hb dX10_begin_48 rfl (lv_at hl 1 rfl) ?_
      refine lv_iload_n hx hb dX10_begin_49 rfl (lv_at hl 2 rfl) ?_
      refine lv_iload_n hx hb dX10_begin_50 rfl (lv_at hl 3 rfl) ?_
      refine lv_aload_n hx hb dX10_begin_51 rfl (lv_at hl 0 rfl) ?_
      refine va_get (D := (dC, dI)) (ci := 10) (v := .ref a1) (C := RX10) (T := TX10) (N := 11) hx hb hts inX10_begin_X10 hown hK hP 0 rfl rfl 1 (by decide) (hts (.fieldLink RX10 19 "LeadPark" "scene" "LLeadPark$Scene;") (List.mem_of_getElem? (i := 3) rfl)) (fun _ h9 => h9) rfl dX10_begin_52 ?_
      refine va_getN (D := (dC, dI)) (ci := 6) (v := .ref a2) (C := RX6) (T := TX6) (N := 5) hx hb hts inX10_begin_X6 hown hK hP 1 rfl rfl 0 (by decide) (va_Nw.use rfl (hN _ (List.mem_of_getElem? (i := 29) rfl))) (fun _ h9 => h9) rfl dX10_begin_55 ?_
      refine lv_iload_n hx hb dX10_begin_58 rfl (lv_at hl 1 rfl) ?_
      refine lv_iconst (v := 0) hx hb dX10_begin_59 (by decide) ?_
      refine lv_iload_n hx hb dX10_begin_60 rfl (lv_at hl 2 rfl) ?_
      refine lv_iconst (v := 0) hx hb dX10_begin_61 (by decide) ?_
      have hPc := hP.sub (ws' := (ceX1_distance cyI cyB cyJ cyZ a2 a4 a5 a3 a6 g2_ways g2_wallCount g2_texts f4 f5)) [2, 4, 5] rfl
      have hDc := hD.sub (ws' := (ceX1_distance cyI cyB cyJ cyZ a2 a4 a5 a3 a6 g2_ways g2_wallCount g2_texts f4 f5)) [2, 4, 5] (by decide) rfl
      have hFc := va_free (wc := (ceX1_distance cyI cyB cyJ cyZ a2 a4 a5 a3 a6 g2_ways g2_wallCount g2_texts f4 f5)) hD hS hA [2, 4, 5] rfl
      refine va_calli (va_runV (As := [.int p0, .int 0, .int p1, .int 0]) (rest := [.int p2, .int p1, .int p0, .ref a10]) ⟨hx, hb, hml, hown, hts⟩ (ctX1_distance l dC dI cyI cyB cyJ cyZ _ a2 a4 a5 a3 a6 g2_ways g2_wallCount g2_texts f4 f5 p0 0 p1 0 _ hw) (cwV 4 hts gX10_begin_X1_distance rfl rfl rfl (by decide +kernel) ⟨Nat.le_of_ble_eq_true rfl, Nat.le_of_ble_eq_true rfl⟩) ⟨wPre_blind, va_recv hK hPc (ci := 1) (q0 := 0) rfl rfl, fun U hU hW => wPre_of hPc hK hDc hN hU hW⟩ rfl rfl hl.1 rfl (lv_room (Nat.le_of_ble_eq_true rfl)) dX10_begin_62 ⟨(by decide), (by decide)⟩) hS (fun q _ h => hFc q h) hFc (fun r6 u5 t H1 locs ht hvm hw hB hz1 hk1 hS => ?_)
      obtain ⟨hP1, hK1, hD1⟩ := hB
      rw [ht] at hP1
      obtain ⟨hP, hD⟩ := va_join (wr := pickW (ceX10_begin cyI cyB cyJ cyZ a0 a1 a2 a3 a4 a5 a6 a7 a8 a9 a10 b0_tape b0_kept b0_draftGround b0_draftLaw b0_grid b0_pack b0_pieces b0_thinning b1_marks b10_steps b10_greatestAhead g0_imageKept g0_wrongByte g1_drawSeed g2_texts g7_lines g2_ways g2_wallCount f3 f4 f5 f6 g7_size f9 u3 g10_underWay g10_way g10_other g10_lead g10_man g10_dog g10_gone g10_greatest g10_remembered) [0, 1, 3, 6, 7, 8, 9, 10]) (w1 := (ceX1_distance cyI cyB cyJ cyZ a2 a4 a5 a3 a6 g2_ways g2_wallCount g2_texts f4 f5)) hP hD [2, 4, 5] [0, 1, 3, 6, 7, 8, 9, 10] rfl rfl (by decide) (by decide) hk1 hFc hP1 hD1
      have hP := hP.sub (ws' := (ceX10_begin cyI cyB cyJ cyZ a0 a1 a2 a3 a4 a5 a6 a7 a8 a9 a10 b0_tape b0_kept b0_draftGround b0_draftLaw b0_grid b0_pack b0_pieces b0_thinning b1_marks b10_steps b10_greatestAhead g0_imageKept g0_wrongByte g1_drawSeed g2_texts g7_lines g2_ways g2_wallCount f3 f4 f5 f6 g7_size f9 u3 g10_underWay g10_way g10_other g10_lead g10_man g10_dog g10_gone g10_greatest g10_remembered)) [0, 1, 8, 2, 9, 10, 3, 4, 5, 6, 7] rfl
      have hD := hD.sub (ws' := (ceX10_begin cyI cyB cyJ cyZ a0 a1 a2 a3 a4 a5 a6 a7 a8 a9 a10 b0_tape b0_kept b0_draftGround b0_draftLaw b0_grid b0_pack b0_pieces b0_thinning b1_marks b10_steps b10_greatestAhead g0_imageKept g0_wrongByte g1_drawSeed g2_texts g7_lines g2_ways g2_wallCount f3 f4 f5 f6 g7_size f9 u3 g10_underWay g10_way g10_other g10_lead g10_man g10_dog g10_gone g10_greatest g10_remembered)) [0, 1, 8, 2, 9, 10, 3, 4, 5, 6, 7] (by decide) rfl
      generalize H1 = H at hP hS ⊢
      have hPc := hP.sub (ws' := (ceX7_start cyI cyB cyJ cyZ a10 b10_steps b10_greatestAhead g10_underWay g10_way g10_other g10_lead g10_man g10_dog g10_gone g10_greatest g10_remembered)) [10] rfl
      have hDc := hD.sub (ws' := (ceX7_start cyI cyB cyJ cyZ a10 b10_steps b10_greatestAhead g10_underWay g10_way g10_other g10_lead g10_man g10_dog g10_gone g10_greatest g10_remembered)) [10] (by decide) rfl
      have hFc := va_free (wc := (ceX7_start cyI cyB cyJ cyZ a10 b10_steps b10_greatestAhead g10_underWay g10_way g10_other g10_lead g10_man g10_dog g10_gone g10_greatest g10_remembered)) hD hS hA [10] rfl
      refine va_callv (va_runV (As := [.int p0, .int p1, .int p2, .int r6]) (rest := []) ⟨hx, hb, hml, hown, hts⟩ (ctX7_start l dC dI cyI cyB cyJ cyZ _ a10 b10_steps b10_greatestAhead g10_underWay g10_way g10_other g10_lead g10_man g10_dog g10_gone g10_greatest g10_remembered p0 p1 p2 r6 _ hw) (cwV 4 hts gX10_begin_X7_start rfl rfl rfl (by decide +kernel) ⟨Nat.le_of_ble_eq_true rfl, Nat.le_of_ble_eq_true rfl⟩) ⟨wPre_blind, va_recv hK hPc (ci := 7) (q0 := 0) rfl rfl, fun U hU hW => wPre_of hPc hK hDc hN hU hW⟩ rfl rfl hl.1 rfl (lv_room (Nat.le_of_ble_eq_true rfl)) dX10_begin_65 ⟨(by decide), (by decide)⟩) hS (fun q _ h => hFc q h) hFc (fun u7 t H1 locs ht hvm hw hB hz1 hk1 hS => ?_)
      obtain ⟨hP1, hK1, hD1⟩ := hB
      rw [ht] at hP1
      obtain ⟨hP, hD⟩ := va_join (wr := pickW (ceX10_begin cyI cyB cyJ cyZ a0 a1 a2 a3 a4 a5 a6 a7 a8 a9 a10 b0_tape b0_kept b0_draftGround b0_draftLaw b0_grid b0_pack b0_pieces b0_thinning b1_marks b10_steps b10_greatestAhead g0_imageKept g0_wrongByte g1_drawSeed g2_texts g7_lines g2_ways g2_wallCount f3 f4 f5 f6 g7_size f9 u3 g10_underWay g10_way g10_other g10_lead g10_man g10_dog g10_gone g10_greatest g10_remembered) [0, 1, 2, 3, 4, 5, 6, 7, 8, 9]) (w1 := (ceX7_start cyI cyB cyJ cyZ a10 b10_steps b10_greatestAhead u7.1 u7.2.1 u7.2.2.1 u7.2.2.2.1 u7.2.2.2.2.1 u7.2.2.2.2.2.1 u7.2.2.2.2.2.2.1 u7.2.2.2.2.2.2.2.1 u7.2.2.2.2.2.2.2.2)) hP hD [10] [0, 1, 2, 3, 4, 5, 6, 7, 8, 9] rfl rfl (by decide) (by decide) hk1 hFc hP1 hD1
      have hP := hP.sub (ws' := (ceX10_begin cyI cyB cyJ cyZ a0 a1 a2 a3 a4 a5 a6 a7 a8 a9 a10 b0_tape b0_kept b0_draftGround b0_draftLaw b0_grid b0_pack b0_pieces b0_thinning b1_marks b10_steps b10_greatestAhead g0_imageKept g0_wrongByte g1_drawSeed g2_texts g7_lines g2_ways g2_wallCount f3 f4 f5 f6 g7_size f9 u3 u7.1 u7.2.1 u7.2.2.1 u7.2.2.2.1 u7.2.2.2.2.1 u7.2.2.2.2.2.1 u7.2.2.2.2.2.2.1 u7.2.2.2.2.2.2.2.1 u7.2.2.2.2.2.2.2.2)) [0, 1, 2, 3, 4, 5, 6, 7, 8, 9, 10] rfl
      have hD := hD.sub (ws' := (ceX10_begin cyI cyB cyJ cyZ a0 a1 a2 a3 a4 a5 a6 a7 a8 a9 a10 b0_tape b0_kept b0_draftGround b0_draftLaw b0_grid b0_pack b0_pieces b0_thinning b1_marks b10_steps b10_greatestAhead g0_imageKept g0_wrongByte g1_drawSeed g2_texts g7_lines g2_ways g2_wallCount f3 f4 f5 f6 g7_size f9 u3 u7.1 u7.2.1 u7.2.2.1 u7.2.2.2.1 u7.2.2.2.2.1 u7.2.2.2.2.2.1 u7.2.2.2.2.2.2.1 u7.2.2.2.2.2.2.2.1 u7.2.2.2.2.2.2.2.2)) [0, 1, 2, 3, 4, 5, 6, 7, 8, 9, 10] (by decide) rfl
      generalize H1 = H at hP hS ⊢
      refine lv_iconst (v := 1) hx hb dX10_begin_68 (by decide) ?_
      rw [hQ]
      refine vx_ret ?_
      refine W.widen (k := 3) (n := 18) (by decide) (by decide) ?_
      exact W.zret (v := 1) (ty := .boolean) hx hb hr rfl (fun t ht hW => ⟨⟨1, (u3, u7.1, u7.2.1, u7.2.2.1, u7.2.2.2.1, u7.2.2.2.2.1, u7.2.2.2.2.2.1, u7.2.2.2.2.2.2.1, u7.2.2.2.2.2.2.2.1, u7.2.2.2.2.2.2.2.2), rfl, hw, by rw [ht]; exact hP, va_K.moved hW.alike hK, hD⟩, hS.F ht⟩) hS.2.2 dX10_begin_69
    · have hw := hw.2 hc
      refine lv_iconst (v := 0) hx hb dX10_begin_39 (by decide) ?_
      rw [hQ]
      refine vx_ret ?_
      refine W.widen (k := 3) (n := 18) (by decide) (by decide) ?_
      exact W.zret (v := 0) (ty := .boolean) hx hb hr rfl (fun t ht hW => ⟨⟨0, (u3, g10_underWay, g10_way, g10_other, g10_lead, g10_man, g10_dog, g10_gone, g10_greatest, g10_remembered), rfl, hw, by rw [ht]; exact hP, va_K.moved hW.alike hK, hD⟩, hS.F ht⟩) hS.2.2 dX10_begin_40
  · have hw := hw.2 hc
    rw [hQ]
    exact vx_throwS (cls := "java/lang/IllegalArgumentException") (names := ["java/lang/RuntimeException", "java/lang/Exception"]) (mc := 3) (ms := 18) hx hb hl0 hown (by decide +kernel) (by decide +kernel) (hts (.classLink RX10 102 "java/lang/IllegalArgumentException") (List.mem_of_getElem? (i := 1) rfl)) (hts (.initialized "java/lang/IllegalArgumentException") (List.mem_of_getElem? (i := 2) rfl)) (hXs.1.2 36 _ rfl).1 (hatX10_begin_106 hts hXs.2.2.2) hgd_106 hXs.2.1 hXs.2.2.1 hS (hl.1.trans hml.symm) dX10_begin_14 dX10_begin_17 dX10_begin_18 dX10_begin_20 dX10_begin_23 (fun x h => (hT x h).elim) (by decide) (by decide) (by decide) (by decide) hlocks (fun t hvm hz hk => thr_X (f8, g10_underWay, g10_way, g10_other, g10_lead, g10_man, g10_dog, g10_gone, g10_greatest, g10_remembered) hw hP hK hD hS hvm hz hk) hS.2.2 (by decide) (by decide)
/-! LeadPark.step (I)I -/
abbrev ceX10_step (cyI cyB cyJ cyZ : ClassId) (a0 a1 a2 a3 a4 a5 a6 a7 a8 a9 a10 a11 a12 b0_tape b0_kept b0_draftGround b0_draftLaw b0_grid b0_pack b0_pieces b0_thinning b1_marks : Nat) (g0_imageKept : Int32) (g0_wrongByte : Int32) (g1_drawSeed : Int32) (g5_texts : Int32) (g10_lines : Int32) (g2_underWay : Int32) (g2_way : Int32) (g2_other : Int32) (g2_lead : Int32) (g5_ways : Int32) (g5_wallCount : Int32) (f6 : Nat → Int32) (f7 : Nat → Int32) (f8 : Nat → Int32) (f9 : Nat → Int32) (g10_size : Int32) (f12 : Nat → Int32) (g2_man : Int32) (g2_dog : Int32) (g2_gone : Int32) (g2_greatest : Int32) (g2_remembered : Int32) (f3 : Nat → Int32) (f4 : Nat → Int32) (f11 : Nat → Int32) : va_W := [(a0, .inr (10, [.ref b0_tape, .ref a1, .ref b0_kept, .ref b0_draftGround, .ref b0_draftLaw, .ref b0_grid, .ref b0_pack, .ref b0_pieces, .ref b0_thinning, .int g0_imageKept, .int g0_wrongByte])), (a1, .inr (6, [.ref a5, .ref a10, .ref b1_marks, .ref a2, .int g1_drawSeed])), (a2, .inr (7, [.int g2_underWay, .int g2_way, .int g2_other, .int g2_lead, .int g2_man, .int g2_dog, .int g2_gone, .int g2_greatest, .int g2_remembered, .ref a3, .ref a4])), (a3, .inl (cyI, 58, .inl f3)), (a4, .inl (cyI, 58, .inl f4)), (a5, .inr (1, [.ref a7, .ref a8, .ref a6, .ref a9, .int g5_ways, .int g5_wallCount, .int g5_texts])), (a6, .inl (cyI, 12, .inl f6)), (a7, .inl (cyI, 360, .inl f7)), (a8, .inl (cyI, 360, .inl f8)), (a9, .inl (cyI, 32, .inl f9)), (a10, .inr (2, [.ref a12, .ref a11, .int g10_size, .int g10_lines])), (a11, .inl (cyI, 7, .inl f11)), (a12, .inl (cyI, 400, .inl f12))]

theorem inX10_step_X10 : ∀ w ∈ wsX100, w ∈ wsX10_step := fun _ h => List.mem_cons_of_mem _ (List.mem_append_left _ (List.mem_append_left _ (List.mem_append_left _ (List.mem_append_left _ (List.mem_append_left _ (List.mem_append_right _ h))))))
theorem hatX10_step_106 {args : Array Value} {s : State} (hts : ∀ w ∈ wsX10_step, w.before args s = true) (hB : ∀ w ∈ txBad, w.before #[] s = true) : ∀ w ∈ vx_atS RX10 106 "java/lang/IllegalArgumentException" ["java/lang/RuntimeException", "java/lang/Exception"], w.before args s = true := vx_hat (B := txBad) (fun w h => hts w (List.mem_cons_of_mem _ (List.mem_append_right _ h))) hbd_106 (fun w h => va_Nw.use (List.all_eq_true.mp txBad_tab w h) (hB w h))
abbrev rmX10_step : Room := { frames := 6, cells := 1, slots := 6, locals := 174 }
set_option maxRecDepth 100000 in
set_option maxHeartbeats 4000000 in
theorem bX10_step_10 {p : Program} {l : Launch} {e : Env} {s : State} {m : MethodId} {args : Array Value} {below : List Frame} {meth : Method} {c : Code} {dC : Nat → ClassId} {dI : Nat → Nat → Nat} {cyI cyB cyJ cyZ : ClassId} {A : Nat → Prop} {a0 a1 a2 a3 a4 a5 a6 a7 a8 a9 a10 a11 a12 b0_tape b0_kept b0_draftGround b0_draftLaw b0_grid b0_pack b0_pieces b0_thinning b1_marks : Nat} {g0_imageKept : Int32} {g0_wrongByte : Int32} {g1_drawSeed : Int32} {g5_texts : Int32} {g10_lines : Int32} {adS : Nat → Nat} (C0 : cxM p s m meth c args wsX10_step RX10 cX10_step 2 (some .int)) (hK : va_K (dC, dI) vwCl (tyA cyI cyB cyJ cyZ) s) (hN : nwA s) (hA : ∀ q : Nat, s.heap.size ≤ q → A q) (hXs : (txT adS) A s s.heap) (hl0 : l.stackTraces = false) (hT : ∀ x ∈ c.exceptionTable.toList, False) {post : Int32 → (Int32 × Int32 × Int32 × Int32 × Int32 × (Nat → Int32) × (Nat → Int32) × (Nat → Int32)) → Prop} {postX : String → (Int32 × Int32 × Int32 × Int32 × Int32 × (Nat → Int32) × (Nat → Int32) × (Nat → Int32)) → Prop} {g2_underWay : Int32} {g2_way : Int32} {g2_other : Int32} {g2_lead : Int32} {g5_ways : Int32} {g5_wallCount : Int32} {f6 : Nat → Int32} {f7 : Nat → Int32} {f8 : Nat → Int32} {f9 : Nat → Int32} {g10_size : Int32} {f12 : Nat → Int32} {Q : State → Prop} (hQ : Q = vx_MQ below (va_Qi post (fun u : Int32 × Int32 × Int32 × Int32 × Int32 × (Nat → Int32) × (Nat → Int32) × (Nat → Int32) => wAt dC dI cyI cyB cyJ cyZ A (ceX10_step cyI cyB cyJ cyZ a0 a1 a2 a3 a4 a5 a6 a7 a8 a9 a10 a11 a12 b0_tape b0_kept b0_draftGround b0_draftLaw b0_grid b0_pack b0_pieces b0_thinning b1_marks g0_imageKept g0_wrongByte g1_drawSeed g5_texts g10_lines g2_underWay g2_way g2_other g2_lead g5_ways g5_wallCount f6 f7 f8 f9 g10_size f12 u.1 u.2.1 u.2.2.1 u.2.2.2.1 u.2.2.2.2.1 u.2.2.2.2.2.1 u.2.2.2.2.2.2.1 u.2.2.2.2.2.2.2)) A) (vx_X (fun _ : Int32 × Int32 × Int32 × Int32 × Int32 × (Nat → Int32) × (Nat → Int32) × (Nat → Int32) => True) (fun E (u : Int32 × Int32 × Int32 × Int32 × Int32 × (Nat → Int32) × (Nat → Int32) × (Nat → Int32)) t => postX E u ∧ wAt dC dI cyI cyB cyJ cyZ A (ceX10_step cyI cyB cyJ cyZ a0 a1 a2 a3 a4 a5 a6 a7 a8 a9 a10 a11 a12 b0_tape b0_kept b0_draftGround b0_draftLaw b0_grid b0_pack b0_pieces b0_thinning b1_marks g0_imageKept g0_wrongByte g1_drawSeed g5_texts g10_lines g2_underWay g2_way g2_other g2_lead g5_ways g5_wallCount f6 f7 f8 f9 g10_size f12 u.1 u.2.1 u.2.2.1 u.2.2.2.1 u.2.2.2.2.1 u.2.2.2.2.2.1 u.2.2.2.2.2.2.1 u.2.2.2.2.2.2.2) t) A) args s 1 6 A) : ∀ (g2_man : Int32) (g2_dog : Int32) (g2_gone : Int32) (g2_greatest : Int32) (g2_remembered : Int32) (f3 : Nat → Int32) (f4 : Nat → Int32) (f11 : Nat → Int32), wpX10_step_10 post postX g2_underWay g2_way g2_other g2_lead g5_ways g5_wallCount f6 f7 f8 f9 g10_size f12 g2_man g2_dog g2_gone g2_greatest g2_remembered f3 f4 f11 → AtW p l e rmX10_step s m args below meth c dC dI A Q 2 0 0 (ceX10_step cyI cyB cyJ cyZ a0 a1 a2 a3 a4 a5 a6 a7 a8 a9 a10 a11 a12 b0_tape b0_kept b0_draftGround b0_draftLaw b0_grid b0_pack b0_pieces b0_thinning b1_marks g0_imageKept g0_wrongByte g1_drawSeed g5_texts g10_lines g2_underWay g2_way g2_other g2_lead g5_ways g5_wallCount f6 f7 f8 f9 g10_size f12 g2_man g2_dog g2_gone g2_greatest g2_remembered f3 f4 f11) [] 10 [] := by
  intro g2_man g2_dog g2_gone g2_greatest g2_remembered f3 f4 f11 hw H locs hP hD hS ls hl
  have C1 := C0
  obtain ⟨hx, hb, hr, hml, hown, hts, hlocks⟩ := C1
  rw [hQ]
  exact vx_throwS (cls := "java/lang/IllegalArgumentException") (names := ["java/lang/RuntimeException", "java/lang/Exception"]) (mc := 1) (ms := 6) hx hb hl0 hown (by decide +kernel) (by decide +kernel) (hts (.classLink RX10 102 "java/lang/IllegalArgumentException") (List.mem_of_getElem? (i := 1) rfl)) (hts (.initialized "java/lang/IllegalArgumentException") (List.mem_of_getElem? (i := 2) rfl)) (hXs.1.2 33 _ rfl).1 (hatX10_step_106 hts hXs.2.2.2) hgd_106 hXs.2.1 hXs.2.2.1 hS (hl.1.trans hml.symm) dX10_step_10 dX10_step_13 dX10_step_14 dX10_step_16 dX10_step_19 (fun x h => (hT x h).elim) (by decide) (by decide) (by decide) (by decide) hlocks (fun t hvm hz hk => thr_X (g2_man, g2_dog, g2_gone, g2_greatest, g2_remembered, f3, f4, f11) hw hP hK hD hS hvm hz hk) hS.2.2 (by decide) (by decide)
set_option maxRecDepth 100000 in
set_option maxHeartbeats 4000000 in
theorem ctX10_step (l : Launch) (hl0 : l.stackTraces = false) (dC : Nat → ClassId) (dI : Nat → Nat → Nat) (cyI cyB cyJ cyZ : ClassId) (sz : Nat) (a0 a1 a2 a3 a4 a5 a6 a7 a8 a9 a10 a11 a12 b0_tape b0_kept b0_draftGround b0_draftLaw b0_grid b0_pack b0_pieces b0_thinning b1_marks : Nat) (g0_imageKept : Int32) (g0_wrongByte : Int32) (g1_drawSeed : Int32) (g5_texts : Int32) (g10_lines : Int32) (g2_underWay : Int32) (g2_way : Int32) (g2_other : Int32) (g2_lead : Int32) (g5_ways : Int32) (g5_wallCount : Int32) (f6 : Nat → Int32) (f7 : Nat → Int32) (f8 : Nat → Int32) (f9 : Nat → Int32) (g10_size : Int32) (f12 : Nat → Int32) (g2_man : Int32) (g2_dog : Int32) (g2_gone : Int32) (g2_greatest : Int32) (g2_remembered : Int32) (f3 : Nat → Int32) (f4 : Nat → Int32) (f11 : Nat → Int32) (p0 : Int32) (post : Int32 → (Int32 × Int32 × Int32 × Int32 × Int32 × (Nat → Int32) × (Nat → Int32) × (Nat → Int32)) → Prop) (postX : String → (Int32 × Int32 × Int32 × Int32 × Int32 × (Nat → Int32) × (Nat → Int32) × (Nat → Int32)) → Prop) (adS : Nat → Nat) (hw : wpX10_step post postX g2_underWay g2_way g2_other g2_lead g5_ways g5_wallCount f6 f7 f8 f9 g10_size f12 g2_man g2_dog g2_gone g2_greatest g2_remembered f3 f4 f11 p0) : vx_Met l yX10_step wsX10_step rmX10_step (va_Pc [.ref a0, .int p0] (wPreX dC dI cyI cyB cyJ cyZ sz (ceX10_step cyI cyB cyJ cyZ a0 a1 a2 a3 a4 a5 a6 a7 a8 a9 a10 a11 a12 b0_tape b0_kept b0_draftGround b0_draftLaw b0_grid b0_pack b0_pieces b0_thinning b1_marks g0_imageKept g0_wrongByte g1_drawSeed g5_texts g10_lines g2_underWay g2_way g2_other g2_lead g5_ways g5_wallCount f6 f7 f8 f9 g10_size f12 g2_man g2_dog g2_gone g2_greatest g2_remembered f3 f4 f11) (txT adS))) (va_Qi post (fun u : Int32 × Int32 × Int32 × Int32 × Int32 × (Nat → Int32) × (Nat → Int32) × (Nat → Int32) => wAt dC dI cyI cyB cyJ cyZ (va_A (ceX10_step cyI cyB cyJ cyZ a0 a1 a2 a3 a4 a5 a6 a7 a8 a9 a10 a11 a12 b0_tape b0_kept b0_draftGround b0_draftLaw b0_grid b0_pack b0_pieces b0_thinning b1_marks g0_imageKept g0_wrongByte g1_drawSeed g5_texts g10_lines g2_underWay g2_way g2_other g2_lead g5_ways g5_wallCount f6 f7 f8 f9 g10_size f12 g2_man g2_dog g2_gone g2_greatest g2_remembered f3 f4 f11) sz) (ceX10_step cyI cyB cyJ cyZ a0 a1 a2 a3 a4 a5 a6 a7 a8 a9 a10 a11 a12 b0_tape b0_kept b0_draftGround b0_draftLaw b0_grid b0_pack b0_pieces b0_thinning b1_marks g0_imageKept g0_wrongByte g1_drawSeed g5_texts g10_lines g2_underWay g2_way g2_other g2_lead g5_ways g5_wallCount f6 f7 f8 f9 g10_size f12 u.1 u.2.1 u.2.2.1 u.2.2.2.1 u.2.2.2.2.1 u.2.2.2.2.2.1 u.2.2.2.2.2.2.1 u.2.2.2.2.2.2.2)) (va_A (ceX10_step cyI cyB cyJ cyZ a0 a1 a2 a3 a4 a5 a6 a7 a8 a9 a10 a11 a12 b0_tape b0_kept b0_draftGround b0_draftLaw b0_grid b0_pack b0_pieces b0_thinning b1_marks g0_imageKept g0_wrongByte g1_drawSeed g5_texts g10_lines g2_underWay g2_way g2_other g2_lead g5_ways g5_wallCount f6 f7 f8 f9 g10_size f12 g2_man g2_dog g2_gone g2_greatest g2_remembered f3 f4 f11) sz)) (vx_X (fun _ : Int32 × Int32 × Int32 × Int32 × Int32 × (Nat → Int32) × (Nat → Int32) × (Nat → Int32) => True) (fun E (u : Int32 × Int32 × Int32 × Int32 × Int32 × (Nat → Int32) × (Nat → Int32) × (Nat → Int32)) t => postX E u ∧ wAt dC dI cyI cyB cyJ cyZ (va_A (ceX10_step cyI cyB cyJ cyZ a0 a1 a2 a3 a4 a5 a6 a7 a8 a9 a10 a11 a12 b0_tape b0_kept b0_draftGround b0_draftLaw b0_grid b0_pack b0_pieces b0_thinning b1_marks g0_imageKept g0_wrongByte g1_drawSeed g5_texts g10_lines g2_underWay g2_way g2_other g2_lead g5_ways g5_wallCount f6 f7 f8 f9 g10_size f12 g2_man g2_dog g2_gone g2_greatest g2_remembered f3 f4 f11) sz) (ceX10_step cyI cyB cyJ cyZ a0 a1 a2 a3 a4 a5 a6 a7 a8 a9 a10 a11 a12 b0_tape b0_kept b0_draftGround b0_draftLaw b0_grid b0_pack b0_pieces b0_thinning b1_marks g0_imageKept g0_wrongByte g1_drawSeed g5_texts g10_lines g2_underWay g2_way g2_other g2_lead g5_ways g5_wallCount f6 f7 f8 f9 g10_size f12 u.1 u.2.1 u.2.2.1 u.2.2.2.1 u.2.2.2.2.1 u.2.2.2.2.2.1 u.2.2.2.2.2.2.1 u.2.2.2.2.2.2.2) t) (va_A (ceX10_step cyI cyB cyJ cyZ a0 a1 a2 a3 a4 a5 a6 a7 a8 a9 a10 a11 a12 b0_tape b0_kept b0_draftGround b0_draftLaw b0_grid b0_pack b0_pieces b0_thinning b1_marks g0_imageKept g0_wrongByte g1_drawSeed g5_texts g10_lines g2_underWay g2_way g2_other g2_lead g5_ways g5_wallCount f6 f7 f8 f9 g10_size f12 g2_man g2_dog g2_gone g2_greatest g2_remembered f3 f4 f11) sz)) 1 6 (va_A (ceX10_step cyI cyB cyJ cyZ a0 a1 a2 a3 a4 a5 a6 a7 a8 a9 a10 a11 a12 b0_tape b0_kept b0_draftGround b0_draftLaw b0_grid b0_pack b0_pieces b0_thinning b1_marks g0_imageKept g0_wrongByte g1_drawSeed g5_texts g10_lines g2_underWay g2_way g2_other g2_lead g5_ways g5_wallCount f6 f7 f8 f9 g10_size f12 g2_man g2_dog g2_gone g2_greatest g2_remembered f3 f4 f11) sz) := by
  refine vx_ofW (cc := cX10_step) (maxL := 2) (ret := (some .int)) (by decide) rfl ?_
  intro p e s m args below meth c s₁ B hml hT hv
  obtain ⟨rfl, ⟨hsz, hP, hK, hD0, hN⟩, hXs⟩ := hv
  have hx := B.exec
  have hb := B.bytes
  have hr := B.returns
  have hts := atoms_spec (ws := wsX10_step) B.pre
  have hown : s.vm.findClass RX10 = some m.cls := findClass_of_methodNamed B.named
  have hlocks := B.notSynchronized
  subst hsz
  have hD := hD0.self (sz := s.heap.size)
  generalize hAe : va_A (ceX10_step cyI cyB cyJ cyZ a0 a1 a2 a3 a4 a5 a6 a7 a8 a9 a10 a11 a12 b0_tape b0_kept b0_draftGround b0_draftLaw b0_grid b0_pack b0_pieces b0_thinning b1_marks g0_imageKept g0_wrongByte g1_drawSeed g5_texts g10_lines g2_underWay g2_way g2_other g2_lead g5_ways g5_wallCount f6 f7 f8 f9 g10_size f12 g2_man g2_dog g2_gone g2_greatest g2_remembered f3 f4 f11) s.heap.size = A at hD hXs ⊢
  have hA : ∀ q : Nat, s.heap.size ≤ q → A q := fun q h => by rw [← hAe]; exact Or.inr h
  have hS : va_S A s.heap s.heap [] := va_S.rf
  have C0 : cxM p s m meth c _ wsX10_step RX10 cX10_step 2 (some .int) := ⟨hx, hb, hr, hml, hown, hts, hlocks⟩
  have hl := lv_entry ([.ref a0, .int p0]) (n := 2) (Nat.le_of_ble_eq_true rfl)
  rw [lg_entry_eq]
  generalize (lg_sl ([.ref a0, .int p0]) ++ List.replicate (2 - (lg_sl ([.ref a0, .int p0])).length) Slot.unset).toArray = ls at hl ⊢
  have hl : lv_has ls 2 [(0, .ref a0), (1, .int p0)] := hl
  show W p l e rmX10_step s m _ below meth c _ _ _ _ _ _
  refine wq (fun Q hQ => ?_)
  refine lv_iload_n hx hb dX10_step_0 rfl (lv_at hl 1 rfl) ?_
  refine lv_iconst (v := 1) hx hb dX10_step_1 (by decide) ?_
  refine lv_icmp_lt (tgt := 10) hx hb dX10_step_2 (by decide) (fun hc => ?_) (fun hc => ?_)
  · have hw := hw.1 hc
    refine W.widen (k := 0) (n := 0) (by decide) (by decide) ?_
    exact bX10_step_10 C0 hK hN hA hXs hl0 hT hQ g2_man g2_dog g2_gone g2_greatest g2_remembered f3 f4 f11 hw _ _ hP hD hS ls (lv_sub hl [] rfl)
  · have hw := hw.2 hc
    refine lv_iload_n hx hb dX10_step_5 rfl (lv_at hl 1 rfl) ?_
    refine lv_iconst (v := 3) hx hb dX10_step_6 (by decide) ?_
    refine lv_icmp_le (tgt := 20) hx hb dX10_step_7 (by decide) (fun hc => ?_) (fun hc => ?_)
    · have hw := hw.1 hc
      refine lv_aload_n hx hb dX10_step_20 rfl (lv_at hl 0 rfl) ?_
      refine va_get (D := (dC, dI)) (ci := 10) (v := .ref a1) (C := RX10) (T := TX10) (N := 11) hx hb hts inX10_step_X10 hown hK hP 0 rfl rfl 1 (by decide) (hts (.fieldLink RX10 19 "LeadPark" "scene" "LLeadPark$Scene;") (List.mem_of_getElem? (i := 3) rfl)) (fun _ h9 => h9) rfl dX10_step_21 ?_
      refine lv_iload_n hx hb dX10_step_24 rfl (lv_at hl 1 rfl) ?_
      have hPc := hP.sub (ws' := (ceX6_canGo cyI cyB cyJ cyZ a1 a2 a5 a6 a7 a8 a9 a10 a11 a12 b1_marks a3 a4 g1_drawSeed g2_gone g2_greatest g2_remembered g5_texts g10_lines g2_underWay g2_way g2_other g2_lead g2_man g2_dog g5_ways g5_wallCount f6 f7 f8 f9 g10_size f12 f11)) [1, 2, 5, 6, 7, 8, 9, 10, 11, 12] rfl
      have hDc := hD.sub (ws' := (ceX6_canGo cyI cyB cyJ cyZ a1 a2 a5 a6 a7 a8 a9 a10 a11 a12 b1_marks a3 a4 g1_drawSeed g2_gone g2_greatest g2_remembered g5_texts g10_lines g2_underWay g2_way g2_other g2_lead g2_man g2_dog g5_ways g5_wallCount f6 f7 f8 f9 g10_size f12 f11)) [1, 2, 5, 6, 7, 8, 9, 10, 11, 12] (by decide) rfl
      have hFc := va_free (wc := (ceX6_canGo cyI cyB cyJ cyZ a1 a2 a5 a6 a7 a8 a9 a10 a11 a12 b1_marks a3 a4 g1_drawSeed g2_gone g2_greatest g2_remembered g5_texts g10_lines g2_underWay g2_way g2_other g2_lead g2_man g2_dog g5_ways g5_wallCount f6 f7 f8 f9 g10_size f12 f11)) hD hS hA [1, 2, 5, 6, 7, 8, 9, 10, 11, 12] rfl
      refine va_calli (va_runV (As := [.int p0]) (rest := []) ⟨hx, hb, hml, hown, hts⟩ (ctX6_canGo l dC dI cyI cyB cyJ cyZ _ a1 a2 a5 a6 a7 a8 a9 a10 a11 a12 b1_marks a3 a4 g1_drawSeed g2_gone g2_greatest g2_remembered g5_texts g10_lines g2_underWay g2_way g2_other g2_lead g2_man g2_dog g5_ways g5_wallCount f6 f7 f8 f9 g10_size f12 f11 p0 _ hw) (cwV 1 hts gX10_step_X6_canGo rfl rfl rfl (by decide +kernel) ⟨Nat.le_of_ble_eq_true rfl, Nat.le_of_ble_eq_true rfl⟩) ⟨wPre_blind, va_recv hK hPc (ci := 6) (q0 := 0) rfl rfl, fun U hU hW => wPre_of hPc hK hDc hN hU hW⟩ rfl rfl hl.1 rfl (lv_room (Nat.le_of_ble_eq_true rfl)) dX10_step_25 ⟨(by decide), (by decide)⟩) hS (fun q _ h => hFc q h) hFc (fun r2 u1 t H1 locs ht hvm hw hB hz1 hk1 hS => ?_)
      obtain ⟨hP1, hK1, hD1⟩ := hB
      rw [ht] at hP1
      obtain ⟨hP, hD⟩ := va_join (wr := pickW (ceX10_step cyI cyB cyJ cyZ a0 a1 a2 a3 a4 a5 a6 a7 a8 a9 a10 a11 a12 b0_tape b0_kept b0_draftGround b0_draftLaw b0_grid b0_pack b0_pieces b0_thinning b1_marks g0_imageKept g0_wrongByte g1_drawSeed g5_texts g10_lines g2_underWay g2_way g2_other g2_lead g5_ways g5_wallCount f6 f7 f8 f9 g10_size f12 g2_man g2_dog g2_gone g2_greatest g2_remembered f3 f4 f11) [0, 3, 4]) (w1 := (ceX6_canGo cyI cyB cyJ cyZ a1 a2 a5 a6 a7 a8 a9 a10 a11 a12 b1_marks a3 a4 g1_drawSeed g2_gone g2_greatest g2_remembered g5_texts g10_lines g2_underWay g2_way g2_other g2_lead g2_man g2_dog g5_ways g5_wallCount f6 f7 f8 f9 g10_size f12 u1)) hP hD [1, 2, 5, 6, 7, 8, 9, 10, 11, 12] [0, 3, 4] rfl rfl (by decide) (by decide) hk1 hFc hP1 hD1
      have hP := hP.sub (ws' := (ceX10_step cyI cyB cyJ cyZ a0 a1 a2 a3 a4 a5 a6 a7 a8 a9 a10 a11 a12 b0_tape b0_kept b0_draftGround b0_draftLaw b0_grid b0_pack b0_pieces b0_thinning b1_marks g0_imageKept g0_wrongByte g1_drawSeed g5_texts g10_lines g2_underWay g2_way g2_other g2_lead g5_ways g5_wallCount f6 f7 f8 f9 g10_size f12 g2_man g2_dog g2_gone g2_greatest g2_remembered f3 f4 u1)) [0, 3, 4, 1, 2, 5, 6, 7, 8, 9, 10, 11, 12] rfl
      have hD := hD.sub (ws' := (ceX10_step cyI cyB cyJ cyZ a0 a1 a2 a3 a4 a5 a6 a7 a8 a9 a10 a11 a12 b0_tape b0_kept b0_draftGround b0_draftLaw b0_grid b0_pack b0_pieces b0_thinning b1_marks g0_imageKept g0_wrongByte g1_drawSeed g5_texts g10_lines g2_underWay g2_way g2_other g2_lead g5_ways g5_wallCount f6 f7 f8 f9 g10_size f12 g2_man g2_dog g2_gone g2_greatest g2_remembered f3 f4 u1)) [0, 3, 4, 1, 2, 5, 6, 7, 8, 9, 10, 11, 12] (by decide) rfl
      generalize H1 = H at hP hS ⊢
      refine lv_if_ne (tgt := 33) hx hb dX10_step_28 (by decide) (fun hc => ?_) (fun hc => ?_)
      · have hw := hw.1 hc
        refine lv_aload_n hx hb dX10_step_33 rfl (lv_at hl 0 rfl) ?_
        refine va_get (D := (dC, dI)) (ci := 10) (v := .ref a1) (C := RX10) (T := TX10) (N := 11) hx hb hts inX10_step_X10 hown hK hP 0 rfl rfl 1 (by decide) (hts (.fieldLink RX10 19 "LeadPark" "scene" "LLeadPark$Scene;") (List.mem_of_getElem? (i := 3) rfl)) (fun _ h9 => h9) rfl dX10_step_34 ?_
        refine lv_iload_n hx hb dX10_step_37 rfl (lv_at hl 1 rfl) ?_
        have hPc := hP.sub (ws' := (ceX6_go cyI cyB cyJ cyZ a1 a2 a3 a4 a5 a7 a8 a10 b1_marks a6 a9 g1_drawSeed g2_underWay g2_lead g5_ways g5_wallCount g5_texts g2_way g2_other f7 f8 g2_man g2_dog g2_gone g2_greatest g2_remembered f3 f4)) [1, 2, 3, 4, 5, 7, 8] rfl
        have hDc := hD.sub (ws' := (ceX6_go cyI cyB cyJ cyZ a1 a2 a3 a4 a5 a7 a8 a10 b1_marks a6 a9 g1_drawSeed g2_underWay g2_lead g5_ways g5_wallCount g5_texts g2_way g2_other f7 f8 g2_man g2_dog g2_gone g2_greatest g2_remembered f3 f4)) [1, 2, 3, 4, 5, 7, 8] (by decide) rfl
        have hFc := va_free (wc := (ceX6_go cyI cyB cyJ cyZ a1 a2 a3 a4 a5 a7 a8 a10 b1_marks a6 a9 g1_drawSeed g2_underWay g2_lead g5_ways g5_wallCount g5_texts g2_way g2_other f7 f8 g2_man g2_dog g2_gone g2_greatest g2_remembered f3 f4)) hD hS hA [1, 2, 3, 4, 5, 7, 8] rfl
        refine va_calli (va_runV (As := [.int p0]) (rest := []) ⟨hx, hb, hml, hown, hts⟩ (ctX6_go l dC dI cyI cyB cyJ cyZ _ a1 a2 a3 a4 a5 a7 a8 a10 b1_marks a6 a9 g1_drawSeed g2_underWay g2_lead g5_ways g5_wallCount g5_texts g2_way g2_other f7 f8 g2_man g2_dog g2_gone g2_greatest g2_remembered f3 f4 p0 _ hw) (cwV 1 hts gX10_step_X6_go rfl rfl rfl (by decide +kernel) ⟨Nat.le_of_ble_eq_true rfl, Nat.le_of_ble_eq_true rfl⟩) ⟨wPre_blind, va_recv hK hPc (ci := 6) (q0 := 0) rfl rfl, fun U hU hW => wPre_of hPc hK hDc hN hU hW⟩ rfl rfl hl.1 rfl (lv_room (Nat.le_of_ble_eq_true rfl)) dX10_step_38 ⟨(by decide), (by decide)⟩) hS (fun q _ h => hFc q h) hFc (fun r4 u3 t H1 locs ht hvm hw hB hz1 hk1 hS => ?_)
        obtain ⟨hP1, hK1, hD1⟩ := hB
        rw [ht] at hP1
        obtain ⟨hP, hD⟩ := va_join (wr := pickW (ceX10_step cyI cyB cyJ cyZ a0 a1 a2 a3 a4 a5 a6 a7 a8 a9 a10 a11 a12 b0_tape b0_kept b0_draftGround b0_draftLaw b0_grid b0_pack b0_pieces b0_thinning b1_marks g0_imageKept g0_wrongByte g1_drawSeed g5_texts g10_lines g2_underWay g2_way g2_other g2_lead g5_ways g5_wallCount f6 f7 f8 f9 g10_size f12 g2_man g2_dog g2_gone g2_greatest g2_remembered f3 f4 u1) [0, 6, 9, 10, 11, 12]) (w1 := (ceX6_go cyI cyB cyJ cyZ a1 a2 a3 a4 a5 a7 a8 a10 b1_marks a6 a9 g1_drawSeed g2_underWay g2_lead g5_ways g5_wallCount g5_texts g2_way g2_other f7 f8 u3.1 u3.2.1 u3.2.2.1 u3.2.2.2.1 u3.2.2.2.2.1 u3.2.2.2.2.2.1 u3.2.2.2.2.2.2)) hP hD [1, 2, 3, 4, 5, 7, 8] [0, 6, 9, 10, 11, 12] rfl rfl (by decide) (by decide) hk1 hFc hP1 hD1
        have hP := hP.sub (ws' := (ceX10_step cyI cyB cyJ cyZ a0 a1 a2 a3 a4 a5 a6 a7 a8 a9 a10 a11 a12 b0_tape b0_kept b0_draftGround b0_draftLaw b0_grid b0_pack b0_pieces b0_thinning b1_marks g0_imageKept g0_wrongByte g1_drawSeed g5_texts g10_lines g2_underWay g2_way g2_other g2_lead g5_ways g5_wallCount f6 f7 f8 f9 g10_size f12 u3.1 u3.2.1 u3.2.2.1 u3.2.2.2.1 u3.2.2.2.2.1 u3.2.2.2.2.2.1 u3.2.2.2.2.2.2 u1)) [0, 6, 7, 8, 9, 10, 1, 11, 12, 2, 3, 4, 5] rfl
        have hD := hD.sub (ws' := (ceX10_step cyI cyB cyJ cyZ a0 a1 a2 a3 a4 a5 a6 a7 a8 a9 a10 a11 a12 b0_tape b0_kept b0_draftGround b0_draftLaw b0_grid b0_pack b0_pieces b0_thinning b1_marks g0_imageKept g0_wrongByte g1_drawSeed g5_texts g10_lines g2_underWay g2_way g2_other g2_lead g5_ways g5_wallCount f6 f7 f8 f9 g10_size f12 u3.1 u3.2.1 u3.2.2.1 u3.2.2.2.1 u3.2.2.2.2.1 u3.2.2.2.2.2.1 u3.2.2.2.2.2.2 u1)) [0, 6, 7, 8, 9, 10, 1, 11, 12, 2, 3, 4, 5] (by decide) rfl
        generalize H1 = H at hP hS ⊢
        rw [hQ]
        refine vx_ret ?_
        refine W.widen (k := 1) (n := 6) (by decide) (by decide) ?_
        exact W.iret (v := r4) hx hb hr (fun t ht hW => ⟨⟨r4, (u3.1, u3.2.1, u3.2.2.1, u3.2.2.2.1, u3.2.2.2.2.1, u3.2.2.2.2.2.1, u3.2.2.2.2.2.2, u1), rfl, hw, by rw [ht]; exact hP, va_K.moved hW.alike hK, hD⟩, hS.F ht⟩) hS.2.2 dX10_step_41
      · have hw := hw.2 hc
        refine lv_iconst (v := (-1)) hx hb dX10_step_31 (by decide) ?_
        rw [hQ]
        refine vx_ret ?_
        refine W.widen (k := 1) (n := 6) (by decide) (by decide) ?_
        exact W.iret (v := (-1)) hx hb hr (fun t ht hW => ⟨⟨(-1), (g2_man, g2_dog, g2_gone, g2_greatest, g2_remembered, f3, f4, u1), rfl, hw, by rw [ht]; exact hP, va_K.moved hW.alike hK, hD⟩, hS.F ht⟩) hS.2.2 dX10_step_32
    · have hw := hw.2 hc
      refine W.widen (k := 0) (n := 0) (by decide) (by decide) ?_
      exact bX10_step_10 C0 hK hN hA hXs hl0 hT hQ g2_man g2_dog g2_gone g2_greatest g2_remembered f3 f4 f11 hw _ _ hP hD hS ls (lv_sub hl [] rfl)
/-! LeadPark.undo ()I -/
abbrev ceX10_undo (cyI cyB cyJ cyZ : ClassId) (a0 a1 a2 a3 a4 b0_tape b0_kept b0_draftGround b0_draftLaw b0_grid b0_pack b0_pieces b0_thinning b1_ground b1_law b1_marks : Nat) (g0_imageKept : Int32) (g0_wrongByte : Int32) (g1_drawSeed : Int32) (g2_way : Int32) (g2_other : Int32) (g2_lead : Int32) (g2_underWay : Int32) (f3 : Nat → Int32) (f4 : Nat → Int32) (g2_man : Int32) (g2_dog : Int32) (g2_gone : Int32) (g2_greatest : Int32) (g2_remembered : Int32) : va_W := [(a0, .inr (10, [.ref b0_tape, .ref a1, .ref b0_kept, .ref b0_draftGround, .ref b0_draftLaw, .ref b0_grid, .ref b0_pack, .ref b0_pieces, .ref b0_thinning, .int g0_imageKept, .int g0_wrongByte])), (a1, .inr (6, [.ref b1_ground, .ref b1_law, .ref b1_marks, .ref a2, .int g1_drawSeed])), (a2, .inr (7, [.int g2_underWay, .int g2_way, .int g2_other, .int g2_lead, .int g2_man, .int g2_dog, .int g2_gone, .int g2_greatest, .int g2_remembered, .ref a3, .ref a4])), (a3, .inl (cyI, 58, .inl f3)), (a4, .inl (cyI, 58, .inl f4))]

theorem inX10_undo_X10 : ∀ w ∈ wsX100, w ∈ wsX10_undo := fun _ h => List.mem_cons_of_mem _ (List.mem_append_left _ (List.mem_append_left _ (List.mem_append_right _ h)))
theorem inX10_undo_X6 : ∀ w ∈ wsX60, w ∈ wsX10_undo := fun _ h => List.mem_cons_of_mem _ (List.mem_append_left _ (List.mem_append_right _ h))
abbrev rmX10_undo : Room := { frames := 2, cells := 0, slots := 0, locals := 41 }
set_option maxRecDepth 100000 in
set_option maxHeartbeats 4000000 in
theorem ctX10_undo (l : Launch) (dC : Nat → ClassId) (dI : Nat → Nat → Nat) (cyI cyB cyJ cyZ : ClassId) (sz : Nat) (a0 a1 a2 a3 a4 b0_tape b0_kept b0_draftGround b0_draftLaw b0_grid b0_pack b0_pieces b0_thinning b1_ground b1_law b1_marks : Nat) (g0_imageKept : Int32) (g0_wrongByte : Int32) (g1_drawSeed : Int32) (g2_way : Int32) (g2_other : Int32) (g2_lead : Int32) (g2_underWay : Int32) (f3 : Nat → Int32) (f4 : Nat → Int32) (g2_man : Int32) (g2_dog : Int32) (g2_gone : Int32) (g2_greatest : Int32) (g2_remembered : Int32) (post : Int32 → (Int32 × Int32 × Int32 × Int32 × Int32) → Prop) (hw : wpX10_undo post g2_underWay f3 f4 g2_man g2_dog g2_gone g2_greatest g2_remembered ) : Met l yX10_undo wsX10_undo rmX10_undo (va_Pc [.ref a0] (wPre dC dI cyI cyB cyJ cyZ sz (ceX10_undo cyI cyB cyJ cyZ a0 a1 a2 a3 a4 b0_tape b0_kept b0_draftGround b0_draftLaw b0_grid b0_pack b0_pieces b0_thinning b1_ground b1_law b1_marks g0_imageKept g0_wrongByte g1_drawSeed g2_way g2_other g2_lead g2_underWay f3 f4 g2_man g2_dog g2_gone g2_greatest g2_remembered))) (va_Qi post (fun u : Int32 × Int32 × Int32 × Int32 × Int32 => wAt dC dI cyI cyB cyJ cyZ (va_A (ceX10_undo cyI cyB cyJ cyZ a0 a1 a2 a3 a4 b0_tape b0_kept b0_draftGround b0_draftLaw b0_grid b0_pack b0_pieces b0_thinning b1_ground b1_law b1_marks g0_imageKept g0_wrongByte g1_drawSeed g2_way g2_other g2_lead g2_underWay f3 f4 g2_man g2_dog g2_gone g2_greatest g2_remembered) sz) (ceX10_undo cyI cyB cyJ cyZ a0 a1 a2 a3 a4 b0_tape b0_kept b0_draftGround b0_draftLaw b0_grid b0_pack b0_pieces b0_thinning b1_ground b1_law b1_marks g0_imageKept g0_wrongByte g1_drawSeed g2_way g2_other g2_lead g2_underWay f3 f4 u.1 u.2.1 u.2.2.1 u.2.2.2.1 u.2.2.2.2)) (va_A (ceX10_undo cyI cyB cyJ cyZ a0 a1 a2 a3 a4 b0_tape b0_kept b0_draftGround b0_draftLaw b0_grid b0_pack b0_pieces b0_thinning b1_ground b1_law b1_marks g0_imageKept g0_wrongByte g1_drawSeed g2_way g2_other g2_lead g2_underWay f3 f4 g2_man g2_dog g2_gone g2_greatest g2_remembered) sz)) 0 0 (va_A (ceX10_undo cyI cyB cyJ cyZ a0 a1 a2 a3 a4 b0_tape b0_kept b0_draftGround b0_draftLaw b0_grid b0_pack b0_pieces b0_thinning b1_ground b1_law b1_marks g0_imageKept g0_wrongByte g1_drawSeed g2_way g2_other g2_lead g2_underWay f3 f4 g2_man g2_dog g2_gone g2_greatest g2_remembered) sz) := by
  refine Met.ofW (cc := cX10_undo) (maxL := 1) (ret := (some .int)) (by decide) rfl ?_
  intro p e s m args below meth c s₁ B hml hv
  obtain ⟨rfl, hsz, hP, hK, hD0, hN⟩ := hv
  have hx := B.exec
  have hb := B.bytes
  have hr := B.returns
  have hts := atoms_spec (ws := wsX10_undo) B.pre
  have hown : s.vm.findClass RX10 = some m.cls := findClass_of_methodNamed B.named
  have hlocks := B.notSynchronized
  subst hsz
  have hD := hD0.self (sz := s.heap.size)
  generalize hAe : va_A (ceX10_undo cyI cyB cyJ cyZ a0 a1 a2 a3 a4 b0_tape b0_kept b0_draftGround b0_draftLaw b0_grid b0_pack b0_pieces b0_thinning b1_ground b1_law b1_marks g0_imageKept g0_wrongByte g1_drawSeed g2_way g2_other g2_lead g2_underWay f3 f4 g2_man g2_dog g2_gone g2_greatest g2_remembered) s.heap.size = A at hD ⊢
  have hA : ∀ q : Nat, s.heap.size ≤ q → A q := fun q h => by rw [← hAe]; exact Or.inr h
  have hS : va_S A s.heap s.heap [] := va_S.rf
  have C0 : cxM p s m meth c _ wsX10_undo RX10 cX10_undo 1 (some .int) := ⟨hx, hb, hr, hml, hown, hts, hlocks⟩
  have hl := lv_entry ([.ref a0]) (n := 1) (Nat.le_of_ble_eq_true rfl)
  rw [lg_entry_eq]
  generalize (lg_sl ([.ref a0]) ++ List.replicate (1 - (lg_sl ([.ref a0])).length) Slot.unset).toArray = ls at hl ⊢
  have hl : lv_has ls 1 [(0, .ref a0)] := hl
  show W p l e rmX10_undo s m _ below meth c _ _ _ _ _ _
  refine wq (fun Q hQ => ?_)
  refine lv_aload_n hx hb dX10_undo_0 rfl (lv_at hl 0 rfl) ?_
  refine va_get (D := (dC, dI)) (ci := 10) (v := .ref a1) (C := RX10) (T := TX10) (N := 11) hx hb hts inX10_undo_X10 hown hK hP 0 rfl rfl 1 (by decide) (hts (.fieldLink RX10 19 "LeadPark" "scene" "LLeadPark$Scene;") (List.mem_of_getElem? (i := 1) rfl)) (fun _ h9 => h9) rfl dX10_undo_1 ?_
  refine va_getN (D := (dC, dI)) (ci := 6) (v := .ref a2) (C := RX6) (T := TX6) (N := 5) hx hb hts inX10_undo_X6 hown hK hP 1 rfl rfl 3 (by decide) (va_Nw.use rfl (hN _ (List.mem_of_getElem? (i := 32) rfl))) (fun _ h9 => h9) rfl dX10_undo_4 ?_
  have hPc := hP.sub (ws' := (ceX7_takeBack cyI cyB cyJ cyZ a2 a3 a4 g2_way g2_other g2_lead g2_underWay f3 f4 g2_man g2_dog g2_gone g2_greatest g2_remembered)) [2, 3, 4] rfl
  have hDc := hD.sub (ws' := (ceX7_takeBack cyI cyB cyJ cyZ a2 a3 a4 g2_way g2_other g2_lead g2_underWay f3 f4 g2_man g2_dog g2_gone g2_greatest g2_remembered)) [2, 3, 4] (by decide) rfl
  have hFc := va_free (wc := (ceX7_takeBack cyI cyB cyJ cyZ a2 a3 a4 g2_way g2_other g2_lead g2_underWay f3 f4 g2_man g2_dog g2_gone g2_greatest g2_remembered)) hD hS hA [2, 3, 4] rfl
  refine va_calli (va_runV (As := []) (rest := []) ⟨hx, hb, hml, hown, hts⟩ (ctX7_takeBack l dC dI cyI cyB cyJ cyZ _ a2 a3 a4 g2_way g2_other g2_lead g2_underWay f3 f4 g2_man g2_dog g2_gone g2_greatest g2_remembered _ hw) (cwV 0 hts gX10_undo_X7_takeBack rfl rfl rfl (by decide +kernel) ⟨Nat.le_of_ble_eq_true rfl, Nat.le_of_ble_eq_true rfl⟩) ⟨wPre_blind, va_recv hK hPc (ci := 7) (q0 := 0) rfl rfl, fun U hU hW => wPre_of hPc hK hDc hN hU hW⟩ rfl rfl hl.1 rfl (lv_room (Nat.le_of_ble_eq_true rfl)) dX10_undo_7 ⟨(Nat.zero_le _), (Nat.zero_le _)⟩) hS (fun q _ h => hFc q h) hFc (fun r2 u1 t H1 locs ht hvm hw hB hz1 hk1 hS => ?_)
  obtain ⟨hP1, hK1, hD1⟩ := hB
  rw [ht] at hP1
  obtain ⟨hP, hD⟩ := va_join (wr := pickW (ceX10_undo cyI cyB cyJ cyZ a0 a1 a2 a3 a4 b0_tape b0_kept b0_draftGround b0_draftLaw b0_grid b0_pack b0_pieces b0_thinning b1_ground b1_law b1_marks g0_imageKept g0_wrongByte g1_drawSeed g2_way g2_other g2_lead g2_underWay f3 f4 g2_man g2_dog g2_gone g2_greatest g2_remembered) [0, 1]) (w1 := (ceX7_takeBack cyI cyB cyJ cyZ a2 a3 a4 g2_way g2_other g2_lead g2_underWay f3 f4 u1.1 u1.2.1 u1.2.2.1 u1.2.2.2.1 u1.2.2.2.2)) hP hD [2, 3, 4] [0, 1] rfl rfl (by decide) (by decide) hk1 hFc hP1 hD1
  have hP := hP.sub (ws' := (ceX10_undo cyI cyB cyJ cyZ a0 a1 a2 a3 a4 b0_tape b0_kept b0_draftGround b0_draftLaw b0_grid b0_pack b0_pieces b0_thinning b1_ground b1_law b1_marks g0_imageKept g0_wrongByte g1_drawSeed g2_way g2_other g2_lead g2_underWay f3 f4 u1.1 u1.2.1 u1.2.2.1 u1.2.2.2.1 u1.2.2.2.2)) [0, 1, 2, 3, 4] rfl
  have hD := hD.sub (ws' := (ceX10_undo cyI cyB cyJ cyZ a0 a1 a2 a3 a4 b0_tape b0_kept b0_draftGround b0_draftLaw b0_grid b0_pack b0_pieces b0_thinning b1_ground b1_law b1_marks g0_imageKept g0_wrongByte g1_drawSeed g2_way g2_other g2_lead g2_underWay f3 f4 u1.1 u1.2.1 u1.2.2.1 u1.2.2.2.1 u1.2.2.2.2)) [0, 1, 2, 3, 4] (by decide) rfl
  generalize H1 = H at hP hS ⊢
  rw [hQ]
  exact W.iret (v := r2) hx hb hr (fun t ht hW => ⟨⟨r2, (u1.1, u1.2.1, u1.2.2.1, u1.2.2.2.1, u1.2.2.2.2), rfl, hw, by rw [ht]; exact hP, va_K.moved hW.alike hK, hD⟩, hS.F ht⟩) hS.2.2 dX10_undo_10
