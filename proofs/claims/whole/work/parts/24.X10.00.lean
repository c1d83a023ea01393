/-! LeadPark.feed (IIIII)I -/
abbrev ceX10_feed (cyI cyB cyJ cyZ : ClassId) (a0 a1 a2 b0_scene b0_kept b0_draftGround b0_draftLaw b0_grid b0_pack b0_pieces b0_thinning : Nat) (g0_imageKept : Int32) (g0_wrongByte : Int32) (g1_here : Int32) (g1_behind : Int32) (g1_digits : Int32) (g1_value : Int32) (g1_size : Int32) (f2 : Nat → Int32) : va_W := [(a0, .inr (10, [.ref a1, .ref b0_scene, .ref b0_kept, .ref b0_draftGround, .ref b0_draftLaw, .ref b0_grid, .ref b0_pack, .ref b0_pieces, .ref b0_thinning, .int g0_imageKept, .int g0_wrongByte])), (a1, .inr (8, [.ref a2, .int g1_size, .int g1_here, .int g1_behind, .int g1_digits, .int g1_value])), (a2, .inl (cyB, 400, .inl f2))]

theorem inX10_feed_X10 : ∀ w ∈ wsX100, w ∈ wsX10_feed := fun _ h => List.mem_cons_of_mem _ (List.mem_append_left _ (List.mem_append_right _ h))
theorem inX10_feed_X8 : ∀ w ∈ wsX80, w ∈ wsX10_feed := fun _ h => List.mem_cons_of_mem _ (List.mem_append_right _ h)
abbrev rmX10_feed : Room := { frames := 1, cells := 0, slots := 0, locals := 22 }
set_option maxRecDepth 100000 in
set_option maxHeartbeats 4000000 in
theorem ctX10_feed (l : Launch) (dC : Nat → ClassId) (dI : Nat → Nat → Nat) (cyI cyB cyJ cyZ : ClassId) (sz : Nat) (a0 a1 a2 b0_scene b0_kept b0_draftGround b0_draftLaw b0_grid b0_pack b0_pieces b0_thinning : Nat) (g0_imageKept : Int32) (g0_wrongByte : Int32) (g1_here : Int32) (g1_behind : Int32) (g1_digits : Int32) (g1_value : Int32) (g1_size : Int32) (f2 : Nat → Int32) (p0 : Int32) (p1 : Int32) (p2 : Int32) (p3 : Int32) (p4 : Int32) (post : Int32 → (Int32 × (Nat → Int32)) → Prop) (hw : wpX10_feed post g1_size f2 p0 p1 p2 p3 p4) : Met l yX10_feed wsX10_feed rmX10_feed (va_Pc [.ref a0, .int p0, .int p1, .int p2, .int p3, .int p4] (wPre dC dI cyI cyB cyJ cyZ sz (ceX10_feed cyI cyB cyJ cyZ a0 a1 a2 b0_scene b0_kept b0_draftGround b0_draftLaw b0_grid b0_pack b0_pieces b0_thinning g0_imageKept g0_wrongByte g1_here g1_behind g1_digits g1_value g1_size f2))) (va_Qi post (fun u : Int32 × (Nat → Int32) => wAt dC dI cyI cyB cyJ cyZ (va_A (ceX10_feed cyI cyB cyJ cyZ a0 a1 a2 b0_scene b0_kept b0_draftGround b0_draftLaw b0_grid b0_pack b0_pieces b0_thinning g0_imageKept g0_wrongByte g1_here g1_behind g1_digits g1_value g1_size f2) sz) (ceX10_feed cyI cyB cyJ cyZ a0 a1 a2 b0_scene b0_kept b0_draftGround b0_draftLaw b0_grid b0_pack b0_pieces b0_thinning g0_imageKept g0_wrongByte g1_here g1_behind g1_digits g1_value u.1 u.2)) (va_A (ceX10_feed cyI cyB cyJ cyZ a0 a1 a2 b0_scene b0_kept b0_draftGround b0_draftLaw b0_grid b0_pack b0_pieces b0_thinning g0_imageKept g0_wrongByte g1_here g1_behind g1_digits g1_value g1_size f2) sz)) 0 0 (va_A (ceX10_feed cyI cyB cyJ cyZ a0 a1 a2 b0_scene b0_kept b0_draftGround b0_draftLaw b0_grid b0_pack b0_pieces b0_thinning g0_imageKept g0_wrongByte g1_here g1_behind g1_digits g1_value g1_size f2) sz) := by
  refine Met.ofW (cc := cX10_feed) (maxL := 6) (ret := (some .int)) (by decide) rfl ?_
  intro p e s m args below meth c s₁ B hml hv
  obtain ⟨rfl, hsz, hP, hK, hD0, hN⟩ := hv
  have hx := B.exec
  have hb := B.bytes
  have hr := B.returns
  have hts := atoms_spec (ws := wsX10_feed) B.pre
  have hown : s.vm.findClass RX10 = some m.cls := findClass_of_methodNamed B.named
  have hlocks := B.notSynchronized
  subst hsz
  have hD := hD0.self (sz := s.heap.size)
  generalize hAe : va_A (ceX10_feed cyI cyB cyJ cyZ a0 a1 a2 b0_scene b0_kept b0_draftGround b0_draftLaw b0_grid b0_pack b0_pieces b0_thinning g0_imageKept g0_wrongByte g1_here g1_behind g1_digits g1_value g1_size f2) s.heap.size = A at hD ⊢
  have hA : ∀ q : Nat, s.heap.size ≤ q → A q := fun q h => by rw [← hAe]; exact Or.inr h
  have hS : va_S A s.heap s.heap [] := va_S.rf
  have C0 : cxM p s m meth c _ wsX10_feed RX10 cX10_feed 6 (some .int) := ⟨hx, hb, hr, hml, hown, hts, hlocks⟩
  have hl := lv_entry ([.ref a0, .int p0, .int p1, .int p2, .int p3, .int p4]) (n := 6) (Nat.le_of_ble_eq_true rfl)
  rw [lg_entry_eq]
  generalize (lg_sl ([.ref a0, .int p0, .int p1, .int p2, .int p3, .int p4]) ++ List.replicate (6 - (lg_sl ([.ref a0, .int p0, .int p1, .int p2, .int p3, .int p4])).length) Slot.unset).toArray = ls at hl ⊢
  have hl : lv_has ls 6 [(0, .ref a0), (1, .int p0), (2, .int p1), (3, .int p2), (4, .int p3), (5, .int p4)] := hl
  show W p l e rmX10_feed s m _ below meth c _ _ _ _ _ _
  refine wq (fun Q hQ => ?_)
  refine lv_aload_n hx hb dX10_feed_0 rfl (lv_at hl 0 rfl) ?_
  refine va_get (D := (dC, dI)) (ci := 10) (v := .ref a1) (C := RX10) (T := TX10) (N := 11) hx hb hts inX10_feed_X10 hown hK hP 0 rfl rfl 0 (by decide) (hts (.fieldLink RX10 12 "LeadPark" "tape" "LLeadPark$Tape;") (List.mem_of_getElem? (i := 1) rfl)) (fun _ h9 => h9) rfl dX10_feed_1 ?_
  refine lv_bipush (v := 20) hx hb dX10_feed_4 (by decide) ?_
  have hPc := hP.sub (ws' := (ceX8_hasRoomFor cyI cyB cyJ cyZ a1 a2 g1_here g1_behind g1_digits g1_value g1_size)) [1] rfl
  have hDc := hD.sub (ws' := (ceX8_hasRoomFor cyI cyB cyJ cyZ a1 a2 g1_here g1_behind g1_digits g1_value g1_size)) [1] (by decide) rfl
  have hFc := va_free (wc := (ceX8_hasRoomFor cyI cyB cyJ cyZ a1 a2 g1_here g1_behind g1_digits g1_value g1_size)) hD hS hA [1] rfl
  refine va_calli (va_runV (As := [.int 20]) (rest := []) ⟨hx, hb, hml, hown, hts⟩ (ctX8_hasRoomFor l dC dI cyI cyB cyJ cyZ _ a1 a2 g1_here g1_behind g1_digits g1_value g1_size 20 _ hw) (cwV 1 hts gX10_feed_X8_hasRoomFor rfl rfl rfl (by decide +kernel) ⟨Nat.le_of_ble_eq_true rfl, Nat.le_of_ble_eq_true rfl⟩) ⟨wPre_blind, va_recv hK hPc (ci := 8) (q0 := 0) rfl rfl, fun U hU hW => wPre_of hPc hK hDc hN hU hW⟩ rfl rfl hl.1 rfl (lv_room (Nat.le_of_ble_eq_true rfl)) dX10_feed_6 ⟨(Nat.zero_le _), (Nat.zero_le _)⟩) hS (fun q _ h => hFc q h) hFc (fun r2 u1 t H1 locs ht hvm hw hB hz1 hk1 hS => ?_)
  obtain ⟨hP1, hK1, hD1⟩ := hB
  rw [ht] at hP1
  obtain ⟨hP, hD⟩ := va_join (wr := pickW (ceX10_feed cyI cyB cyJ cyZ a0 a1 a2 b0_scene b0_kept b0_draftGround b0_draftLaw b0_grid b0_pack b0_pieces b0_thinning g0_imageKept g0_wrongByte g1_here g1_behind g1_digits g1_value g1_size f2) [0, 2]) (w1 := (ceX8_hasRoomFor cyI cyB cyJ cyZ a1 a2 g1_here g1_behind g1_digits g1_value g1_size)) hP hD [1] [0, 2] rfl rfl (by decide) (by decide) hk1 hFc hP1 hD1
  have hP := hP.sub (ws' := (ceX10_feed cyI cyB cyJ cyZ a0 a1 a2 b0_scene b0_kept b0_draftGround b0_draftLaw b0_grid b0_pack b0_pieces b0_thinning g0_imageKept g0_wrongByte g1_here g1_behind g1_digits g1_value g1_size f2)) [0, 2, 1] rfl
  have hD := hD.sub (ws' := (ceX10_feed cyI cyB cyJ cyZ a0 a1 a2 b0_scene b0_kept b0_draftGround b0_draftLaw b0_grid b0_pack b0_pieces b0_thinning g0_imageKept g0_wrongByte g1_here g1_behind g1_digits g1_value g1_size f2)) [0, 2, 1] (by decide) rfl
  generalize H1 = H at hP hS ⊢
  refine lv_if_ne (tgt := 14) hx hb dX10_feed_9 (by decide) (fun hc => ?_) (fun hc => ?_)
  · have hw := hw.1 hc
    refine lv_aload_n hx hb dX10_feed_14 rfl (lv_at hl 0 rfl) ?_
    refine va_get (D := (dC, dI)) (ci := 10) (v := .ref a1) (C := RX10) (T := TX10) (N := 11) hx hb hts inX10_feed_X10 hown hK hP 0 rfl rfl 0 (by decide) (hts (.fieldLink RX10 12 "LeadPark" "tape" "LLeadPark$Tape;") (List.mem_of_getElem? (i := 1) rfl)) (fun _ h9 => h9) rfl dX10_feed_15 ?_
    refine lv_iload_n hx hb dX10_feed_18 rfl (lv_at hl 1 rfl) ?_
    have hPc := hP.sub (ws' := (ceX8_append cyI cyB cyJ cyZ a1 a2 g1_here g1_behind g1_digits g1_value g1_size f2)) [1, 2] rfl
    have hDc := hD.sub (ws' := (ceX8_append cyI cyB cyJ cyZ a1 a2 g1_here g1_behind g1_digits g1_value g1_size f2)) [1, 2] (by decide) rfl
    have hFc := va_free (wc := (ceX8_append cyI cyB cyJ cyZ a1 a2 g1_here g1_behind g1_digits g1_value g1_size f2)) hD hS hA [1, 2] rfl
    refine va_callv (va_runV (As := [.int p0]) (rest := []) ⟨hx, hb, hml, hown, hts⟩ (ctX8_append l dC dI cyI cyB cyJ cyZ _ a1 a2 g1_here g1_behind g1_digits g1_value g1_size f2 p0 _ hw) (cwV 1 hts gX10_feed_X8_append rfl rfl rfl (by decide +kernel) ⟨Nat.le_of_ble_eq_true rfl, Nat.le_of_ble_eq_true rfl⟩) ⟨wPre_blind, va_recv hK hPc (ci := 8) (q0 := 0) rfl rfl, fun U hU hW => wPre_of hPc hK hDc hN hU hW⟩ rfl rfl hl.1 rfl (lv_room (Nat.le_of_ble_eq_true rfl)) dX10_feed_19 ⟨(Nat.zero_le _), (Nat.zero_le _)⟩) hS (fun q _ h => hFc q h) hFc (fun u3 t H1 locs ht hvm hw hB hz1 hk1 hS => ?_)
    obtain ⟨hP1, hK1, hD1⟩ := hB
    rw [ht] at hP1
    obtain ⟨hP, hD⟩ := va_join (wr := pickW (ceX10_feed cyI cyB cyJ cyZ a0 a1 a2 b0_scene b0_kept b0_draftGround b0_draftLaw b0_grid b0_pack b0_pieces b0_thinning g0_imageKept g0_wrongByte g1_here g1_behind g1_digits g1_value g1_size f2) [0]) (w1 := (ceX8_append cyI cyB cyJ cyZ a1 a2 g1_here g1_behind g1_digits g1_value u3.1 u3.2)) hP hD [1, 2] [0] rfl rfl (by decide) (by decide) hk1 hFc hP1 hD1
    have hP := hP.sub (ws' := (ceX10_feed cyI cyB cyJ cyZ a0 a1 a2 b0_scene b0_kept b0_draftGround b0_draftLaw b0_grid b0_pack b0_pieces b0_thinning g0_imageKept g0_wrongByte g1_here g1_behind g1_digits g1_value u3.1 u3.2)) [0, 1, 2] rfl
    have hD := hD.sub (ws' := (ceX10_feed cyI cyB cyJ cyZ a0 a1 a2 b0_scene b0_kept b0_draftGround b0_draftLaw b0_grid b0_pack b0_pieces b0_thinning g0_imageKept g0_wrongByte g1_here g1_behind g1_digits g1_value u3.1 u3.2)) [0, 1, 2] (by decide) rfl
    generalize H1 = H at hP hS ⊢
    refine lv_aload_n hx hb dX10_feed_22 rfl (lv_at hl 0 rfl) ?_
    refine va_get (D := (dC, dI)) (ci := 10) (v := .ref a1) (C := RX10) (T := TX10) (N := 11) hx hb hts inX10_feed_X10 hown hK hP 0 rfl rfl 0 (by decide) (hts (.fieldLink RX10 12 "LeadPark" "tape" "LLeadPark$Tape;") (List.mem_of_getElem? (i := 1) rfl)) (fun _ h9 => h9) rfl dX10_feed_23 ?_
    refine lv_iload_n hx hb dX10_feed_26 rfl (lv_at hl 2 rfl) ?_
    have hPc := hP.sub (ws' := (ceX8_append cyI cyB cyJ cyZ a1 a2 g1_here g1_behind g1_digits g1_value u3.1 u3.2)) [1, 2] rfl
    have hDc := hD.sub (ws' := (ceX8_append cyI cyB cyJ cyZ a1 a2 g1_here g1_behind g1_digits g1_value u3.1 u3.2)) [1, 2] (by decide) rfl
    have hFc := va_free (wc := (ceX8_append cyI cyB cyJ cyZ a1 a2 g1_here g1_behind g1_digits g1_value u3.1 u3.2)) hD hS hA [1, 2] rfl
    refine va_callv (va_runV (As := [.int p1]) (rest := []) ⟨hx, hb, hml, hown, hts⟩ (ctX8_append l dC dI cyI cyB cyJ cyZ _ a1 a2 g1_here g1_behind g1_digits g1_value u3.1 u3.2 p1 _ hw) (cwV 1 hts gX10_feed_X8_append rfl rfl rfl (by decide +kernel) ⟨Nat.le_of_ble_eq_true rfl, Nat.le_of_ble_eq_true rfl⟩) ⟨wPre_blind, va_recv hK hPc (ci := 8) (q0 := 0) rfl rfl, fun U hU hW => wPre_of hPc hK hDc hN hU hW⟩ rfl rfl hl.1 rfl (lv_room (Nat.le_of_ble_eq_true rfl)) dX10_feed_27 ⟨(Nat.zero_le _), (Nat.zero_le _)⟩) hS (fun q _ h => hFc q h) hFc (fun u4 t H1 locs ht hvm hw hB hz1 hk1 hS => ?_)
    obtain ⟨hP1, hK1, hD1⟩ := hB
    rw [ht] at hP1
    obtain ⟨hP, hD⟩ := va_join (wr := pickW (ceX10_feed cyI cyB cyJ cyZ a0 a1 a2 b0_scene b0_kept b0_draftGround b0_draftLaw b0_grid b0_pack b0_pieces b0_thinning g0_imageKept g0_wrongByte g1_here g1_behind g1_digits g1_value u3.1 u3.2) [0]) (w1 := (ceX8_append cyI cyB cyJ cyZ a1 a2 g1_here g1_behind g1_digits g1_value u4.1 u4.2)) hP hD [1, 2] [0] rfl rfl (by decide) (by decide) hk1 hFc hP1 hD1
    have hP := hP.sub (ws' := (ceX10_feed cyI cyB cyJ cyZ a0 a1 a2 b0_scene b0_kept b0_draftGround b0_draftLaw b0_grid b0_pack b0_pieces b0_thinning g0_imageKept g0_wrongByte g1_here g1_behind g1_digits g1_value u4.1 u4.2)) [0, 1, 2] rfl
    have hD := hD.sub (ws' := (ceX10_feed cyI cyB cyJ cyZ a0 a1 a2 b0_scene b0_kept b0_draftGround b0_draftLaw b0_grid b0_pack b0_pieces b0_thinning g0_imageKept g0_wrongByte g1_here g1_behind g1_digits g1_value u4.1 u4.2)) [0, 1, 2] (by decide) rfl
    generalize H1 = H at hP hS ⊢
    refine lv_aload_n hx hb dX10_feed_30 rfl (lv_at hl 0 rfl) ?_
    refine va_get (D := (dC, dI)) (ci := 10) (v := .ref a1) (C := RX10) (T := TX10) (N := 11) hx hb hts inX10_feed_X10 hown hK hP 0 rfl rfl 0 (by decide) (hts (.fieldLink RX10 12 "LeadPark" "tape" "LLeadPark$Tape;") (List.mem_of_getElem? (i := 1) rfl)) (fun _ h9 => h9) rfl dX10_feed_31 ?_
    refine lv_iload_n hx hb dX10_feed_34 rfl (lv_at hl 3 rfl) ?_
    have hPc := hP.sub (ws' := (ceX8_append cyI cyB cyJ cyZ a1 a2 g1_here g1_behind g1_digits g1_value u4.1 u4.2)) [1, 2] rfl
    have hDc := hD.sub (ws' := (ceX8_append cyI cyB cyJ cyZ a1 a2 g1_here g1_behind g1_digits g1_value u4.1 u4.2)) [1, 2] (by decide) rfl
    have hFc := va_free (wc := (ceX8_append cyI cyB cyJ cyZ a1 a2 g1_here g1_behind g1_digits g1_value u4.1 u4.2)) hD hS hA [1, 2] rfl
    refine va_callv (va_runV (As := [.int p2]) (rest := []) ⟨hx, hb, hml, hown, hts⟩ (ctX8_append l dC dI cyI cyB cyJ cyZ _ a1 a2 g1_here g1_behind g1_digits g1_value u4.1 u4.2 p2 _ hw) (cwV 1 hts gX10_feed_X8_append rfl rfl rfl (by decide +kernel) ⟨Nat.le_of_ble_eq_true rfl, Nat.le_of_ble_eq_true rfl⟩) ⟨wPre_blind, va_recv hK hPc (ci := 8) (q0 := 0) rfl rfl, fun U hU hW => wPre_of hPc hK hDc hN hU hW⟩ rfl rfl hl.1 rfl (lv_room (Nat.le_of_ble_eq_true rfl)) dX10_feed_35 ⟨(Nat.zero_le _), (Nat.zero_le _)⟩) hS (fun q _ h => hFc q h) hFc (fun u5 t H1 locs ht hvm hw hB hz1 hk1 hS => ?_)
    obtain ⟨hP1, hK1, hD1⟩ := hB
    rw [ht] at hP1
    obtain ⟨hP, hD⟩ := va_join (wr := pickW (ceX10_feed cyI cyB cyJ cyZ a0 a1 a2 b0_scene b0_kept b0_draftGround b0_draftLaw b0_grid b0_pack b0_pieces b0_thinning g0_imageKept g0_wrongByte g1_here g1_behind g1_digits g1_value u4.1 u4.2) [0]) (w1 := (ceX8_append cyI cyB cyJ cyZ a1 a2 g1_here g1_behind g1_digits g1_value u5.1 u5.2)) hP hD [1, 2] [0] rfl rfl (by decide) (by decide) hk1 hFc hP1 hD1
    have hP := hP.sub (ws' := (ceX10_feed cyI cyB cyJ cyZ a0 a1 a2 b0_scene b0_kept b0_draftGround b0_draftLaw b0_grid b0_pack b0_pieces b0_thinning g0_imageKept g0_wrongByte g1_here g1_behind g1_digits g1_value u5.1 u5.2)) [0, 1, 2] rfl
    have hD := hD.sub (ws' := (ceX10_feed cyI cyB cyJ cyZ a0 a1 a2 b0_scene b0_kept b0_draftGround b0_draftLaw b0_grid b0_pack b0_pieces b0_thinning g0_imageKept g0_wrongByte g1_here g1_behind g1_digits g1_value u5.1 u5.2)) [0, 1, 2] (by decide) rfl
    generalize H1 = H at hP hS ⊢
    refine lv_aload_n hx hb dX10_feed_38 rfl (lv_at hl 0 rfl) ?_
    refine va_get (D := (dC, dI)) (ci := 10) (v := .ref a1) (C := RX10) (T := TX10) (N := 11) hx hb hts inX10_feed_X10 hown hK hP 0 rfl rfl 0 (by decide) (hts (.fieldLink RX10 12 "LeadPark" "tape" "LLeadPark$Tape;") (List.mem_of_getElem? (i := 1) rfl)) (fun _ h9 => h9) rfl dX10_feed_39 ?_
    refine lv_iload hx hb dX10_feed_42 (lv_at hl 4 rfl) ?_
    have hPc := hP.sub (ws' := (ceX8_append cyI cyB cyJ cyZ a1 a2 g1_here g1_behind g1_digits g1_value u5.1 u5.2)) [1, 2] rfl
    have hDc := hD.sub (ws' := (ceX8_append cyI cyB cyJ cyZ a1 a2 g1_here g1_behind g1_digits g1_value u5.1 u5.2)) [1, 2] (by decide) rfl
    have hFc := va_free (wc := (ceX8_append cyI cyB cyJ cyZ a1 a2 g1_here g1_behind g1_digits g1_value u5.1 u5.2)) hD hS hA [1, 2] rfl
    refine va_callv (va_runV (As := [.int p3]) (rest := []) ⟨hx, hb, hml, hown, hts⟩ (ctX8_append l dC dI cyI cyB cyJ cyZ _ a1 a2 g1_here g1_behind g1_digits g1_value u5.1 u5.2 p3 _ hw) (cwV 1 hts gX10_feed_X8_append rfl rfl rfl (by decide +kernel) ⟨Nat.le_of_ble_eq_true rfl, Nat.le_of_ble_eq_true rfl⟩) ⟨wPre_blind, va_recv hK hPc (ci := 8) (q0 := 0) rfl rfl, fun U hU hW => wPre_of hPc hK hDc hN hU hW⟩ rfl rfl hl.1 rfl (lv_room (Nat.le_of_ble_eq_true rfl)) dX10_feed_44 ⟨(Nat.zero_le _), (Nat.zero_le _)⟩) hS (fun q _ h => hFc q h) hFc (fun u6 t H1 locs ht hvm hw hB hz1 hk1 hS => ?_)
    obtain ⟨hP1, hK1, hD1⟩ := hB
    rw [ht] at hP1
    obtain ⟨hP, hD⟩ := va_join (wr := pickW (ceX10_feed cyI cyB cyJ cyZ a0 a1 a2 b0_scene b0_kept b0_draftGround b0_draftLaw b0_grid b0_pack b0_pieces b0_thinning g0_imageKept g0_wrongByte g1_here g1_behind g1_digits g1_value u5.1 u5.2) [0]) (w1 := (ceX8_append cyI cyB cyJ cyZ a1 a2 g1_here g1_behind g1_digits g1_value u6.1 u6.2)) hP hD [1, 2] [0] rfl rfl (by decide) (by decide) hk1 hFc hP1 hD1
    have hP := hP.sub (ws' := (ceX10_feed cyI cyB cyJ cyZ a0 a1 a2 b0_scene b0_kept b0_draftGround b0_draftLaw b0_grid b0_pack b0_pieces b0_thinning g0_imageKept g0_wrongByte g1_here g1_behind g1_digits g1_value u6.1 u6.2)) [0, 1, 2] rfl
    have hD := hD.sub (ws' := (ceX10_feed cyI cyB cyJ cyZ a0 a1 a2 b0_scene b0_kept b0_draftGround b0_draftLaw b0_grid b0_pack b0_pieces b0_thinning g0_imageKept g0_wrongByte g1_here g1_behind g1_digits g1_value u6.1 u6.2)) [0, 1, 2] (by decide) rfl
    generalize H1 = H at hP hS ⊢
    refine lv_aload_n hx hb dX10_feed_47 rfl (lv_at hl 0 rfl) ?_
    refine va_get (D := (dC, dI)) (ci := 10) (v := .ref a1) (C := RX10) (T := TX10) (N := 11) hx hb hts inX10_feed_X10 hown hK hP 0 rfl rfl 0 (by decide) (hts (.fieldLink RX10 12 "LeadPark" "tape" "LLeadPark$Tape;") (List.mem_of_getElem? (i := 1) rfl)) (fun _ h9 => h9) rfl dX10_feed_48 ?_
    refine lv_iload hx hb dX10_feed_51 (lv_at hl 5 rfl) ?_
    have hPc := hP.sub (ws' := (ceX8_append cyI cyB cyJ cyZ a1 a2 g1_here g1_behind g1_digits g1_value u6.1 u6.2)) [1, 2] rfl
    have hDc := hD.sub (ws' := (ceX8_append cyI cyB cyJ cyZ a1 a2 g1_here g1_behind g1_digits g1_value u6.1 u6.2)) [1, 2] (by decide) rfl
    have hFc := va_free (wc := (ceX8_append cyI cyB cyJ cyZ a1 a2 g1_here g1_behind g1_digits g1_value u6.1 u6.2)) hD hS hA [1, 2] rfl
    refine va_callv (va_runV (As := [.int p4]) (rest := []) ⟨hx, hb, hml, hown, hts⟩ (ctX8_append l dC dI cyI cyB cyJ cyZ _ a1 a2 g1_here g1_behind g1_digits g1_value u6.1 u6.2 p4 _ hw) (cwV 1 hts gX10_feed_X8_append rfl rfl rfl (by decide +kernel) ⟨Nat.le_of_ble_eq_true rfl, Nat.le_of_ble_eq_true rfl⟩) ⟨wPre_blind, va_recv hK hPc (ci := 8) (q0 := 0) rfl rfl, fun U hU hW => wPre_of hPc hK hDc hN hU hW⟩ rfl rfl hl.1 rfl (lv_room (Nat.le_of_ble_eq_true rfl)) dX10_feed_53 ⟨(Nat.zero_le _), (Nat.zero_le _)⟩) hS (fun q _ h => hFc q h) hFc (fun u7 t H1 locs ht hvm hw hB hz1 hk1 hS => ?_)
    obtain ⟨hP1, hK1, hD1⟩ := hB
    rw [ht] at hP1
    obtain ⟨hP, hD⟩ := va_join (wr := pickW (ceX10_feed cyI cyB cyJ cyZ a0 a1 a2 b0_scene b0_kept b0_draftGround b0_draftLaw b0_grid b0_pack b0_pieces b0_thinning g0_imageKept g0_wrongByte g1_here g1_behind g1_digits g1_value u6.1 u6.2) [0]) (w1 := (ceX8_append cyI cyB cyJ cyZ a1 a2 g1_here g1_behind g1_digits g1_value u7.1 u7.2)) hP hD [1, 2] [0] rfl rfl (by decide) (by decide) hk1 hFc hP1 hD1
    have hP := hP.sub (ws' := (ceX10_feed cyI cyB cyJ cyZ a0 a1 a2 b0_scene b0_kept b0_draftGround b0_draftLaw b0_grid b0_pack b0_pieces b0_thinning g0_imageKept g0_wrongByte g1_here g1_behind g1_digits g1_value u7.1 u7.2)) [0, 1, 2] rfl
    have hD := hD.sub (ws' := (ceX10_feed cyI cyB cyJ cyZ a0 a1 a2 b0_scene b0_kept b0_draftGround b0_draftLaw b0_grid b0_pack b0_pieces b0_thinning g0_imageKept g0_wrongByte g1_here g1_behind g1_digits g1_value u7.1 u7.2)) [0, 1, 2] (by decide) rfl
    generalize H1 = H at hP hS ⊢
    refine lv_aload_n hx hb dX10_feed_56 rfl (lv_at hl 0 rfl) ?_
    refine va_get (D := (dC, dI)) (ci := 10) (v := .ref a1) (C := RX10) (T := TX10) (N := 11) hx hb hts inX10_feed_X10 hown hK hP 0 rfl rfl 0 (by decide) (hts (.fieldLink RX10 12 "LeadPark" "tape" "LLeadPark$Tape;") (List.mem_of_getElem? (i := 1) rfl)) (fun _ h9 => h9) rfl dX10_feed_57 ?_
    refine va_getN (D := (dC, dI)) (ci := 8) (v := .int u7.1) (C := RX8) (T := TX8) (N := 6) hx hb hts inX10_feed_X8 hown hK hP 1 rfl rfl 1 (by decide) (va_Nw.use rfl (hN _ (List.mem_of_getElem? (i := 0) rfl))) (fun _ h9 => h9) rfl dX10_feed_60 ?_
    rw [hQ]
    exact W.iret (v := u7.1) hx hb hr (fun t ht hW => ⟨⟨u7.1, (u7.1, u7.2), rfl, hw, by rw [ht]; exact hP, va_K.moved hW.alike hK, hD⟩, hS.F ht⟩) hS.2.2 dX10_feed_63
  · have hw := hw.2 hc
    refine lv_iconst (v := (-1)) hx hb dX10_feed_12 (by decide) ?_
    rw [hQ]
    exact W.iret (v := (-1)) hx hb hr (fun t ht hW => ⟨⟨(-1), (g1_size, f2), rfl, hw, by rw [ht]; exact hP, va_K.moved hW.alike hK, hD⟩, hS.F ht⟩) hS.2.2 dX10_feed_13
/-! LeadPark.end (I)Z -/
abbrev ceX10_end (cyI cyB cyJ cyZ : ClassId) (a0 a1 b0_scene b0_kept b0_draftGround b0_draftLaw b0_grid b0_pack b0_pieces b0_thinning b1_bytes : Nat) (g0_imageKept : Int32) (g0_wrongByte : Int32) (g1_here : Int32) (g1_behind : Int32) (g1_digits : Int32) (g1_value : Int32) (g1_size : Int32) : va_W := [(a0, .inr (10, [.ref a1, .ref b0_scene, .ref b0_kept, .ref b0_draftGround, .ref b0_draftLaw, .ref b0_grid, .ref b0_pack, .ref b0_pieces, .ref b0_thinning, .int g0_imageKept, .int g0_wrongByte])), (a1, .inr (8, [.ref b1_bytes, .int g1_size, .int g1_here, .int g1_behind, .int g1_digits, .int g1_value]))]

theorem inX10_end_X10 : ∀ w ∈ wsX100, w ∈ wsX10_end := fun _ h => List.mem_cons_of_mem _ (List.mem_append_left _ (List.mem_append_right _ h))
theorem inX10_end_X8 : ∀ w ∈ wsX80, w ∈ wsX10_end := fun _ h => List.mem_cons_of_mem _ (List.mem_append_right _ h)
abbrev rmX10_end : Room := { frames := 0, cells := 0, slots := 0, locals := 0 }
set_option maxRecDepth 100000 in
set_option maxHeartbeats 4000000 in
theorem ctX10_end (l : Launch) (dC : Nat → ClassId) (dI : Nat → Nat → Nat) (cyI cyB cyJ cyZ : ClassId) (sz : Nat) (a0 a1 b0_scene b0_kept b0_draftGround b0_draftLaw b0_grid b0_pack b0_pieces b0_thinning b1_bytes : Nat) (g0_imageKept : Int32) (g0_wrongByte : Int32) (g1_here : Int32) (g1_behind : Int32) (g1_digits : Int32) (g1_value : Int32) (g1_size : Int32) (p0 : Int32) (post : Int32 → Int32 → Prop) (hw : wpX10_end post g1_size p0) : Met l yX10_end wsX10_end rmX10_end (va_Pc [.ref a0, .int p0] (wPre dC dI cyI cyB cyJ cyZ sz (ceX10_end cyI cyB cyJ cyZ a0 a1 b0_scene b0_kept b0_draftGround b0_draftLaw b0_grid b0_pack b0_pieces b0_thinning b1_bytes g0_imageKept g0_wrongByte g1_here g1_behind g1_digits g1_value g1_size))) (va_Qi post (fun u : Int32 => wAt dC dI cyI cyB cyJ cyZ (va_A (ceX10_end cyI cyB cyJ cyZ a0 a1 b0_scene b0_kept b0_draftGround b0_draftLaw b0_grid b0_pack b0_pieces b0_thinning b1_bytes g0_imageKept g0_wrongByte g1_here g1_behind g1_digits g1_value g1_size) sz) (ceX10_end cyI cyB cyJ cyZ a0 a1 b0_scene b0_kept b0_draftGround b0_draftLaw b0_grid b0_pack b0_pieces b0_thinning b1_bytes g0_imageKept g0_wrongByte g1_here g1_behind g1_digits g1_value u)) (va_A (ceX10_end cyI cyB cyJ cyZ a0 a1 b0_scene b0_kept b0_draftGround b0_draftLaw b0_grid b0_pack b0_pieces b0_thinning b1_bytes g0_imageKept g0_wrongByte g1_here g1_behind g1_digits g1_value g1_size) sz)) 0 0 (va_A (ceX10_end cyI cyB cyJ cyZ a0 a1 b0_scene b0_kept b0_draftGround b0_draftLaw b0_grid b0_pack b0_pieces b0_thinning b1_bytes g0_imageKept g0_wrongByte g1_here g1_behind g1_digits g1_value g1_size) sz) := by
  refine Met.ofW (cc := cX10_end) (maxL := 2) (ret := (some .boolean)) (by decide) rfl ?_
  intro p e s m args below meth c s₁ B hml hv
  obtain ⟨rfl, hsz, hP, hK, hD0, hN⟩ := hv
  have hx := B.exec
  have hb := B.bytes
  have hr := B.returns
  have hts := atoms_spec (ws := wsX10_end) B.pre
  have hown : s.vm.findClass RX10 = some m.cls := findClass_of_methodNamed B.named
  have hlocks := B.notSynchronized
  subst hsz
  have hD := hD0.self (sz := s.heap.size)
  generalize hAe : va_A (ceX10_end cyI cyB cyJ cyZ a0 a1 b0_scene b0_kept b0_draftGround b0_draftLaw b0_grid b0_pack b0_pieces b0_thinning b1_bytes g0_imageKept g0_wrongByte g1_here g1_behind g1_digits g1_value g1_size) s.heap.size = A at hD ⊢
  have hA : ∀ q : Nat, s.heap.size ≤ q → A q := fun q h => by rw [← hAe]; exact Or.inr h
  have hS : va_S A s.heap s.heap [] := va_S.rf
  have C0 : cxM p s m meth c _ wsX10_end RX10 cX10_end 2 (some .boolean) := ⟨hx, hb, hr, hml, hown, hts, hlocks⟩
  have hl := lv_entry ([.ref a0, .int p0]) (n := 2) (Nat.le_of_ble_eq_true rfl)
  rw [lg_entry_eq]
  generalize (lg_sl ([.ref a0, .int p0]) ++ List.replicate (2 - (lg_sl ([.ref a0, .int p0])).length) Slot.unset).toArray = ls at hl ⊢
  have hl : lv_has ls 2 [(0, .ref a0), (1, .int p0)] := hl
  show W p l e rmX10_end s m _ below meth c _ _ _ _ _ _
  refine wq (fun Q hQ => ?_)
  refine lv_iload_n hx hb dX10_end_0 rfl (lv_at hl 1 rfl) ?_
  refine lv_if_lt (tgt := 15) hx hb dX10_end_1 (by decide) (fun hc => ?_) (fun hc => ?_)
  · have hw := hw.1 hc
    refine lv_iconst (v := 0) hx hb dX10_end_15 (by decide) ?_
    rw [hQ]
    exact W.zret (v := 0) (ty := .boolean) hx hb hr rfl (fun t ht hW => ⟨⟨0, (g1_size), rfl, hw, by rw [ht]; exact hP, va_K.moved hW.alike hK, hD⟩, hS.F ht⟩) hS.2.2 dX10_end_16
  · have hw := hw.2 hc
    refine lv_iload_n hx hb dX10_end_4 rfl (lv_at hl 1 rfl) ?_
    refine lv_aload_n hx hb dX10_end_5 rfl (lv_at hl 0 rfl) ?_
    refine va_get (D := (dC, dI)) (ci := 10) (v := .ref a1) (C := RX10) (T := TX10) (N := 11) hx hb hts inX10_end_X10 hown hK hP 0 rfl rfl 0 (by decide) (hts (.fieldLink RX10 12 "LeadPark" "tape" "LLeadPark$Tape;") (List.mem_of_getElem? (i := 1) rfl)) (fun _ h9 => h9) rfl dX10_end_6 ?_
    refine va_getN (D := (dC, dI)) (ci := 8) (v := .int g1_size) (C := RX8) (T := TX8) (N := 6) hx hb hts inX10_end_X8 hown hK hP 1 rfl rfl 1 (by decide) (va_Nw.use rfl (hN _ (List.mem_of_getElem? (i := 0) rfl))) (fun _ h9 => h9) rfl dX10_end_9 ?_
    refine lv_icmp_le (tgt := 17) hx hb dX10_end_12 (by decide) (fun hc => ?_) (fun hc => ?_)
    · have hw := hw.1 hc
      refine lv_aload_n hx hb dX10_end_17 rfl (lv_at hl 0 rfl) ?_
      refine va_get (D := (dC, dI)) (ci := 10) (v := .ref a1) (C := RX10) (T := TX10) (N := 11) hx hb hts inX10_end_X10 hown hK hP 0 rfl rfl 0 (by decide) (hts (.fieldLink RX10 12 "LeadPark" "tape" "LLeadPark$Tape;") (List.mem_of_getElem? (i := 1) rfl)) (fun _ h9 => h9) rfl dX10_end_18 ?_
      refine lv_iload_n hx hb dX10_end_21 rfl (lv_at hl 1 rfl) ?_
      refine va_putN (D := (dC, dI)) (ci := 8) (v := .int p0) (ty := .int) (C := RX8) (T := TX8) (N := 6) hx hb hts inX10_end_X8 tyX8 tyX8_ok nmX8 hown hK hP hD hS 1 rfl rfl 1 (by decide) (va_Nw.use rfl (hN _ (List.mem_of_getElem? (i := 0) rfl))) (fun _ h9 => h9) rfl (by decide +kernel) rfl rfl (Nat.le_of_ble_eq_true rfl) dX10_end_22 (fun H locs hP hD hS => ?_)
      have hP : va_P (dC, dI) vwCl (ceX10_end cyI cyB cyJ cyZ a0 a1 b0_scene b0_kept b0_draftGround b0_draftLaw b0_grid b0_pack b0_pieces b0_thinning b1_bytes g0_imageKept g0_wrongByte g1_here g1_behind g1_digits g1_value p0) H := hP
      have hD : va_D A (ceX10_end cyI cyB cyJ cyZ a0 a1 b0_scene b0_kept b0_draftGround b0_draftLaw b0_grid b0_pack b0_pieces b0_thinning b1_bytes g0_imageKept g0_wrongByte g1_here g1_behind g1_digits g1_value p0) := hD
      refine lv_iconst (v := 1) hx hb dX10_end_25 (by decide) ?_
      rw [hQ]
      exact W.zret (v := 1) (ty := .boolean) hx hb hr rfl (fun t ht hW => ⟨⟨1, (p0), rfl, hw, by rw [ht]; exact hP, va_K.moved hW.alike hK, hD⟩, hS.F ht⟩) hS.2.2 dX10_end_26
    · have hw := hw.2 hc
      refine lv_iconst (v := 0) hx hb dX10_end_15 (by decide) ?_
      rw [hQ]
      exact W.zret (v := 0) (ty := .boolean) hx hb hr rfl (fun t ht hW => ⟨⟨0, (g1_size), rfl, hw, by rw [ht]; exact hP, va_K.moved hW.alike hK, hD⟩, hS.F ht⟩) hS.2.2 dX10_end_16
/-! LeadPark.useUpText (Z)V -/
abbrev ceX10_useUpText (cyI cyB cyJ cyZ : ClassId) (a0 a1 b0_scene b0_kept b0_draftGround b0_draftLaw b0_grid b0_pack b0_pieces b0_thinning b1_bytes : Nat) (g0_imageKept : Int32) (g1_behind : Int32) (g1_digits : Int32) (g1_value : Int32) (g1_here : Int32) (g0_wrongByte : Int32) (g1_size : Int32) : va_W := [(a0, .inr (10, [.ref a1, .ref b0_scene, .ref b0_kept, .ref b0_draftGround, .ref b0_draftLaw, .ref b0_grid, .ref b0_pack, .ref b0_pieces, .ref b0_thinning, .int g0_imageKept, .int g0_wrongByte])), (a1, .inr (8, [.ref b1_bytes, .int g1_size, .int g1_here, .int g1_behind, .int g1_digits, .int g1_value]))]

theorem inX10_useUpText_X10 : ∀ w ∈ wsX100, w ∈ wsX10_useUpText := fun _ h => List.mem_cons_of_mem _ (List.mem_append_left _ (List.mem_append_right _ h))
theorem inX10_useUpText_X8 : ∀ w ∈ wsX80, w ∈ wsX10_useUpText := fun _ h => List.mem_cons_of_mem _ (List.mem_append_right _ h)
abbrev rmX10_useUpText : Room := { frames := 0, cells := 0, slots := 0, locals := 0 }
set_option maxRecDepth 100000 in
set_option maxHeartbeats 4000000 in
theorem bX10_useUpText_16 {p : Program} {l : Launch} {e : Env} {s : State} {m : MethodId} {args : Array Value} {below : List Frame} {meth : Method} {c : Code} {dC : Nat → ClassId} {dI : Nat → Nat → Nat} {cyI cyB cyJ cyZ : ClassId} {A : Nat → Prop} {a0 a1 b0_scene b0_kept b0_draftGround b0_draftLaw b0_grid b0_pack b0_pieces b0_thinning b1_bytes : Nat} {g0_imageKept : Int32} {g1_behind : Int32} {g1_digits : Int32} {g1_value : Int32} (C0 : cxM p s m meth c args wsX10_useUpText RX10 cX10_useUpText 2 none) (hK : va_K (dC, dI) vwCl (tyA cyI cyB cyJ cyZ) s) (hN : nwA s) (hA : ∀ q : Nat, s.heap.size ≤ q → A q) {post : (Int32 × Int32) → Prop} {g1_here : Int32} {Q : State → Prop} (hQ : Q = MQ below (va_Qv post (fun u : Int32 × Int32 => wAt dC dI cyI cyB cyJ cyZ A (ceX10_useUpText cyI cyB cyJ cyZ a0 a1 b0_scene b0_kept b0_draftGround b0_draftLaw b0_grid b0_pack b0_pieces b0_thinning b1_bytes g0_imageKept g1_behind g1_digits g1_value g1_here u.1 u.2)) A) args s 0 0 A) : ∀ (g0_wrongByte : Int32) (g1_size : Int32) (s1 : Int32), wpX10_useUpText_16 post g1_here g0_wrongByte g1_size s1 → AtW p l e rmX10_useUpText s m args below meth c dC dI A Q 2 0 0 (ceX10_useUpText cyI cyB cyJ cyZ a0 a1 b0_scene b0_kept b0_draftGround b0_draftLaw b0_grid b0_pack b0_pieces b0_thinning b1_bytes g0_imageKept g1_behind g1_digits g1_value g1_here g0_wrongByte g1_size) [(0, .ref a0)] 16 [.int s1, .ref a0] := by
  intro g0_wrongByte g1_size s1 hw H locs hP hD hS ls hl
  have C1 := C0
  obtain ⟨hx, hb, hr, hml, hown, hts, hlocks⟩ := C1
  refine va_put (D := (dC, dI)) (ci := 10) (v := .int s1) (ty := .int) (C := RX10) (T := TX10) (N := 11) hx hb hts inX10_useUpText_X10 tyX10 tyX10_ok nmX10 hown hK hP hD hS 0 rfl rfl 10 (by decide) (hts (.fieldLink RX10 72 "LeadPark" "wrongByte" "I") (List.mem_of_getElem? (i := 2) rfl)) (fun _ h9 => h9) rfl (by decide +kernel) rfl rfl (Nat.le_of_ble_eq_true rfl) dX10_useUpText_16 (fun H locs hP hD hS => ?_)
  have hP : va_P (dC, dI) vwCl (ceX10_useUpText cyI cyB cyJ cyZ a0 a1 b0_scene b0_kept b0_draftGround b0_draftLaw b0_grid b0_pack b0_pieces b0_thinning b1_bytes g0_imageKept g1_behind g1_digits g1_value g1_here s1 g1_size) H := hP
  have hD : va_D A (ceX10_useUpText cyI cyB cyJ cyZ a0 a1 b0_scene b0_kept b0_draftGround b0_draftLaw b0_grid b0_pack b0_pieces b0_thinning b1_bytes g0_imageKept g1_behind g1_digits g1_value g1_here s1 g1_size) := hD
  refine lv_aload_n hx hb dX10_useUpText_19 rfl (lv_at hl 0 rfl) ?_
  refine va_get (D := (dC, dI)) (ci := 10) (v := .ref a1) (C := RX10) (T := TX10) (N := 11) hx hb hts inX10_useUpText_X10 hown hK hP 0 rfl rfl 0 (by decide) (hts (.fieldLink RX10 12 "LeadPark" "tape" "LLeadPark$Tape;") (List.mem_of_getElem? (i := 1) rfl)) (fun _ h9 => h9) rfl dX10_useUpText_20 ?_
  refine lv_iconst (v := 0) hx hb dX10_useUpText_23 (by decide) ?_
  refine va_putN (D := (dC, dI)) (ci := 8) (v := .int 0) (ty := .int) (C := RX8) (T := TX8) (N := 6) hx hb hts inX10_useUpText_X8 tyX8 tyX8_ok nmX8 hown hK hP hD hS 1 rfl rfl 1 (by decide) (va_Nw.use rfl (hN _ (List.mem_of_getElem? (i := 0) rfl))) (fun _ h9 => h9) rfl (by decide +kernel) rfl rfl (Nat.le_of_ble_eq_true rfl) dX10_useUpText_24 (fun H locs hP hD hS => ?_)
  have hP : va_P (dC, dI) vwCl (ceX10_useUpText cyI cyB cyJ cyZ a0 a1 b0_scene b0_kept b0_draftGround b0_draftLaw b0_grid b0_pack b0_pieces b0_thinning b1_bytes g0_imageKept g1_behind g1_digits g1_value g1_here s1 0) H := hP
  have hD : va_D A (ceX10_useUpText cyI cyB cyJ cyZ a0 a1 b0_scene b0_kept b0_draftGround b0_draftLaw b0_grid b0_pack b0_pieces b0_thinning b1_bytes g0_imageKept g1_behind g1_digits g1_value g1_here s1 0) := hD
  rw [hQ]
  exact W.vret hx hb hr (fun t ht hW => ⟨⟨(s1, 0), rfl, hw, by rw [ht]; exact hP, va_K.moved hW.alike hK, hD⟩, hS.F ht⟩) hS.2.2 dX10_useUpText_27
set_option maxRecDepth 100000 in
set_option maxHeartbeats 4000000 in
theorem ctX10_useUpText (l : Launch) (dC : Nat → ClassId) (dI : Nat → Nat → Nat) (cyI cyB cyJ cyZ : ClassId) (sz : Nat) (a0 a1 b0_scene b0_kept b0_draftGround b0_draftLaw b0_grid b0_pack b0_pieces b0_thinning b1_bytes : Nat) (g0_imageKept : Int32) (g1_behind : Int32) (g1_digits : Int32) (g1_value : Int32) (g1_here : Int32) (g0_wrongByte : Int32) (g1_size : Int32) (p0 : Int32) (post : (Int32 × Int32) → Prop) (hw : wpX10_useUpText post g1_here g0_wrongByte g1_size p0) : Met l yX10_useUpText wsX10_useUpText rmX10_useUpText (va_Pc [.ref a0, .int p0] (wPre dC dI cyI cyB cyJ cyZ sz (ceX10_useUpText cyI cyB cyJ cyZ a0 a1 b0_scene b0_kept b0_draftGround b0_draftLaw b0_grid b0_pack b0_pieces b0_thinning b1_bytes g0_imageKept g1_behind g1_digits g1_value g1_here g0_wrongByte g1_size))) (va_Qv post (fun u : Int32 × Int32 => wAt dC dI cyI cyB cyJ cyZ (va_A (ceX10_useUpText cyI cyB cyJ cyZ a0 a1 b0_scene b0_kept b0_draftGround b0_draftLaw b0_grid b0_pack b0_pieces b0_thinning b1_bytes g0_imageKept g1_behind g1_digits g1_value g1_here g0_wrongByte g1_size) sz) (ceX10_useUpText cyI cyB cyJ cyZ a0 a1 b0_scene b0_kept b0_draftGround b0_draftLaw b0_grid b0_pack b0_pieces b0_thinning b1_bytes g0_imageKept g1_behind g1_digits g1_value g1_here u.1 u.2)) (va_A (ceX10_useUpText cyI cyB cyJ cyZ a0 a1 b0_scene b0_kept b0_draftGround b0_draftLaw b0_grid b0_pack b0_pieces b0_thinning b1_bytes g0_imageKept g1_behind g1_digits g1_value g1_here g0_wrongByte g1_size) sz)) 0 0 (va_A (ceX10_useUpText cyI cyB cyJ cyZ a0 a1 b0_scene b0_kept b0_draftGround b0_draftLaw b0_grid b0_pack b0_pieces b0_thinning b1_bytes g0_imageKept g1_behind g1_digits g1_value g1_here g0_wrongByte g1_size) sz) := by
  refine Met.ofW (cc := cX10_useUpText) (maxL := 2) (ret := none) (by decide) rfl ?_
  intro p e s m args below meth c s₁ B hml hv
  obtain ⟨rfl, hsz, hP, hK, hD0, hN⟩ := hv
  have hx := B.exec
  have hb := B.bytes
  have hr := B.returns
  have hts := atoms_spec (ws := wsX10_useUpText) B.pre
  have hown : s.vm.findClass RX10 = some m.cls := findClass_of_methodNamed B.named
  have hlocks := B.notSynchronized
  subst hsz
  have hD := hD0.self (sz := s.heap.size)
  generalize hAe : va_A (ceX10_useUpText cyI cyB cyJ cyZ a0 a1 b0_scene b0_kept b0_draftGround b0_draftLaw b0_grid b0_pack b0_pieces b0_thinning b1_bytes g0_imageKept g1_behind g1_digits g1_value g1_here g0_wrongByte g1_size) s.heap.size = A at hD ⊢
  have hA : ∀ q : Nat, s.heap.size ≤ q → A q := fun q h => by rw [← hAe]; exact Or.inr h
  have hS : va_S A s.heap s.heap [] := va_S.rf
  have C0 : cxM p s m meth c _ wsX10_useUpText RX10 cX10_useUpText 2 none := ⟨hx, hb, hr, hml, hown, hts, hlocks⟩
  have hl := lv_entry ([.ref a0, .int p0]) (n := 2) (Nat.le_of_ble_eq_true rfl)
  rw [lg_entry_eq]
  generalize (lg_sl ([.ref a0, .int p0]) ++ List.replicate (2 - (lg_sl ([.ref a0, .int p0])).length) Slot.unset).toArray = ls at hl ⊢
  have hl : lv_has ls 2 [(0, .ref a0), (1, .int p0)] := hl
  show W p l e rmX10_useUpText s m _ below meth c _ _ _ _ _ _
  refine wq (fun Q hQ => ?_)
  refine lv_aload_n hx hb dX10_useUpText_0 rfl (lv_at hl 0 rfl) ?_
  refine lv_iload_n hx hb dX10_useUpText_1 rfl (lv_at hl 1 rfl) ?_
  refine lv_if_eq (tgt := 9) hx hb dX10_useUpText_2 (by decide) (fun hc => ?_) (fun hc => ?_)
  · have hw := hw.1 hc
    refine lv_aload_n hx hb dX10_useUpText_9 rfl (lv_at hl 0 rfl) ?_
    refine va_get (D := (dC, dI)) (ci := 10) (v := .ref a1) (C := RX10) (T := TX10) (N := 11) hx hb hts inX10_useUpText_X10 hown hK hP 0 rfl rfl 0 (by decide) (hts (.fieldLink RX10 12 "LeadPark" "tape" "LLeadPark$Tape;") (List.mem_of_getElem? (i := 1) rfl)) (fun _ h9 => h9) rfl dX10_useUpText_10 ?_
    refine va_getN (D := (dC, dI)) (ci := 8) (v := .int g1_here) (C := RX8) (T := TX8) (N := 6) hx hb hts inX10_useUpText_X8 hown hK hP 1 rfl rfl 2 (by decide) (va_Nw.use rfl (hN _ (List.mem_of_getElem? (i := 1) rfl))) (fun _ h9 => h9) rfl dX10_useUpText_13 ?_
    exact bX10_useUpText_16 C0 hK hN hA hQ g0_wrongByte g1_size g1_here hw _ _ hP hD hS ls (lv_sub hl [0] rfl)
  · have hw := hw.2 hc
    refine lv_iconst (v := (-1)) hx hb dX10_useUpText_5 (by decide) ?_
    refine lv_goto (tgt := 16) hx hb dX10_useUpText_6 (by decide) ?_
    exact bX10_useUpText_16 C0 hK hN hA hQ g0_wrongByte g1_size (-1) hw _ _ hP hD hS ls (lv_sub hl [0] rfl)
/-! LeadPark.park ()I -/
abbrev ceX10_park (cyI cyB cyJ cyZ : ClassId) (a0 a1 a2 a3 a4 a5 a6 a7 a8 a9 a10 a11 a12 a13 a14 b0_kept b0_draftLaw b0_grid b0_pack b0_pieces b0_thinning b1_law b1_marks b7_steps b7_greatestAhead : Nat) (g0_imageKept : Int32) (g1_drawSeed : Int32) (g7_way : Int32) (g7_other : Int32) (g7_lead : Int32) (g7_man : Int32) (g7_dog : Int32) (g7_gone : Int32) (g7_greatest : Int32) (g7_remembered : Int32) (f14 : Nat → Int32) (g0_wrongByte : Int32) (g2_ways : Int32) (g2_wallCount : Int32) (g2_texts : Int32) (f3 : Nat → Int32) (f4 : Nat → Int32) (f5 : Nat → Int32) (f6 : Nat → Int32) (g7_underWay : Int32) (g8_ways : Int32) (g8_wallCount : Int32) (g8_texts : Int32) (f9 : Nat → Int32) (f10 : Nat → Int32) (f11 : Nat → Int32) (f12 : Nat → Int32) (g13_size : Int32) (g13_here : Int32) (g13_behind : Int32) (g13_digits : Int32) (g13_value : Int32) : va_W := [(a0, .inr (10, [.ref a13, .ref a1, .ref b0_kept, .ref a8, .ref b0_draftLaw, .ref b0_grid, .ref b0_pack, .ref b0_pieces, .ref b0_thinning, .int g0_imageKept, .int g0_wrongByte])), (a1, .inr (6, [.ref a2, .ref b1_law, .ref b1_marks, .ref a7, .int g1_drawSeed])), (a2, .inr (1, [.ref a3, .ref a4, .ref a5, .ref a6, .int g2_ways, .int g2_wallCount, .int g2_texts])), (a3, .inl (cyI, 360, .inl f3)), (a4, .inl (cyI, 360, .inl f4)), (a5, .inl (cyI, 12, .inl f5)), (a6, .inl (cyI, 32, .inl f6)), (a7, .inr (7, [.int g7_underWay, .int g7_way, .int g7_other, .int g7_lead, .int g7_man, .int g7_dog, .int g7_gone, .int g7_greatest, .int g7_remembered, .ref b7_steps, .ref b7_greatestAhead])), (a8, .inr (1, [.ref a9, .ref a10, .ref a11, .ref a12, .int g8_ways, .int g8_wallCount, .int g8_texts])), (a9, .inl (cyI, 360, .inl f9)), (a10, .inl (cyI, 360, .inl f10)), (a11, .inl (cyI, 12, .inl f11)), (a12, .inl (cyI, 32, .inl f12)), (a13, .inr (8, [.ref a14, .int g13_size, .int g13_here, .int g13_behind, .int g13_digits, .int g13_value])), (a14, .inl (cyB, 400, .inl f14))]

theorem inX10_park_X1 : ∀ w ∈ wsX10, w ∈ wsX10_park := fun _ h => List.mem_cons_of_mem _ (List.mem_append_left _ (List.mem_append_left _ (List.mem_append_left _ (List.mem_append_left _ (List.mem_append_right _ h)))))
theorem inX10_park_X10 : ∀ w ∈ wsX100, w ∈ wsX10_park := fun _ h => List.mem_cons_of_mem _ (List.mem_append_left _ (List.mem_append_left _ (List.mem_append_left _ (List.mem_append_left _ (List.mem_append_left _ (List.mem_append_left _ (List.mem_append_right _ h)))))))
theorem inX10_park_X6 : ∀ w ∈ wsX60, w ∈ wsX10_park := fun _ h => List.mem_cons_of_mem _ (List.mem_append_left _ (List.mem_append_left _ (List.mem_append_left _ (List.mem_append_left _ (List.mem_append_left _ (List.mem_append_right _ h))))))
theorem inX10_park_X7 : ∀ w ∈ wsX70, w ∈ wsX10_park := fun _ h => List.mem_cons_of_mem _ (List.mem_append_left _ (List.mem_append_left _ (List.mem_append_left _ (List.mem_append_right _ h))))
theorem hatX10_park_106 {args : Array Value} {s : State} (hts : ∀ w ∈ wsX10_park, w.before args s = true) (hB : ∀ w ∈ txBad, w.before #[] s = true) : ∀ w ∈ vx_atS RX10 106 "java/lang/IllegalArgumentException" ["java/lang/RuntimeException", "java/lang/Exception"], w.before args s = true := vx_hat (B := txBad) (fun w h => hts w (List.mem_cons_of_mem _ (List.mem_append_left _ (List.mem_append_right _ h)))) hbd_106 (fun w h => va_Nw.use (List.all_eq_true.mp txBad_tab w h) (hB w h))
theorem hatX10_park_116 {args : Array Value} {s : State} (hts : ∀ w ∈ wsX10_park, w.before args s = true) (hB : ∀ w ∈ txBad, w.before #[] s = true) : ∀ w ∈ vx_atS RX10 116 "java/lang/UnsupportedOperationException" ["java/lang/RuntimeException", "java/lang/Exception"], w.before args s = true := vx_hat (B := txBad) (fun w h => hts w (List.mem_cons_of_mem _ (List.mem_append_right _ h))) hbd_116 (fun w h => va_Nw.use (List.all_eq_true.mp txBad_tab w h) (hB w h))
abbrev rmX10_park : Room := { frames := 7, cells := 1, slots := 6, locals := 151 }
set_option maxRecDepth 100000 in
set_option maxHeartbeats 4000000 in
theorem ctX10_park (l : Launch) (hl0 : l.stackTraces = false) (dC : Nat → ClassId) (dI : Nat → Nat → Nat) (cyI cyB cyJ cyZ : ClassId) (sz : Nat) (a0 a1 a2 a3 a4 a5 a6 a7 a8 a9 a10 a11 a12 a13 a14 b0_kept b0_draftLaw b0_grid b0_pack b0_pieces b0_thinning b1_law b1_marks b7_steps b7_greatestAhead : Nat) (g0_imageKept : Int32) (g1_drawSeed : Int32) (g7_way : Int32) (g7_other : Int32) (g7_lead : Int32) (g7_man : Int32) (g7_dog : Int32) (g7_gone : Int32) (g7_greatest : Int32) (g7_remembered : Int32) (f14 : Nat → Int32) (g0_wrongByte : Int32) (g2_ways : Int32) (g2_wallCount : Int32) (g2_texts : Int32) (f3 : Nat → Int32) (f4 : Nat → Int32) (f5 : Nat → Int32) (f6 : Nat → Int32) (g7_underWay : Int32) (g8_ways : Int32) (g8_wallCount : Int32) (g8_texts : Int32) (f9 : Nat → Int32) (f10 : Nat → Int32) (f11 : Nat → Int32) (f12 : Nat → Int32) (g13_size : Int32) (g13_here : Int32) (g13_behind : Int32) (g13_digits : Int32) (g13_value : Int32) (post : Int32 → (Int32 × Int32 × Int32 × Int32 × (Nat → Int32) × (Nat → Int32) × (Nat → Int32) × (Nat → Int32) × Int32 × Int32 × Int32 × Int32 × (Nat → Int32) × (Nat → Int32) × (Nat → Int32) × (Nat → Int32) × Int32 × Int32 × Int32 × Int32 × Int32) → Prop) (postX : String → (Int32 × Int32 × Int32 × Int32 × (Nat → Int32) × (Nat → Int32) × (Nat → Int32) × (Nat → Int32) × Int32 × Int32 × Int32 × Int32 × (Nat → Int32) × (Nat → Int32) × (Nat → Int32) × (Nat → Int32) × Int32 × Int32 × Int32 × Int32 × Int32) → Prop) (adS : Nat → Nat) (hw : wpX10_park post postX f14 g0_wrongByte g2_ways g2_wallCount g2_texts f3 f4 f5 f6 g7_underWay g8_ways g8_wallCount g8_texts f9 f10 f11 f12 g13_size g13_here g13_behind g13_digits g13_value ) : vx_Met l yX10_park wsX10_park rmX10_park (va_Pc [.ref a0] (wPreX dC dI cyI cyB cyJ cyZ sz (ceX10_park cyI cyB cyJ cyZ a0 a1 a2 a3 a4 a5 a6 a7 a8 a9 a10 a11 a12 a13 a14 b0_kept b0_draftLaw b0_grid b0_pack b0_pieces b0_thinning b1_law b1_marks b7_steps b7_greatestAhead g0_imageKept g1_drawSeed g7_way g7_other g7_lead g7_man g7_dog g7_gone g7_greatest g7_remembered f14 g0_wrongByte g2_ways g2_wallCount g2_texts f3 f4 f5 f6 g7_underWay g8_ways g8_wallCount g8_texts f9 f10 f11 f12 g13_size g13_here g13_behind g13_digits g13_value) (txT adS))) (va_Qi post (fun u : Int32 × Int32 × Int32 × Int32 × (Nat → Int32) × (Nat → Int32) × (Nat → Int32) × (Nat → Int32) × Int32 × Int32 × Int32 × Int32 × (Nat → Int32) × (Nat → Int32) × (Nat → Int32) × (Nat → Int32) × Int32 × Int32 × Int32 × Int32 × Int32 => wAt dC dI cyI cyB cyJ cyZ (va_A (ceX10_park cyI cyB cyJ cyZ a0 a1 a2 a3 a4 a5 a6 a7 a8 a9 a10 a11 a12 a13 a14 b0_kept b0_draftLaw b0_grid b0_pack b0_pieces b0_thinning b1_law b1_marks b7_steps b7_greatestAhead g0_imageKept g1_drawSeed g7_way g7_other g7_lead g7_man g7_dog g7_gone g7_greatest g7_remembered f14 g0_wrongByte g2_ways g2_wallCount g2_texts f3 f4 f5 f6 g7_underWay g8_ways g8_wallCount g8_texts f9 f10 f11 f12 g13_size g13_here g13_behind g13_digits g13_value) sz) (ceX10_park cyI cyB cyJ cyZ a0 a1 a2 a3 a4 a5 a6 a7 a8 a9 a10 a11 a12 a13 a14 b0_kept b0_draftLaw b0_grid b0_pack b0_pieces b0_thinning b1_law b1_marks b7_steps b7_greatestAhead g0_imageKept g1_drawSeed g7_way g7_other g7_lead g7_man g7_dog g7_gone g7_greatest g7_remembered f14 u.1 u.2.1 u.2.2.1 u.2.2.2.1 u.2.2.2.2.1 u.2.2.2.2.2.1 u.2.2.2.2.2.2.1 u.2.2.2.2.2.2.2.1 u.2.2.2.2.2.2.2.2.1 u.2.2.2.2.2.2.2.2.2.1 u.2.2.2.2.2.2.2.2.2.2.1 u.2.2.2.2.2.2.2.2.2.2.2.1 u.2.2.2.2.2.2.2.2.2.2.2.2.1 u.2.2.2.2.2.2.2.2.2.2.2.2.2.1 u.2.2.2.2.2.2.2.2.2.2.2.2.2.2.1 u.2.2.2.2.2.2.2.2.2.2.2.2.2.2.2.1 u.2.2.2.2.2.2.2.2.2.2.2.2.2.2.2.2.1 u.2.2.2.2.2.2.2.2.2.2.2.2.2.2.2.2.2.1 u.2.2.2.2.2.2.2.2.2.2.2.2.2.2.2.2.2.2.1 u.2.2.2.2.2.2.2.2.2.2.2.2.2.2.2.2.2.2.2.1 u.2.2.2.2.2.2.2.2.2.2.2.2.2.2.2.2.2.2.2.2)) (va_A (ceX10_park cyI cyB cyJ cyZ a0 a1 a2 a3 a4 a5 a6 a7 a8 a9 a10 a11 a12 a13 a14 b0_kept b0_draftLaw b0_grid b0_pack b0_pieces b0_thinning b1_law b1_marks b7_steps b7_greatestAhead g0_imageKept g1_drawSeed g7_way g7_other g7_lead g7_man g7_dog g7_gone g7_greatest g7_remembered f14 g0_wrongByte g2_ways g2_wallCount g2_texts f3 f4 f5 f6 g7_underWay g8_ways g8_wallCount g8_texts f9 f10 f11 f12 g13_size g13_here g13_behind g13_digits g13_value) sz)) (vx_X (fun _ : Int32 × Int32 × Int32 × Int32 × (Nat → Int32) × (Nat → Int32) × (Nat → Int32) × (Nat → Int32) × Int32 × Int32 × Int32 × Int32 × (Nat → Int32) × (Nat → Int32) × (Nat → Int32) × (Nat → Int32) × Int32 × Int32 × Int32 × Int32 × Int32 => True) (fun E (u : Int32 × Int32 × Int32 × Int32 × (Nat → Int32) × (Nat → Int32) × (Nat → Int32) × (Nat → Int32) × Int32 × Int32 × Int32 × Int32 × (Nat → Int32) × (Nat → Int32) × (Nat → Int32) × (Nat → Int32) × Int32 × Int32 × Int32 × Int32 × Int32) t => postX E u ∧ wAt dC dI cyI cyB cyJ cyZ (va_A (ceX10_park cyI cyB cyJ cyZ a0 a1 a2 a3 a4 a5 a6 a7 a8 a9 a10 a11 a12 a13 a14 b0_kept b0_draftLaw b0_grid b0_pack b0_pieces b0_thinning b1_law b1_marks b7_steps b7_greatestAhead g0_imageKept g1_drawSeed g7_way g7_other g7_lead g7_man g7_dog g7_gone g7_greatest g7_remembered f14 g0_wrongByte g2_ways g2_wallCount g2_texts f3 f4 f5 f6 g7_underWay g8_ways g8_wallCount g8_texts f9 f10 f11 f12 g13_size g13_here g13_behind g13_digits g13_value) sz) (ceX10_park cyI cyB cyJ cyZ a0 a1 a2 a3 a4 a5 a6 a7 a8 a9 a10 a11 a12 a13 a14 b0_kept b0_draftLaw b0_grid b0_pack b0_pieces b0_thinning b1_law b1_marks b7_steps b7_greatestAhead g0_imageKept g1_drawSeed g7_way g7_other g7_lead g7_man g7_dog g7_gone g7_greatest g7_remembered f14 u.1 u.2.1 u.2.2.1 u.2.2.2.1 u.2.2.2.2.1 u.2.2.2.2.2.1 u.2.2.2.2.2.2.1 u.2.2.2.2.2.2.2.1 u.2.2.2.2.2.2.2.2.1 u.2.2.2.2.2.2.2.2.2.1 u.2.2.2.2.2.2.2.2.2.2.1 u.2.2.2.2.2.2.2.2.2.2.2.1 u.2.2.2.2.2.2.2.2.2.2.2.2.1 u.2.2.2.2.2.2.2.2.2.2.2.2.2.1 u.2.2.2.2.2.2.2.2.2.2.2.2.2.2.1 u.2.2.2.2.2.2.2.2.2.2.2.2.2.2.2.1 u.2.2.2.2.2.2.2.2.2.2.2.2.2.2.2.2.1 u.2.2.2.2.2.2.2.2.2.2.2.2.2.2.2.2.2.1 u.2.2.2.2.2.2.2.2.2.2.2.2.2.2.2.2.2.2.1 u.2.2.2.2.2.2.2.2.2.2.2.2.2.2.2.2.2.2.2.1 u.2.2.2.2.2.2.2.2.2.2.2.2.2.2.2.2.2.2.2.2) t) (va_A (ceX10_park cyI cyB cyJ cyZ a0 a1 a2 a3 a4 a5 a6 a7 a8 a9 a10 a11 a12 a13 a14 b0_kept b0_draftLaw b0_grid b0_pack b0_pieces b0_thinning b1_law b1_marks b7_steps b7_greatestAhead g0_imageKept g1_drawSeed g7_way g7_other g7_lead g7_man g7_dog g7_gone g7_greatest g7_remembered f14 g0_wrongByte g2_ways g2_wallCount g2_texts f3 f4 f5 f6 g7_underWay g8_ways g8_wallCount g8_texts f9 f10 f11 f12 g13_size g13_here g13_behind g13_digits g13_value) sz)) 1 6 (va_A (ceX10_park cyI cyB cyJ cyZ a0 a1 a2 a3 a4 a5 a6 a7 a8 a9 a10 a11 a12 a13 a14 b0_kept b0_draftLaw b0_grid b0_pack b0_pieces b0_thinning b1_law b1_marks b7_steps b7_greatestAhead g0_imageKept g1_drawSeed g7_way g7_other g7_lead g7_man g7_dog g7_gone g7_greatest g7_remembered f14 g0_wrongByte g2_ways g2_wallCount g2_texts f3 f4 f5 f6 g7_underWay g8_ways g8_wallCount g8_texts f9 f10 f11 f12 g13_size g13_here g13_behind g13_digits g13_value) sz) := by
  refine vx_ofW (cc := cX10_park) (maxL := 2) (ret := (some .int)) (by decide) rfl ?_
  intro p e s m args below meth c s₁ B hml hT hv
  obtain ⟨rfl, ⟨hsz, hP, hK, hD0, hN⟩, hXs⟩ := hv
  have hx := B.exec
  have hb := B.bytes
  have hr := B.returns
  have hts := atoms_spec (ws := wsX10_park) B.pre
  have hown : s.vm.findClass RX10 = some m.cls := findClass_of_methodNamed B.named
  have hlocks := B.notSynchronized
  subst hsz
  have hD := hD0.self (sz := s.heap.size)
  generalize hAe : va_A (ceX10_park cyI cyB cyJ cyZ a0 a1 a2 a3 a4 a5 a6 a7 a8 a9 a10 a11 a12 a13 a14 b0_kept b0_draftLaw b0_grid b0_pack b0_pieces b0_thinning b1_law b1_marks b7_steps b7_greatestAhead g0_imageKept g1_drawSeed g7_way g7_other g7_lead g7_man g7_dog g7_gone g7_greatest g7_remembered f14 g0_wrongByte g2_ways g2_wallCount g2_texts f3 f4 f5 f6 g7_underWay g8_ways g8_wallCount g8_texts f9 f10 f11 f12 g13_size g13_here g13_behind g13_digits g13_value) s.heap.size = A at hD hXs ⊢
  have hA : ∀ q : Nat, s.heap.size ≤ q → A q := fun q h => by rw [← hAe]; exact Or.inr h
  have hS : va_S A s.heap s.heap [] := va_S.rf
  have C0 : cxM p s m meth c _ wsX10_park RX10 cX10_park 2 (some .int) := ⟨hx, hb, hr, hml, hown, hts, hlocks⟩
  have hl := lv_entry ([.ref a0]) (n := 2) (Nat.le_of_ble_eq_true rfl)
  rw [lg_entry_eq]
  generalize (lg_sl ([.ref a0]) ++ List.replicate (2 - (lg_sl ([.ref a0])).length) Slot.unset).toArray = ls at hl ⊢
  have hl : lv_has ls 2 [(0, .ref a0)] := hl
  show W p l e rmX10_park s m _ below meth c _ _ _ _ _ _
  refine wq (fun Q hQ => ?_)
  refine lv_aload_n hx hb dX10_park_0 rfl (lv_at hl 0 rfl) ?_
  refine va_get (D := (dC, dI)) (ci := 10) (v := .ref a8) (C := RX10) (T := TX10) (N := 11) hx hb hts inX10_park_X10 hown hK hP 0 rfl rfl 3 (by decide) (hts (.fieldLink RX10 29 "LeadPark" "draftGround" "LLeadPark$Ground;") (List.mem_of_getElem? (i := 5) rfl)) (fun _ h9 => h9) rfl dX10_park_1 ?_
  refine lv_aload_n hx hb dX10_park_4 rfl (lv_at hl 0 rfl) ?_
  refine va_get (D := (dC, dI)) (ci := 10) (v := .ref a1) (C := RX10) (T := TX10) (N := 11) hx hb hts inX10_park_X10 hown hK hP 0 rfl rfl 1 (by decide) (hts (.fieldLink RX10 19 "LeadPark" "scene" "LLeadPark$Scene;") (List.mem_of_getElem? (i := 6) rfl)) (fun _ h9 => h9) rfl dX10_park_5 ?_
  refine va_getN (D := (dC, dI)) (ci := 6) (v := .ref a2) (C := RX6) (T := TX6) (N := 5) hx hb hts inX10_park_X6 hown hK hP 1 rfl rfl 0 (by decide) (va_Nw.use rfl (hN _ (List.mem_of_getElem? (i := 29) rfl))) (fun _ h9 => h9) rfl dX10_park_8 ?_
  have hPc := hP.sub (ws' := (ceX1_copyFrom cyI cyB cyJ cyZ a8 a9 a10 a11 a12 a2 a3 a4 a5 a6 g2_ways g2_wallCount g2_texts f3 f4 f5 f6 g8_ways g8_wallCount g8_texts f9 f10 f11 f12)) [8, 9, 10, 11, 12, 2, 3, 4, 5, 6] rfl
  have hDc := hD.sub (ws' := (ceX1_copyFrom cyI cyB cyJ cyZ a8 a9 a10 a11 a12 a2 a3 a4 a5 a6 g2_ways g2_wallCount g2_texts f3 f4 f5 f6 g8_ways g8_wallCount g8_texts f9 f10 f11 f12)) [8, 9, 10, 11, 12, 2, 3, 4, 5, 6] (by decide) rfl
  have hFc := va_free (wc := (ceX1_copyFrom cyI cyB cyJ cyZ a8 a9 a10 a11 a12 a2 a3 a4 a5 a6 g2_ways g2_wallCount g2_texts f3 f4 f5 f6 g8_ways g8_wallCount g8_texts f9 f10 f11 f12)) hD hS hA [8, 9, 10, 11, 12, 2, 3, 4, 5, 6] rfl
  refine va_callv (va_runV (As := [.ref a2]) (rest := []) ⟨hx, hb, hml, hown, hts⟩ (ctX1_copyFrom l dC dI cyI cyB cyJ cyZ _ a8 a9 a10 a11 a12 a2 a3 a4 a5 a6 g2_ways g2_wallCount g2_texts f3 f4 f5 f6 g8_ways g8_wallCount g8_texts f9 f10 f11 f12 _ hw) (cwV 1 hts gX10_park_X1_copyFrom rfl rfl rfl (by decide +kernel) ⟨Nat.le_of_ble_eq_true rfl, Nat.le_of_ble_eq_true rfl⟩) ⟨wPre_blind, va_recv hK hPc (ci := 1) (q0 := 0) rfl rfl, fun U hU hW => wPre_of hPc hK hDc hN hU hW⟩ rfl rfl hl.1 rfl (lv_room (Nat.le_of_ble_eq_true rfl)) dX10_park_11 ⟨(by decide), (by decide)⟩) hS (fun q _ h => hFc q h) hFc (fun u1 t H1 locs ht hvm hw hB hz1 hk1 hS => ?_)
  obtain ⟨hP1, hK1, hD1⟩ := hB
  rw [ht] at hP1
  obtain ⟨hP, hD⟩ := va_join (wr := pickW (ceX10_park cyI cyB cyJ cyZ a0 a1 a2 a3 a4 a5 a6 a7 a8 a9 a10 a11 a12 a13 a14 b0_kept b0_draftLaw b0_grid b0_pack b0_pieces b0_thinning b1_law b1_marks b7_steps b7_greatestAhead g0_imageKept g1_drawSeed g7_way g7_other g7_lead g7_man g7_dog g7_gone g7_greatest g7_remembered f14 g0_wrongByte g2_ways g2_wallCount g2_texts f3 f4 f5 f6 g7_underWay g8_ways g8_wallCount g8_texts f9 f10 f11 f12 g13_size g13_here g13_behind g13_digits g13_value) [0, 1, 7, 13, 14]) (w1 := (ceX1_copyFrom cyI cyB cyJ cyZ a8 a9 a10 a11 a12 a2 a3 a4 a5 a6 g2_ways g2_wallCount g2_texts f3 f4 f5 f6 u1.1 u1.2.1 u1.2.2.1 u1.2.2.2.1 u1.2.2.2.2.1 u1.2.2.2.2.2.1 u1.2.2.2.2.2.2)) hP hD [8, 9, 10, 11, 12, 2, 3, 4, 5, 6] [0, 1, 7, 13, 14] rfl rfl (by decide) (by decide) hk1 hFc hP1 hD1
  have hP := hP.sub (ws' := (ceX10_park cyI cyB cyJ cyZ a0 a1 a2 a3 a4 a5 a6 a7 a8 a9 a10 a11 a12 a13 a14 b0_kept b0_draftLaw b0_grid b0_pack b0_pieces b0_thinning b1_law b1_marks b7_steps b7_greatestAhead g0_imageKept g1_drawSeed g7_way g7_other g7_lead g7_man g7_dog g7_gone g7_greatest g7_remembered f14 g0_wrongByte g2_ways g2_wallCount g2_texts f3 f4 f5 f6 g7_underWay u1.1 u1.2.1 u1.2.2.1 u1.2.2.2.1 u1.2.2.2.2.1 u1.2.2.2.2.2.1 u1.2.2.2.2.2.2 g13_size g13_here g13_behind g13_digits g13_value)) [0, 1, 10, 11, 12, 13, 14, 2, 5, 6, 7, 8, 9, 3, 4] rfl
  have hD := hD.sub (ws' := (ceX10_park cyI cyB cyJ cyZ a0 a1 a2 a3 a4 a5 a6 a7 a8 a9 a10 a11 a12 a13 a14 b0_kept b0_draftLaw b0_grid b0_pack b0_pieces b0_thinning b1_law b1_marks b7_steps b7_greatestAhead g0_imageKept g1_drawSeed g7_way g7_other g7_lead g7_man g7_dog g7_gone g7_greatest g7_remembered f14 g0_wrongByte g2_ways g2_wallCount g2_texts f3 f4 f5 f6 g7_underWay u1.1 u1.2.1 u1.2.2.1 u1.2.2.2.1 u1.2.2.2.2.1 u1.2.2.2.2.2.1 u1.2.2.2.2.2.2 g13_size g13_here g13_behind g13_digits g13_value)) [0, 1, 10, 11, 12, 13, 14, 2, 5, 6, 7, 8, 9, 3, 4] (by decide) rfl
  generalize H1 = H at hP hS ⊢
  refine lv_aload_n hx hb dX10_park_14 rfl (lv_at hl 0 rfl) ?_
  refine va_get (D := (dC, dI)) (ci := 10) (v := .ref a8) (C := RX10) (T := TX10) (N := 11) hx hb hts inX10_park_X10 hown hK hP 0 rfl rfl 3 (by decide) (hts (.fieldLink RX10 29 "LeadPark" "draftGround" "LLeadPark$Ground;") (List.mem_of_getElem? (i := 5) rfl)) (fun _ h9 => h9) rfl dX10_park_15 ?_
  refine lv_aload_n hx hb dX10_park_18 rfl (lv_at hl 0 rfl) ?_
  refine va_get (D := (dC, dI)) (ci := 10) (v := .ref a13) (C := RX10) (T := TX10) (N := 11) hx hb hts inX10_park_X10 hown hK hP 0 rfl rfl 0 (by decide) (hts (.fieldLink RX10 12 "LeadPark" "tape" "LLeadPark$Tape;") (List.mem_of_getElem? (i := 7) rfl)) (fun _ h9 => h9) rfl dX10_park_19 ?_
  have hPc := hP.sub (ws' := (ceX1_readText cyI cyB cyJ cyZ a8 a11 a9 a10 a12 a13 a14 u1.2.2.1 g13_size f14 u1.1 u1.2.1 u1.2.2.2.2.2.1 u1.2.2.2.1 u1.2.2.2.2.1 u1.2.2.2.2.2.2 g13_here g13_behind g13_digits g13_value)) [8, 11, 9, 10, 12, 13, 14] rfl
  have hDc := hD.sub (ws' := (ceX1_readText cyI cyB cyJ cyZ a8 a11 a9 a10 a12 a13 a14 u1.2.2.1 g13_size f14 u1.1 u1.2.1 u1.2.2.2.2.2.1 u1.2.2.2.1 u1.2.2.2.2.1 u1.2.2.2.2.2.2 g13_here g13_behind g13_digits g13_value)) [8, 11, 9, 10, 12, 13, 14] (by decide) rfl
  have hFc := va_free (wc := (ceX1_readText cyI cyB cyJ cyZ a8 a11 a9 a10 a12 a13 a14 u1.2.2.1 g13_size f14 u1.1 u1.2.1 u1.2.2.2.2.2.1 u1.2.2.2.1 u1.2.2.2.2.1 u1.2.2.2.2.2.2 g13_here g13_behind g13_digits g13_value)) hD hS hA [8, 11, 9, 10, 12, 13, 14] rfl
  refine va_calli (va_runV (As := [.ref a13]) (rest := []) ⟨hx, hb, hml, hown, hts⟩ (ctX1_readText l dC dI cyI cyB cyJ cyZ _ a8 a11 a9 a10 a12 a13 a14 u1.2.2.1 g13_size f14 u1.1 u1.2.1 u1.2.2.2.2.2.1 u1.2.2.2.1 u1.2.2.2.2.1 u1.2.2.2.2.2.2 g13_here g13_behind g13_digits g13_value _ adS hw) (cwV 1 hts gX10_park_X1_readText rfl rfl rfl (by decide +kernel) ⟨Nat.le_of_ble_eq_true rfl, Nat.le_of_ble_eq_true rfl⟩) ⟨wPreX_blind (xOk_txA adS), va_recv hK hPc (ci := 1) (q0 := 0) rfl rfl, fun U hU hW => wPreX_of (xOk_txA adS) hPc hK hDc hN hXs.1 hS hFc hU hW⟩ rfl rfl hl.1 rfl (lv_room (Nat.le_of_ble_eq_true rfl)) dX10_park_22 ⟨(by decide), (by decide)⟩) hS (fun q _ h => hFc q h) hFc (fun r3 u2 t H1 locs ht hvm hw hB hz1 hk1 hS => ?_)
  obtain ⟨hP1, hK1, hD1⟩ := hB
  rw [ht] at hP1
  obtain ⟨hP, hD⟩ := va_join (wr := pickW (ceX10_park cyI cyB cyJ cyZ a0 a1 a2 a3 a4 a5 a6 a7 a8 a9 a10 a11 a12 a13 a14 b0_kept b0_draftLaw b0_grid b0_pack b0_pieces b0_thinning b1_law b1_marks b7_steps b7_greatestAhead g0_imageKept g1_drawSeed g7_way g7_other g7_lead g7_man g7_dog g7_gone g7_greatest g7_remembered f14 g0_wrongByte g2_ways g2_wallCount g2_texts f3 f4 f5 f6 g7_underWay u1.1 u1.2.1 u1.2.2.1 u1.2.2.2.1 u1.2.2.2.2.1 u1.2.2.2.2.2.1 u1.2.2.2.2.2.2 g13_size g13_here g13_behind g13_digits g13_value) [0, 1, 2, 3, 4, 5, 6, 7]) (w1 := (ceX1_readText cyI cyB cyJ cyZ a8 a11 a9 a10 a12 a13 a14 u1.2.2.1 g13_size f14 u2.1 u2.2.1 u2.2.2.1 u2.2.2.2.1 u2.2.2.2.2.1 u2.2.2.2.2.2.1 u2.2.2.2.2.2.2.1 u2.2.2.2.2.2.2.2.1 u2.2.2.2.2.2.2.2.2.1 u2.2.2.2.2.2.2.2.2.2)) hP hD [8, 11, 9, 10, 12, 13, 14] [0, 1, 2, 3, 4, 5, 6, 7] rfl rfl (by decide) (by decide) hk1 hFc hP1 hD1
  have hP := hP.sub (ws' := (ceX10_park cyI cyB cyJ cyZ a0 a1 a2 a3 a4 a5 a6 a7 a8 a9 a10 a11 a12 a13 a14 b0_kept b0_draftLaw b0_grid b0_pack b0_pieces b0_thinning b1_law b1_marks b7_steps b7_greatestAhead g0_imageKept g1_drawSeed g7_way g7_other g7_lead g7_man g7_dog g7_gone g7_greatest g7_remembered f14 g0_wrongByte g2_ways g2_wallCount g2_texts f3 f4 f5 f6 g7_underWay u2.1 u2.2.1 u1.2.2.1 u2.2.2.2.1 u2.2.2.2.2.1 u2.2.2.1 u2.2.2.2.2.2.1 g13_size u2.2.2.2.2.2.2.1 u2.2.2.2.2.2.2.2.1 u2.2.2.2.2.2.2.2.2.1 u2.2.2.2.2.2.2.2.2.2)) [0, 1, 2, 3, 4, 5, 6, 7, 8, 10, 11, 9, 12, 13, 14] rfl
  have hD := hD.sub (ws' := (ceX10_park cyI cyB cyJ cyZ a0 a1 a2 a3 a4 a5 a6 a7 a8 a9 a10 a11 a12 a13 a14 b0_kept b0_draftLaw b0_grid b0_pack b0_pieces b0_thinning b1_law b1_marks b7_steps b7_greatestAhead g0_imageKept g1_drawSeed g7_way g7_other g7_lead g7_man g7_dog g7_gone g7_greatest g7_remembered f14 g0_wrongByte g2_ways g2_wallCount g2_texts f3 f4 f5 f6 g7_underWay u2.1 u2.2.1 u1.2.2.1 u2.2.2.2.1 u2.2.2.2.2.1 u2.2.2.1 u2.2.2.2.2.2.1 g13_size u2.2.2.2.2.2.2.1 u2.2.2.2.2.2.2.2.1 u2.2.2.2.2.2.2.2.2.1 u2.2.2.2.2.2.2.2.2.2)) [0, 1, 2, 3, 4, 5, 6, 7, 8, 10, 11, 9, 12, 13, 14] (by decide) rfl
  generalize H1 = H at hP hS ⊢
  refine lv_istore_n (lv' := [(1, .int r3), (0, .ref a0)]) hx hb dX10_park_25 rfl hl (by decide) rfl (fun ls hl => ?_)
  refine lv_aload_n hx hb dX10_park_26 rfl (lv_at hl 1 rfl) ?_
  refine lv_iload_n hx hb dX10_park_27 rfl (lv_at hl 0 rfl) ?_
  have hPc := hP.sub (ws' := (ceX10_useUpText cyI cyB cyJ cyZ a0 a13 a1 b0_kept a8 b0_draftLaw b0_grid b0_pack b0_pieces b0_thinning a14 g0_imageKept u2.2.2.2.2.2.2.2.1 u2.2.2.2.2.2.2.2.2.1 u2.2.2.2.2.2.2.2.2.2 u2.2.2.2.2.2.2.1 g0_wrongByte g13_size)) [0, 13] rfl
  have hDc := hD.sub (ws' := (ceX10_useUpText cyI cyB cyJ cyZ a0 a13 a1 b0_kept a8 b0_draftLaw b0_grid b0_pack b0_pieces b0_thinning a14 g0_imageKept u2.2.2.2.2.2.2.2.1 u2.2.2.2.2.2.2.2.2.1 u2.2.2.2.2.2.2.2.2.2 u2.2.2.2.2.2.2.1 g0_wrongByte g13_size)) [0, 13] (by decide) rfl
  have hFc := va_free (wc := (ceX10_useUpText cyI cyB cyJ cyZ a0 a13 a1 b0_kept a8 b0_draftLaw b0_grid b0_pack b0_pieces b0_thinning a14 g0_imageKept u2.2.2.2.2.2.2.2.1 u2.2.2.2.2.2.2.2.2.1 u2.2.2.2.2.2.2.2.2.2 u2.2.2.2.2.2.2.1 g0_wrongByte g13_size)) hD hS hA [0, 13] rfl
  refine va_callv (va_runV (As := [.int r3]) (rest := []) ⟨hx, hb, hml, hown, hts⟩ (ctX10_useUpText l dC dI cyI cyB cyJ cyZ _ a0 a13 a1 b0_kept a8 b0_draftLaw b0_grid b0_pack b0_pieces b0_thinning a14 g0_imageKept u2.2.2.2.2.2.2.2.1 u2.2.2.2.2.2.2.2.2.1 u2.2.2.2.2.2.2.2.2.2 u2.2.2.2.2.2.2.1 g0_wrongByte g13_size r3 _ hw) (cwV 1 hts gX10_park_X10_useUpText rfl rfl rfl (by decide +kernel) ⟨Nat.le_of_ble_eq_true rfl, Nat.le_of_ble_eq_true rfl⟩) ⟨wPre_blind, va_recv hK hPc (ci := 10) (q0 := 0) rfl rfl, fun U hU hW => wPre_of hPc hK hDc hN hU hW⟩ rfl rfl hl.1 rfl (lv_room (Nat.le_of_ble_eq_true rfl)) dX10_park_28 ⟨(by decide), (by decide)⟩) hS (fun q _ h => hFc q h) hFc (fun u4 t H1 locs ht hvm hw hB hz1 hk1 hS => ?_)
  obtain ⟨hP1, hK1, hD1⟩ := hB
  rw [ht] at hP1
  obtain ⟨hP, hD⟩ := va_join (wr := pickW (ceX10_park cyI cyB cyJ cyZ a0 a1 a2 a3 a4 a5 a6 a7 a8 a9 a10 a11 a12 a13 a14 b0_kept b0_draftLaw b0_grid b0_pack b0_pieces b0_thinning b1_law b1_marks b7_steps b7_greatestAhead g0_imageKept g1_drawSeed g7_way g7_other g7_lead g7_man g7_dog g7_gone g7_greatest g7_remembered f14 g0_wrongByte g2_ways g2_wallCount g2_texts f3 f4 f5 f6 g7_underWay u2.1 u2.2.1 u1.2.2.1 u2.2.2.2.1 u2.2.2.2.2.1 u2.2.2.1 u2.2.2.2.2.2.1 g13_size u2.2.2.2.2.2.2.1 u2.2.2.2.2.2.2.2.1 u2.2.2.2.2.2.2.2.2.1 u2.2.2.2.2.2.2.2.2.2) [1, 2, 3, 4, 5, 6, 7, 8, 9, 10, 11, 12, 14]) (w1 := (ceX10_useUpText cyI cyB cyJ cyZ a0 a13 a1 b0_kept a8 b0_draftLaw b0_grid b0_pack b0_pieces b0_thinning a14 g0_imageKept u2.2.2.2.2.2.2.2.1 u2.2.2.2.2.2.2.2.2.1 u2.2.2.2.2.2.2.2.2.2 u2.2.2.2.2.2.2.1 u4.1 u4.2)) hP hD [0, 13] [1, 2, 3, 4, 5, 6, 7, 8, 9, 10, 11, 12, 14] rfl rfl (by decide) (by decide) hk1 hFc hP1 hD1
  have hP := hP.sub (ws' := (ceX10_park cyI cyB cyJ cyZ a0 a1 a2 a3 a4 a5 a6 a7 a8 a9 a10 a11 a12 a13 a14 b0_kept b0_draftLaw b0_grid b0_pack b0_pieces b0_thinning b1_law b1_marks b7_steps b7_greatestAhead g0_imageKept g1_drawSeed g7_way g7_other g7_lead g7_man g7_dog g7_gone g7_greatest g7_remembered f14 u4.1 g2_ways g2_wallCount g2_texts f3 f4 f5 f6 g7_underWay u2.1 u2.2.1 u1.2.2.1 u2.2.2.2.1 u2.2.2.2.2.1 u2.2.2.1 u2.2.2.2.2.2.1 u4.2 u2.2.2.2.2.2.2.1 u2.2.2.2.2.2.2.2.1 u2.2.2.2.2.2.2.2.2.1 u2.2.2.2.2.2.2.2.2.2)) [13, 0, 1, 2, 3, 4, 5, 6, 7, 8, 9, 10, 11, 14, 12] rfl
  have hD := hD.sub (ws' := (ceX10_park cyI cyB cyJ cyZ a0 a1 a2 a3 a4 a5 a6 a7 a8 a9 a10 a11 a12 a13 a14 b0_kept b0_draftLaw b0_grid b0_pack b0_pieces b0_thinning b1_law b1_marks b7_steps b7_greatestAhead g0_imageKept g1_drawSeed g7_way g7_other g7_lead g7_man g7_dog g7_gone g7_greatest g7_remembered f14 u4.1 g2_ways g2_wallCount g2_texts f3 f4 f5 f6 g7_underWay u2.1 u2.2.1 u1.2.2.1 u2.2.2.2.1 u2.2.2.2.2.1 u2.2.2.1 u2.2.2.2.2.2.1 u4.2 u2.2.2.2.2.2.2.1 u2.2.2.2.2.2.2.2.1 u2.2.2.2.2.2.2.2.2.1 u2.2.2.2.2.2.2.2.2.2)) [13, 0, 1, 2, 3, 4, 5, 6, 7, 8, 9, 10, 11, 14, 12] (by decide) rfl
  generalize H1 = H at hP hS ⊢
  refine lv_iload_n hx hb dX10_park_31 rfl (lv_at hl 0 rfl) ?_
  refine lv_if_ne (tgt := 45) hx hb dX10_park_32 (by decide) (fun hc => ?_) (fun hc => ?_)
  · have hw := hw.1 hc
    refine lv_aload_n hx hb dX10_park_45 rfl (lv_at hl 1 rfl) ?_
    refine va_get (D := (dC, dI)) (ci := 10) (v := .ref a1) (C := RX10) (T := TX10) (N := 11) hx hb hts inX10_park_X10 hown hK hP 0 rfl rfl 1 (by decide) (hts (.fieldLink RX10 19 "LeadPark" "scene" "LLeadPark$Scene;") (List.mem_of_getElem? (i := 6) rfl)) (fun _ h9 => h9) rfl dX10_park_46 ?_
    refine va_getN (D := (dC, dI)) (ci := 6) (v := .ref a2) (C := RX6) (T := TX6) (N := 5) hx hb hts inX10_park_X6 hown hK hP 1 rfl rfl 0 (by decide) (va_Nw.use rfl (hN _ (List.mem_of_getElem? (i := 29) rfl))) (fun _ h9 => h9) rfl dX10_park_49 ?_
    refine va_getN (D := (dC, dI)) (ci := 1) (v := .int g2_texts) (C := RX1) (T := TX1) (N := 7) hx hb hts inX10_park_X1 hown hK hP 2 rfl rfl 6 (by decide) (va_Nw.use rfl (hN _ (List.mem_of_getElem? (i := 11) rfl))) (fun _ h9 => h9) rfl dX10_park_52 ?_
    refine lv_bipush (v := 16) hx hb dX10_park_55 (by decide) ?_
    refine lv_icmp_lt (tgt := 70) hx hb dX10_park_57 (by decide) (fun hc => ?_) (fun hc => ?_)
    · have hw := hw.1 hc
      refine lv_aload_n hx hb dX10_park_70 rfl (lv_at hl 1 rfl) ?_
      refine va_get (D := (dC, dI)) (ci := 10) (v := .ref a8) (C := RX10) (T := TX10) (N := 11) hx hb hts inX10_park_X10 hown hK hP 0 rfl rfl 3 (by decide) (hts (.fieldLink RX10 29 "LeadPark" "draftGround" "LLeadPark$Ground;") (List.mem_of_getElem? (i := 5) rfl)) (fun _ h9 => h9) rfl dX10_park_71 ?_
      refine lv_dup hx hb dX10_park_74 rfl ?_
      refine va_getN (D := (dC, dI)) (ci := 1) (v := .int u1.2.2.1) (C := RX1) (T := TX1) (N := 7) hx hb hts inX10_park_X1 hown hK hP 8 rfl rfl 6 (by decide) (va_Nw.use rfl (hN _ (List.mem_of_getElem? (i := 11) rfl))) (fun _ h9 => h9) rfl dX10_park_75 ?_
      refine lv_iconst (v := 1) hx hb dX10_park_78 (by decide) ?_
      refine lv_iadd hx hb dX10_park_79 ?_
      refine lv_topi (fun v5 ev5 => ?_)
      have hw := hw v5 ev5
      refine va_putN (D := (dC, dI)) (ci := 1) (v := .int v5) (ty := .int) (C := RX1) (T := TX1) (N := 7) hx hb hts inX10_park_X1 tyX1 tyX1_ok nmX1 hown hK hP hD hS 8 rfl rfl 6 (by decide) (va_Nw.use rfl (hN _ (List.mem_of_getElem? (i := 11) rfl))) (fun _ h9 => h9) rfl (by decide +kernel) rfl rfl (Nat.le_of_ble_eq_true rfl) dX10_park_80 (fun H locs hP hD hS => ?_)
      have hP : va_P (dC, dI) vwCl (ceX10_park cyI cyB cyJ cyZ a0 a1 a2 a3 a4 a5 a6 a7 a8 a9 a10 a11 a12 a13 a14 b0_kept b0_draftLaw b0_grid b0_pack b0_pieces b0_thinning b1_law b1_marks b7_steps b7_greatestAhead g0_imageKept g1_drawSeed g7_way g7_other g7_lead g7_man g7_dog g7_gone g7_greatest g7_remembered f14 u4.1 g2_ways g2_wallCount g2_texts f3 f4 f5 f6 g7_underWay u2.1 u2.2.1 v5 u2.2.2.2.1 u2.2.2.2.2.1 u2.2.2.1 u2.2.2.2.2.2.1 u4.2 u2.2.2.2.2.2.2.1 u2.2.2.2.2.2.2.2.1 u2.2.2.2.2.2.2.2.2.1 u2.2.2.2.2.2.2.2.2.2) H := hP
      have hD : va_D A (ceX10_park cyI cyB cyJ cyZ a0 a1 a2 a3 a4 a5 a6 a7 a8 a9 a10 a11 a12 a13 a14 b0_kept b0_draftLaw b0_grid b0_pack b0_pieces b0_thinning b1_law b1_marks b7_steps b7_greatestAhead g0_imageKept g1_drawSeed g7_way g7_other g7_lead g7_man g7_dog g7_gone g7_greatest g7_remembered f14 u4.1 g2_ways g2_wallCount g2_texts f3 f4 f5 f6 g7_underWay u2.1 u2.2.1 v5 u2.2.2.2.1 u2.2.2.2.2.1 u2.2.2.1 u2.2.2.2.2.2.1 u4.2 u2.2.2.2.2.2.2.1 u2.2.2.2.2.2.2.2.1 u2.2.2.2.2.2.2.2.2.1 u2.2.2.2.2.2.2.2.2.2) := hD
      refine lv_aload_n hx hb dX10_park_83 rfl (lv_at hl 1 rfl) ?_
      refine va_get (D := (dC, dI)) (ci := 10) (v := .ref a1) (C := RX10) (T := TX10) (N := 11) hx hb hts inX10_park_X10 hown hK hP 0 rfl rfl 1 (by decide) (hts (.fieldLink RX10 19 "LeadPark" "scene" "LLeadPark$Scene;") (List.mem_of_getElem? (i := 6) rfl)) (fun _ h9 => h9) rfl dX10_park_84 ?_
      refine va_getN (D := (dC, dI)) (ci := 6) (v := .ref a2) (C := RX6) (T := TX6) (N := 5) hx hb hts inX10_park_X6 hown hK hP 1 rfl rfl 0 (by decide) (va_Nw.use rfl (hN _ (List.mem_of_getElem? (i := 29) rfl))) (fun _ h9 => h9) rfl dX10_park_87 ?_
      refine lv_aload_n hx hb dX10_park_90 rfl (lv_at hl 1 rfl) ?_
      refine va_get (D := (dC, dI)) (ci := 10) (v := .ref a8) (C := RX10) (T := TX10) (N := 11) hx hb hts inX10_park_X10 hown hK hP 0 rfl rfl 3 (by decide) (hts (.fieldLink RX10 29 "LeadPark" "draftGround" "LLeadPark$Ground;") (List.mem_of_getElem? (i := 5) rfl)) (fun _ h9 => h9) rfl dX10_park_91 ?_
      have hPc := hP.sub (ws' := (ceX1_copyFrom cyI cyB cyJ cyZ a2 a3 a4 a5 a6 a8 a9 a10 a11 a12 u2.1 u2.2.1 v5 u2.2.2.2.1 u2.2.2.2.2.1 u2.2.2.1 u2.2.2.2.2.2.1 g2_ways g2_wallCount g2_texts f3 f4 f5 f6)) [2, 3, 4, 5, 6, 8, 9, 10, 11, 12] rfl
      have hDc := hD.sub (ws' := (ceX1_copyFrom cyI cyB cyJ cyZ a2 a3 a4 a5 a6 a8 a9 a10 a11 a12 u2.1 u2.2.1 v5 u2.2.2.2.1 u2.2.2.2.2.1 u2.2.2.1 u2.2.2.2.2.2.1 g2_ways g2_wallCount g2_texts f3 f4 f5 f6)) [2, 3, 4, 5, 6, 8, 9, 10, 11, 12] (by decide) rfl
      have hFc := va_free (wc := (ceX1_copyFrom cyI cyB cyJ cyZ a2 a3 a4 a5 a6 a8 a9 a10 a11 a12 u2.1 u2.2.1 v5 u2.2.2.2.1 u2.2.2.2.2.1 u2.2.2.1 u2.2.2.2.2.2.1 g2_ways g2_wallCount g2_texts f3 f4 f5 f6)) hD hS hA [2, 3, 4, 5, 6, 8, 9, 10, 11, 12] rfl
      refine va_callv (va_runV (As := [.ref a8]) (rest := []) ⟨hx, hb, hml, hown, hts⟩ (ctX1_copyFrom l dC dI cyI cyB cyJ cyZ _ a2 a3 a4 a5 a6 a8 a9 a10 a11 a12 u2.1 u2.2.1 v5 u2.2.2.2.1 u2.2.2.2.2.1 u2.2.2.1 u2.2.2.2.2.2.1 g2_ways g2_wallCount g2_texts f3 f4 f5 f6 _ hw) (cwV 1 hts gX10_park_X1_copyFrom rfl rfl rfl (by decide +kernel) ⟨Nat.le_of_ble_eq_true rfl, Nat.le_of_ble_eq_true rfl⟩) ⟨wPre_blind, va_recv hK hPc (ci := 1) (q0 := 0) rfl rfl, fun U hU hW => wPre_of hPc hK hDc hN hU hW⟩ rfl rfl hl.1 rfl (lv_room (Nat.le_of_ble_eq_true rfl)) dX10_park_94 ⟨(by decide), (by decide)⟩) hS (fun q _ h => hFc q h) hFc (fun u6 t H1 locs ht hvm hw hB hz1 hk1 hS => ?_)
      obtain ⟨hP1, hK1, hD1⟩ := hB
      rw [ht] at hP1
      obtain ⟨hP, hD⟩ := va_join (wr := pickW (ceX10_park cyI cyB cyJ cyZ a0 a1 a2 a3 a4 a5 a6 a7 a8 a9 a10 a11 a12 a13 a14 b0_kept b0_draftLaw b0_grid b0_pack b0_pieces b0_thinning b1_law b1_marks b7_steps b7_greatestAhead g0_imageKept g1_drawSeed g7_way g7_other g7_lead g7_man g7_dog g7_gone g7_greatest g7_remembered f14 u4.1 g2_ways g2_wallCount g2_texts f3 f4 f5 f6 g7_underWay u2.1 u2.2.1 v5 u2.2.2.2.1 u2.2.2.2.2.1 u2.2.2.1 u2.2.2.2.2.2.1 u4.2 u2.2.2.2.2.2.2.1 u2.2.2.2.2.2.2.2.1 u2.2.2.2.2.2.2.2.2.1 u2.2.2.2.2.2.2.2.2.2) [0, 1, 7, 13, 14]) (w1 := (ceX1_copyFrom cyI cyB cyJ cyZ a2 a3 a4 a5 a6 a8 a9 a10 a11 a12 u2.1 u2.2.1 v5 u2.2.2.2.1 u2.2.2.2.2.1 u2.2.2.1 u2.2.2.2.2.2.1 u6.1 u6.2.1 u6.2.2.1 u6.2.2.2.1 u6.2.2.2.2.1 u6.2.2.2.2.2.1 u6.2.2.2.2.2.2)) hP hD [2, 3, 4, 5, 6, 8, 9, 10, 11, 12] [0, 1, 7, 13, 14] rfl rfl (by decide) (by decide) hk1 hFc hP1 hD1
      have hP := hP.sub (ws' := (ceX10_park cyI cyB cyJ cyZ a0 a1 a2 a3 a4 a5 a6 a7 a8 a9 a10 a11 a12 a13 a14 b0_kept b0_draftLaw b0_grid b0_pack b0_pieces b0_thinning b1_law b1_marks b7_steps b7_greatestAhead g0_imageKept g1_drawSeed g7_way g7_other g7_lead g7_man g7_dog g7_gone g7_greatest g7_remembered f14 u4.1 u6.1 u6.2.1 u6.2.2.1 u6.2.2.2.1 u6.2.2.2.2.1 u6.2.2.2.2.2.1 u6.2.2.2.2.2.2 g7_underWay u2.1 u2.2.1 v5 u2.2.2.2.1 u2.2.2.2.2.1 u2.2.2.1 u2.2.2.2.2.2.1 u4.2 u2.2.2.2.2.2.2.1 u2.2.2.2.2.2.2.2.1 u2.2.2.2.2.2.2.2.2.1 u2.2.2.2.2.2.2.2.2.2)) [0, 1, 5, 6, 7, 8, 9, 2, 10, 11, 12, 13, 14, 3, 4] rfl
      have hD := hD.sub (ws' := (ceX10_park cyI cyB cyJ cyZ a0 a1 a2 a3 a4 a5 a6 a7 a8 a9 a10 a11 a12 a13 a14 b0_kept b0_draftLaw b0_grid b0_pack b0_pieces b0_thinning b1_law b1_marks b7_steps b7_greatestAhead g0_imageKept g1_drawSeed g7_way g7_other g7_lead g7_man g7_dog g7_gone g7_greatest g7_remembered f14 u4.1 u6.1 u6.2.1 u6.2.2.1 u6.2.2.2.1 u6.2.2.2.2.1 u6.2.2.2.2.2.1 u6.2.2.2.2.2.2 g7_underWay u2.1 u2.2.1 v5 u2.2.2.2.1 u2.2.2.2.2.1 u2.2.2.1 u2.2.2.2.2.2.1 u4.2 u2.2.2.2.2.2.2.1 u2.2.2.2.2.2.2.2.1 u2.2.2.2.2.2.2.2.2.1 u2.2.2.2.2.2.2.2.2.2)) [0, 1, 5, 6, 7, 8, 9, 2, 10, 11, 12, 13, 14, 3, 4] (by decide) rfl
      generalize H1 = H at hP hS ⊢
      refine lv_aload_n hx hb dX10_park_97 rfl (lv_at hl 1 rfl) ?_
      refine va_get (D := (dC, dI)) (ci := 10) (v := .ref a1) (C := RX10) (T := TX10) (N := 11) hx hb hts inX10_park_X10 hown hK hP 0 rfl rfl 1 (by decide) (hts (.fieldLink RX10 19 "LeadPark" "scene" "LLeadPark$Scene;") (List.mem_of_getElem? (i := 6) rfl)) (fun _ h9 => h9) rfl dX10_park_98 ?_
      refine va_getN (D := (dC, dI)) (ci := 6) (v := .ref a7) (C := RX6) (T := TX6) (N := 5) hx hb hts inX10_park_X6 hown hK hP 1 rfl rfl 3 (by decide) (va_Nw.use rfl (hN _ (List.mem_of_getElem? (i := 32) rfl))) (fun _ h9 => h9) rfl dX10_park_101 ?_
      refine lv_iconst (v := 0) hx hb dX10_park_104 (by decide) ?_
      refine va_putN (D := (dC, dI)) (ci := 7) (v := .int 0) (ty := .boolean) (C := RX7) (T := TX7) (N := 11) hx hb hts inX10_park_X7 tyX7 tyX7_ok nmX7 hown hK hP hD hS 7 rfl rfl 0 (by decide) (va_Nw.use rfl (hN _ (List.mem_of_getElem? (i := 14) rfl))) (fun _ h9 => h9) rfl (by decide +kernel) rfl rfl (Nat.le_of_ble_eq_true rfl) dX10_park_105 (fun H locs hP hD hS => ?_)
      have hP : va_P (dC, dI) vwCl (ceX10_park cyI cyB cyJ cyZ a0 a1 a2 a3 a4 a5 a6 a7 a8 a9 a10 a11 a12 a13 a14 b0_kept b0_draftLaw b0_grid b0_pack b0_pieces b0_thinning b1_law b1_marks b7_steps b7_greatestAhead g0_imageKept g1_drawSeed g7_way g7_other g7_lead g7_man g7_dog g7_gone g7_greatest g7_remembered f14 u4.1 u6.1 u6.2.1 u6.2.2.1 u6.2.2.2.1 u6.2.2.2.2.1 u6.2.2.2.2.2.1 u6.2.2.2.2.2.2 0 u2.1 u2.2.1 v5 u2.2.2.2.1 u2.2.2.2.2.1 u2.2.2.1 u2.2.2.2.2.2.1 u4.2 u2.2.2.2.2.2.2.1 u2.2.2.2.2.2.2.2.1 u2.2.2.2.2.2.2.2.2.1 u2.2.2.2.2.2.2.2.2.2) H := hP
      have hD : va_D A (ceX10_park cyI cyB cyJ cyZ a0 a1 a2 a3 a4 a5 a6 a7 a8 a9 a10 a11 a12 a13 a14 b0_kept b0_draftLaw b0_grid b0_pack b0_pieces b0_thinning b1_law b1_marks b7_steps b7_greatestAhead g0_imageKept g1_drawSeed g7_way g7_other g7_lead g7_man g7_dog g7_gone g7_greatest g7_remembered f14 u4.1 u6.1 u6.2.1 u6.2.2.1 u6.2.2.2.1 u6.2.2.2.2.1 u6.2.2.2.2.2.1 u6.2.2.2.2.2.2 0 u2.1 u2.2.1 v5 u2.2.2.2.1 u2.2.2.2.2.1 u2.2.2.1 u2.2.2.2.2.2.1 u4.2 u2.2.2.2.2.2.2.1 u2.2.2.2.2.2.2.2.1 u2.2.2.2.2.2.2.2.2.1 u2.2.2.2.2.2.2.2.2.2) := hD
      refine lv_aload_n hx hb dX10_park_108 rfl (lv_at hl 1 rfl) ?_
      refine va_get (D := (dC, dI)) (ci := 10) (v := .ref a1) (C := RX10) (T := TX10) (N := 11) hx hb hts inX10_park_X10 hown hK hP 0 rfl rfl 1 (by decide) (hts (.fieldLink RX10 19 "LeadPark" "scene" "LLeadPark$Scene;") (List.mem_of_getElem? (i := 6) rfl)) (fun _ h9 => h9) rfl dX10_park_109 ?_
      refine va_getN (D := (dC, dI)) (ci := 6) (v := .ref a2) (C := RX6) (T := TX6) (N := 5) hx hb hts inX10_park_X6 hown hK hP 1 rfl rfl 0 (by decide) (va_Nw.use rfl (hN _ (List.mem_of_getElem? (i := 29) rfl))) (fun _ h9 => h9) rfl dX10_park_112 ?_
      refine va_getN (D := (dC, dI)) (ci := 1) (v := .int u6.2.2.1) (C := RX1) (T := TX1) (N := 7) hx hb hts inX10_park_X1 hown hK hP 2 rfl rfl 6 (by decide) (va_Nw.use rfl (hN _ (List.mem_of_getElem? (i := 11) rfl))) (fun _ h9 => h9) rfl dX10_park_115 ?_
      rw [hQ]
      refine vx_ret ?_
      refine W.widen (k := 1) (n := 6) (by decide) (by decide) ?_
      exact W.iret (v := u6.2.2.1) hx hb hr (fun t ht hW => ⟨⟨u6.2.2.1, (u4.1, u6.1, u6.2.1, u6.2.2.1, u6.2.2.2.1, u6.2.2.2.2.1, u6.2.2.2.2.2.1, u6.2.2.2.2.2.2, 0, u2.1, u2.2.1, v5, u2.2.2.2.1, u2.2.2.2.2.1, u2.2.2.1, u2.2.2.2.2.2.1, u4.2, u2.2.2.2.2.2.2.1, u2.2.2.2.2.2.2.2.1, u2.2.2.2.2.2.2.2.2.1, u2.2.2.2.2.2.2.2.2.2), rfl, hw, by rw [ht]; exact hP, va_K.moved hW.alike hK, hD⟩, hS.F ht⟩) hS.2.2 dX10_park_118
    · have hw := hw.2 hc
      rw [hQ]
      exact vx_throwS (cls := "java/lang/UnsupportedOperationException") (names := ["java/lang/RuntimeException", "java/lang/Exception"]) (mc := 1) (ms := 6) hx hb hl0 hown (by decide +kernel) (by decide +kernel) (hts (.classLink RX10 112 "java/lang/UnsupportedOperationException") (List.mem_of_getElem? (i := 3) rfl)) (hts (.initialized "java/lang/UnsupportedOperationException") (List.mem_of_getElem? (i := 4) rfl)) (hXs.1.2 31 _ rfl).1 (hatX10_park_116 hts hXs.2.2.2) hgd_116 hXs.2.1 hXs.2.2.1 hS (hl.1.trans hml.symm) dX10_park_60 dX10_park_63 dX10_park_64 dX10_park_66 dX10_park_69 (fun x h => (hT x h).elim) (by decide) (by decide) (by decide) (by decide) hlocks (fun t hvm hz hk => thr_X (u4.1, g2_ways, g2_wallCount, g2_texts, f3, f4, f5, f6, g7_underWay, u2.1, u2.2.1, u1.2.2.1, u2.2.2.2.1, u2.2.2.2.2.1, u2.2.2.1, u2.2.2.2.2.2.1, u4.2, u2.2.2.2.2.2.2.1, u2.2.2.2.2.2.2.2.1, u2.2.2.2.2.2.2.2.2.1, u2.2.2.2.2.2.2.2.2.2) hw hP hK hD hS hvm hz hk) hS.2.2 (by decide) (by decide)
  · have hw := hw.2 hc
    rw [hQ]
    exact vx_throwS (cls := "java/lang/IllegalArgumentException") (names := ["java/lang/RuntimeException", "java/lang/Exception"]) (mc := 1) (ms := 6) hx hb hl0 hown (by decide +kernel) (by decide +kernel) (hts (.classLink RX10 102 "java/lang/IllegalArgumentException") (List.mem_of_getElem? (i := 1) rfl)) (hts (.initialized "java/lang/IllegalArgumentException") (List.mem_of_getElem? (i := 2) rfl)) (hXs.1.2 30 _ rfl).1 (hatX10_park_106 hts hXs.2.2.2) hgd_106 hXs.2.1 hXs.2.2.1 hS (hl.1.trans hml.symm) dX10_park_35 dX10_park_38 dX10_park_39 dX10_park_41 dX10_park_44 (fun x h => (hT x h).elim) (by decide) (by decide) (by decide) (by decide) hlocks (fun t hvm hz hk => thr_X (u4.1, g2_ways, g2_wallCount, g2_texts, f3, f4, f5, f6, g7_underWay, u2.1, u2.2.1, u1.2.2.1, u2.2.2.2.1, u2.2.2.2.2.1, u2.2.2.1, u2.2.2.2.2.2.1, u4.2, u2.2.2.2.2.2.2.1, u2.2.2.2.2.2.2.2.1, u2.2.2.2.2.2.2.2.2.1, u2.2.2.2.2.2.2.2.2.2) hw hP hK hD hS hvm hz hk) hS.2.2 (by decide) (by decide)
/-! LeadPark.law ()I -/
abbrev ceX10_law (cyI cyB cyJ cyZ : ClassId) (a0 a1 a2 a3 a4 a5 a6 a7 a8 b0_kept b0_draftGround b0_grid b0_pack b0_pieces b0_thinning b1_seen b5_ground b5_marks b6_seen b8_steps b8_greatestAhead : Nat) (g0_imageKept : Int32) (g5_drawSeed : Int32) (g8_way : Int32) (g8_other : Int32) (g8_lead : Int32) (g8_man : Int32) (g8_dog : Int32) (g8_gone : Int32) (g8_greatest : Int32) (g8_remembered : Int32) (f4 : Nat → Int32) (g0_wrongByte : Int32) (g1_size : Int32) (g1_lines : Int32) (f2 : Nat → Int32) (g3_size : Int32) (g3_here : Int32) (g3_behind : Int32) (g3_digits : Int32) (g3_value : Int32) (g6_size : Int32) (g6_lines : Int32) (f7 : Nat → Int32) (g8_underWay : Int32) : va_W := [(a0, .inr (10, [.ref a3, .ref a5, .ref b0_kept, .ref b0_draftGround, .ref a1, .ref b0_grid, .ref b0_pack, .ref b0_pieces, .ref b0_thinning, .int g0_imageKept, .int g0_wrongByte])), (a1, .inr (2, [.ref a2, .ref b1_seen, .int g1_size, .int g1_lines])), (a2, .inl (cyI, 400, .inl f2)), (a3, .inr (8, [.ref a4, .int g3_size, .int g3_here, .int g3_behind, .int g3_digits, .int g3_value])), (a4, .inl (cyB, 400, .inl f4)), (a5, .inr (6, [.ref b5_ground, .ref a6, .ref b5_marks, .ref a8, .int g5_drawSeed])), (a6, .inr (2, [.ref a7, .ref b6_seen, .int g6_size, .int g6_lines])), (a7, .inl (cyI, 400, .inl f7)), (a8, .inr (7, [.int g8_underWay, .int g8_way, .int g8_other, .int g8_lead, .int g8_man, .int g8_dog, .int g8_gone, .int g8_greatest, .int g8_remembered, .ref b8_steps, .ref b8_greatestAhead]))]

theorem inX10_law_X10 : ∀ w ∈ wsX100, w ∈ wsX10_law := fun _ h => List.mem_cons_of_mem _ (List.mem_append_left _ (List.mem_append_left _ (List.mem_append_left _ (List.mem_append_left _ (List.mem_append_left _ (List.mem_append_right _ h))))))
theorem inX10_law_X2 : ∀ w ∈ wsX20, w ∈ wsX10_law := fun _ h => List.mem_cons_of_mem _ (List.mem_append_left _ (List.mem_append_left _ (List.mem_append_right _ h)))
theorem inX10_law_X6 : ∀ w ∈ wsX60, w ∈ wsX10_law := fun _ h => List.mem_cons_of_mem _ (List.mem_append_left _ (List.mem_append_left _ (List.mem_append_left _ (List.mem_append_left _ (List.mem_append_right _ h)))))
theorem inX10_law_X7 : ∀ w ∈ wsX70, w ∈ wsX10_law := fun _ h => List.mem_cons_of_mem _ (List.mem_append_left _ (List.mem_append_left _ (List.mem_append_left _ (List.mem_append_right _ h))))
theorem hatX10_law_106 {args : Array Value} {s : State} (hts : ∀ w ∈ wsX10_law, w.before args s = true) (hB : ∀ w ∈ txBad, w.before #[] s = true) : ∀ w ∈ vx_atS RX10 106 "java/lang/IllegalArgumentException" ["java/lang/RuntimeException", "java/lang/Exception"], w.before args s = true := vx_hat (B := txBad) (fun w h => hts w (List.mem_cons_of_mem _ (List.mem_append_right _ h))) hbd_106 (fun w h => va_Nw.use (List.all_eq_true.mp txBad_tab w h) (hB w h))
abbrev rmX10_law : Room := { frames := 62, cells := 1, slots := 6, locals := 4047 }
set_option maxRecDepth 100000 in
set_option maxHeartbeats 4000000 in
theorem ctX10_law (l : Launch) (hl0 : l.stackTraces = false) (dC : Nat → ClassId) (dI : Nat → Nat → Nat) (cyI cyB cyJ cyZ : ClassId) (sz : Nat) (a0 a1 a2 a3 a4 a5 a6 a7 a8 b0_kept b0_draftGround b0_grid b0_pack b0_pieces b0_thinning b1_seen b5_ground b5_marks b6_seen b8_steps b8_greatestAhead : Nat) (g0_imageKept : Int32) (g5_drawSeed : Int32) (g8_way : Int32) (g8_other : Int32) (g8_lead : Int32) (g8_man : Int32) (g8_dog : Int32) (g8_gone : Int32) (g8_greatest : Int32) (g8_remembered : Int32) (f4 : Nat → Int32) (g0_wrongByte : Int32) (g1_size : Int32) (g1_lines : Int32) (f2 : Nat → Int32) (g3_size : Int32) (g3_here : Int32) (g3_behind : Int32) (g3_digits : Int32) (g3_value : Int32) (g6_size : Int32) (g6_lines : Int32) (f7 : Nat → Int32) (g8_underWay : Int32) (post : Int32 → (Int32 × Int32 × Int32 × (Nat → Int32) × Int32 × Int32 × Int32 × Int32 × Int32 × Int32 × Int32 × (Nat → Int32) × Int32) → Prop) (postX : String → (Int32 × Int32 × Int32 × (Nat → Int32) × Int32 × Int32 × Int32 × Int32 × Int32 × Int32 × Int32 × (Nat → Int32) × Int32) → Prop) (adS : Nat → Nat) (hw : wpX10_law post postX f4 g0_wrongByte g1_size g1_lines f2 g3_size g3_here g3_behind g3_digits g3_value g6_size g6_lines f7 g8_underWay ) : vx_Met l yX10_law wsX10_law rmX10_law (va_Pc [.ref a0] (wPreX dC dI cyI cyB cyJ cyZ sz (ceX10_law cyI cyB cyJ cyZ a0 a1 a2 a3 a4 a5 a6 a7 a8 b0_kept b0_draftGround b0_grid b0_pack b0_pieces b0_thinning b1_seen b5_ground b5_marks b6_seen b8_steps b8_greatestAhead g0_imageKept g5_drawSeed g8_way g8_other g8_lead g8_man g8_dog g8_gone g8_greatest g8_remembered f4 g0_wrongByte g1_size g1_lines f2 g3_size g3_here g3_behind g3_digits g3_value g6_size g6_lines f7 g8_underWay) (txT adS))) (va_Qi post (fun u : Int32 × Int32 × Int32 × (Nat → Int32) × Int32 × Int32 × Int32 × Int32 × Int32 × Int32 × Int32 × (Nat → Int32) × Int32 => wAt dC dI cyI cyB cyJ cyZ (va_A (ceX10_law cyI cyB cyJ cyZ a0 a1 a2 a3 a4 a5 a6 a7 a8 b0_kept b0_draftGround b0_grid b0_pack b0_pieces b0_thinning b1_seen b5_ground b5_marks b6_seen b8_steps b8_greatestAhead g0_imageKept g5_drawSeed g8_way g8_other g8_lead g8_man g8_dog g8_gone g8_greatest g8_remembered f4 g0_wrongByte g1_size g1_lines f2 g3_size g3_here g3_behind g3_digits g3_value g6_size g6_lines f7 g8_underWay) sz) (ceX10_law cyI cyB cyJ cyZ a0 a1 a2 a3 a4 a5 a6 a7 a8 b0_kept b0_draftGround b0_grid b0_pack b0_pieces b0_thinning b1_seen b5_ground b5_marks b6_seen b8_steps b8_greatestAhead g0_imageKept g5_drawSeed g8_way g8_other g8_lead g8_man g8_dog g8_gone g8_greatest g8_remembered f4 u.1 u.2.1 u.2.2.1 u.2.2.2.1 u.2.2.2.2.1 u.2.2.2.2.2.1 u.2.2.2.2.2.2.1 u.2.2.2.2.2.2.2.1 u.2.2.2.2.2.2.2.2.1 u.2.2.2.2.2.2.2.2.2.1 u.2.2.2.2.2.2.2.2.2.2.1 u.2.2.2.2.2.2.2.2.2.2.2.1 u.2.2.2.2.2.2.2.2.2.2.2.2)) (va_A (ceX10_law cyI cyB cyJ cyZ a0 a1 a2 a3 a4 a5 a6 a7 a8 b0_kept b0_draftGround b0_grid b0_pack b0_pieces b0_thinning b1_seen b5_ground b5_marks b6_seen b8_steps b8_greatestAhead g0_imageKept g5_drawSeed g8_way g8_other g8_lead g8_man g8_dog g8_gone g8_greatest g8_remembered f4 g0_wrongByte g1_size g1_lines f2 g3_size g3_here g3_behind g3_digits g3_value g6_size g6_lines f7 g8_underWay) sz)) (vx_X (fun _ : Int32 × Int32 × Int32 × (Nat → Int32) × Int32 × Int32 × Int32 × Int32 × Int32 × Int32 × Int32 × (Nat → Int32) × Int32 => True) (fun E (u : Int32 × Int32 × Int32 × (Nat → Int32) × Int32 × Int32 × Int32 × Int32 × Int32 × Int32 × Int32 × (Nat → Int32) × Int32) t => postX E u ∧ wAt dC dI cyI cyB cyJ cyZ (va_A (ceX10_law cyI cyB cyJ cyZ a0 a1 a2 a3 a4 a5 a6 a7 a8 b0_kept b0_draftGround b0_grid b0_pack b0_pieces b0_thinning b1_seen b5_ground b5_marks b6_seen b8_steps b8_greatestAhead g0_imageKept g5_drawSeed g8_way g8_other g8_lead g8_man g8_dog g8_gone g8_greatest g8_remembered f4 g0_wrongByte g1_size g1_lines f2 g3_size g3_here g3_behind g3_digits g3_value g6_size g6_lines f7 g8_underWay) sz) (ceX10_law cyI cyB cyJ cyZ a0 a1 a2 a3 a4 a5 a6 a7 a8 b0_kept b0_draftGround b0_grid b0_pack b0_pieces b0_thinning b1_seen b5_ground b5_marks b6_seen b8_steps b8_greatestAhead g0_imageKept g5_drawSeed g8_way g8_other g8_lead g8_man g8_dog g8_gone g8_greatest g8_remembered f4 u.1 u.2.1 u.2.2.1 u.2.2.2.1 u.2.2.2.2.1 u.2.2.2.2.2.1 u.2.2.2.2.2.2.1 u.2.2.2.2.2.2.2.1 u.2.2.2.2.2.2.2.2.1 u.2.2.2.2.2.2.2.2.2.1 u.2.2.2.2.2.2.2.2.2.2.1 u.2.2.2.2.2.2.2.2.2.2.2.1 u.2.2.2.2.2.2.2.2.2.2.2.2) t) (va_A (ceX10_law cyI cyB cyJ cyZ a0 a1 a2 a3 a4 a5 a6 a7 a8 b0_kept b0_draftGround b0_grid b0_pack b0_pieces b0_thinning b1_seen b5_ground b5_marks b6_seen b8_steps b8_greatestAhead g0_imageKept g5_drawSeed g8_way g8_other g8_lead g8_man g8_dog g8_gone g8_greatest g8_remembered f4 g0_wrongByte g1_size g1_lines f2 g3_size g3_here g3_behind g3_digits g3_value g6_size g6_lines f7 g8_underWay) sz)) 1 6 (va_A (ceX10_law cyI cyB cyJ cyZ a0 a1 a2 a3 a4 a5 a6 a7 a8 b0_kept b0_draftGround b0_grid b0_pack b0_pieces b0_thinning b1_seen b5_ground b5_marks b6_seen b8_steps b8_greatestAhead g0_imageKept g5_drawSeed g8_way g8_other g8_lead g8_man g8_dog g8_gone g8_greatest g8_remembered f4 g0_wrongByte g1_size g1_lines f2 g3_size g3_here g3_behind g3_digits g3_value g6_size g6_lines f7 g8_underWay) sz) := by
  refine vx_ofW (cc := cX10_law) (maxL := 2) (ret := (some .int)) (by decide) rfl ?_
  intro p e s m args below meth c s₁ B hml hT hv
  obtain ⟨rfl, ⟨hsz, hP, hK, hD0, hN⟩, hXs⟩ := hv
  have hx := B.exec
  have hb := B.bytes
  have hr := B.returns
  have hts := atoms_spec (ws := wsX10_law) B.pre
  have hown : s.vm.findClass RX10 = some m.cls := findClass_of_methodNamed B.named
  have hlocks := B.notSynchronized
  subst hsz
  have hD := hD0.self (sz := s.heap.size)
  generalize hAe : va_A (ceX10_law cyI cyB cyJ cyZ a0 a1 a2 a3 a4 a5 a6 a7 a8 b0_kept b0_draftGround b0_grid b0_pack b0_pieces b0_thinning b1_seen b5_ground b5_marks b6_seen b8_steps b8_greatestAhead g0_imageKept g5_drawSeed g8_way g8_other g8_lead g8_man g8_dog g8_gone g8_greatest g8_remembered f4 g0_wrongByte g1_size g1_lines f2 g3_size g3_here g3_behind g3_digits g3_value g6_size g6_lines f7 g8_underWay) s.heap.size = A at hD hXs ⊢
  have hA : ∀ q : Nat, s.heap.size ≤ q → A q := fun q h => by rw [← hAe]; exact Or.inr h
  have hS : va_S A s.heap s.heap [] := va_S.rf
  have C0 : cxM p s m meth c _ wsX10_law RX10 cX10_law 2 (some .int) := ⟨hx, hb, hr, hml, hown, hts, hlocks⟩
  have hl := lv_entry ([.ref a0]) (n := 2) (Nat.le_of_ble_eq_true rfl)
  rw [lg_entry_eq]
  generalize (lg_sl ([.ref a0]) ++ List.replicate (2 - (lg_sl ([.ref a0])).length) Slot.unset).toArray = ls at hl ⊢
  have hl : lv_has ls 2 [(0, .ref a0)] := hl
  show W p l e rmX10_law s m _ below meth c _ _ _ _ _ _
  refine wq (fun Q hQ => ?_)
  refine lv_aload_n hx hb dX10_law_0 rfl (lv_at hl 0 rfl) ?_
  refine va_get (D := (dC, dI)) (ci := 10) (v := .ref a1) (C := RX10) (T := TX10) (N := 11) hx hb hts inX10_law_X10 hown hK hP 0 rfl rfl 4 (by decide) (hts (.fieldLink RX10 36 "LeadPark" "draftLaw" "LLeadPark$Law;") (List.mem_of_getElem? (i := 3) rfl)) (fun _ h9 => h9) rfl dX10_law_1 ?_
  refine lv_aload_n hx hb dX10_law_4 rfl (lv_at hl 0 rfl) ?_
  refine va_get (D := (dC, dI)) (ci := 10) (v := .ref a3) (C := RX10) (T := TX10) (N := 11) hx hb hts inX10_law_X10 hown hK hP 0 rfl rfl 0 (by decide) (hts (.fieldLink RX10 12 "LeadPark" "tape" "LLeadPark$Tape;") (List.mem_of_getElem? (i := 4) rfl)) (fun _ h9 => h9) rfl dX10_law_5 ?_
  have hPc := hP.sub (ws' := (ceX2_readText cyI cyB cyJ cyZ a1 a2 a3 a4 b1_seen g3_size f4 g1_size g1_lines f2 g3_here g3_behind g3_digits g3_value)) [1, 2, 3, 4] rfl
  have hDc := hD.sub (ws' := (ceX2_readText cyI cyB cyJ cyZ a1 a2 a3 a4 b1_seen g3_size f4 g1_size g1_lines f2 g3_here g3_behind g3_digits g3_value)) [1, 2, 3, 4] (by decide) rfl
  have hFc := va_free (wc := (ceX2_readText cyI cyB cyJ cyZ a1 a2 a3 a4 b1_seen g3_size f4 g1_size g1_lines f2 g3_here g3_behind g3_digits g3_value)) hD hS hA [1, 2, 3, 4] rfl
  refine va_calli (va_runV (As := [.ref a3]) (rest := []) ⟨hx, hb, hml, hown, hts⟩ (ctX2_readText l dC dI cyI cyB cyJ cyZ _ a1 a2 a3 a4 b1_seen g3_size f4 g1_size g1_lines f2 g3_here g3_behind g3_digits g3_value _ adS hw) (cwV 1 hts gX10_law_X2_readText rfl rfl rfl (by decide +kernel) ⟨Nat.le_of_ble_eq_true rfl, Nat.le_of_ble_eq_true rfl⟩) ⟨wPreX_blind (xOk_txA adS), va_recv hK hPc (ci := 2) (q0 := 0) rfl rfl, fun U hU hW => wPreX_of (xOk_txA adS) hPc hK hDc hN hXs.1 hS hFc hU hW⟩ rfl rfl hl.1 rfl (lv_room (Nat.le_of_ble_eq_true rfl)) dX10_law_8 ⟨(by decide), (by decide)⟩) hS (fun q _ h => hFc q h) hFc (fun r2 u1 t H1 locs ht hvm hw hB hz1 hk1 hS => ?_)
  obtain ⟨hP1, hK1, hD1⟩ := hB
  rw [ht] at hP1
  obtain ⟨hP, hD⟩ := va_join (wr := pickW (ceX10_law cyI cyB cyJ cyZ a0 a1 a2 a3 a4 a5 a6 a7 a8 b0_kept b0_draftGround b0_grid b0_pack b0_pieces b0_thinning b1_seen b5_ground b5_marks b6_seen b8_steps b8_greatestAhead g0_imageKept g5_drawSeed g8_way g8_other g8_lead g8_man g8_dog g8_gone g8_greatest g8_remembered f4 g0_wrongByte g1_size g1_lines f2 g3_size g3_here g3_behind g3_digits g3_value g6_size g6_lines f7 g8_underWay) [0, 5, 6, 7, 8]) (w1 := (ceX2_readText cyI cyB cyJ cyZ a1 a2 a3 a4 b1_seen g3_size f4 u1.1 u1.2.1 u1.2.2.1 u1.2.2.2.1 u1.2.2.2.2.1 u1.2.2.2.2.2.1 u1.2.2.2.2.2.2)) hP hD [1, 2, 3, 4] [0, 5, 6, 7, 8] rfl rfl (by decide) (by decide) hk1 hFc hP1 hD1
  have hP := hP.sub (ws' := (ceX10_law cyI cyB cyJ cyZ a0 a1 a2 a3 a4 a5 a6 a7 a8 b0_kept b0_draftGround b0_grid b0_pack b0_pieces b0_thinning b1_seen b5_ground b5_marks b6_seen b8_steps b8_greatestAhead g0_imageKept g5_drawSeed g8_way g8_other g8_lead g8_man g8_dog g8_gone g8_greatest g8_remembered f4 g0_wrongByte u1.1 u1.2.1 u1.2.2.1 g3_size u1.2.2.2.1 u1.2.2.2.2.1 u1.2.2.2.2.2.1 u1.2.2.2.2.2.2 g6_size g6_lines f7 g8_underWay)) [0, 5, 6, 7, 8, 1, 2, 3, 4] rfl
  have hD := hD.sub (ws' := (ceX10_law cyI cyB cyJ cyZ a0 a1 a2 a3 a4 a5 a6 a7 a8 b0_kept b0_draftGround b0_grid b0_pack b0_pieces b0_thinning b1_seen b5_ground b5_marks b6_seen b8_steps b8_greatestAhead g0_imageKept g5_drawSeed g8_way g8_other g8_lead g8_man g8_dog g8_gone g8_greatest g8_remembered f4 g0_wrongByte u1.1 u1.2.1 u1.2.2.1 g3_size u1.2.2.2.1 u1.2.2.2.2.1 u1.2.2.2.2.2.1 u1.2.2.2.2.2.2 g6_size g6_lines f7 g8_underWay)) [0, 5, 6, 7, 8, 1, 2, 3, 4] (by decide) rfl
  generalize H1 = H at hP hS ⊢
  refine lv_istore_n (lv' := [(1, .int r2), (0, .ref a0)]) hx hb dX10_law_11 rfl hl (by decide) rfl (fun ls hl => ?_)
  refine lv_aload_n hx hb dX10_law_12 rfl (lv_at hl 1 rfl) ?_
  refine lv_iload_n hx hb dX10_law_13 rfl (lv_at hl 0 rfl) ?_
  have hPc := hP.sub (ws' := (ceX10_useUpText cyI cyB cyJ cyZ a0 a3 a5 b0_kept b0_draftGround a1 b0_grid b0_pack b0_pieces b0_thinning a4 g0_imageKept u1.2.2.2.2.1 u1.2.2.2.2.2.1 u1.2.2.2.2.2.2 u1.2.2.2.1 g0_wrongByte g3_size)) [0, 3] rfl
  have hDc := hD.sub (ws' := (ceX10_useUpText cyI cyB cyJ cyZ a0 a3 a5 b0_kept b0_draftGround a1 b0_grid b0_pack b0_pieces b0_thinning a4 g0_imageKept u1.2.2.2.2.1 u1.2.2.2.2.2.1 u1.2.2.2.2.2.2 u1.2.2.2.1 g0_wrongByte g3_size)) [0, 3] (by decide) rfl
  have hFc := va_free (wc := (ceX10_useUpText cyI cyB cyJ cyZ a0 a3 a5 b0_kept b0_draftGround a1 b0_grid b0_pack b0_pieces b0_thinning a4 g0_imageKept u1.2.2.2.2.1 u1.2.2.2.2.2.1 u1.2.2.2.2.2.2 u1.2.2.2.1 g0_wrongByte g3_size)) hD hS hA [0, 3] rfl
  refine va_callv (va_runV (As := [.int r2]) (rest := []) ⟨hx, hb, hml, hown, hts⟩ (ctX10_useUpText l dC dI cyI cyB cyJ cyZ _ a0 a3 a5 b0_kept b0_draftGround a1 b0_grid b0_pack b0_pieces b0_thinning a4 g0_imageKept u1.2.2.2.2.1 u1.2.2.2.2.2.1 u1.2.2.2.2.2.2 u1.2.2.2.1 g0_wrongByte g3_size r2 _ hw) (cwV 1 hts gX10_law_X10_useUpText rfl rfl rfl (by decide +kernel) ⟨Nat.le_of_ble_eq_true rfl, Nat.le_of_ble_eq_true rfl⟩) ⟨wPre_blind, va_recv hK hPc (ci := 10) (q0 := 0) rfl rfl, fun U hU hW => wPre_of hPc hK hDc hN hU hW⟩ rfl rfl hl.1 rfl (lv_room (Nat.le_of_ble_eq_true rfl)) dX10_law_14 ⟨(by decide), (by decide)⟩) hS (fun q _ h => hFc q h) hFc (fun u3 t H1 locs ht hvm hw hB hz1 hk1 hS => ?_)
  obtain ⟨hP1, hK1, hD1⟩ := hB
  rw [ht] at hP1
  obtain ⟨hP, hD⟩ := va_join (wr := pickW (ceX10_law cyI cyB cyJ cyZ a0 a1 a2 a3 a4 a5 a6 a7 a8 b0_kept b0_draftGround b0_grid b0_pack b0_pieces b0_thinning b1_seen b5_ground b5_marks b6_seen b8_steps b8_greatestAhead g0_imageKept g5_drawSeed g8_way g8_other g8_lead g8_man g8_dog g8_gone g8_greatest g8_remembered f4 g0_wrongByte u1.1 u1.2.1 u1.2.2.1 g3_size u1.2.2.2.1 u1.2.2.2.2.1 u1.2.2.2.2.2.1 u1.2.2.2.2.2.2 g6_size g6_lines f7 g8_underWay) [1, 2, 4, 5, 6, 7, 8]) (w1 := (ceX10_useUpText cyI cyB cyJ cyZ a0 a3 a5 b0_kept b0_draftGround a1 b0_grid b0_pack b0_pieces b0_thinning a4 g0_imageKept u1.2.2.2.2.1 u1.2.2.2.2.2.1 u1.2.2.2.2.2.2 u1.2.2.2.1 u3.1 u3.2)) hP hD [0, 3] [1, 2, 4, 5, 6, 7, 8] rfl rfl (by decide) (by decide) hk1 hFc hP1 hD1
  have hP := hP.sub (ws' := (ceX10_law cyI cyB cyJ cyZ a0 a1 a2 a3 a4 a5 a6 a7 a8 b0_kept b0_draftGround b0_grid b0_pack b0_pieces b0_thinning b1_seen b5_ground b5_marks b6_seen b8_steps b8_greatestAhead g0_imageKept g5_drawSeed g8_way g8_other g8_lead g8_man g8_dog g8_gone g8_greatest g8_remembered f4 u3.1 u1.1 u1.2.1 u1.2.2.1 u3.2 u1.2.2.2.1 u1.2.2.2.2.1 u1.2.2.2.2.2.1 u1.2.2.2.2.2.2 g6_size g6_lines f7 g8_underWay)) [7, 0, 1, 8, 2, 3, 4, 5, 6] rfl
  have hD := hD.sub (ws' := (ceX10_law cyI cyB cyJ cyZ a0 a1 a2 a3 a4 a5 a6 a7 a8 b0_kept b0_draftGround b0_grid b0_pack b0_pieces b0_thinning b1_seen b5_ground b5_marks b6_seen b8_steps b8_greatestAhead g0_imageKept g5_drawSeed g8_way g8_other g8_lead g8_man g8_dog g8_gone g8_greatest g8_remembered f4 u3.1 u1.1 u1.2.1 u1.2.2.1 u3.2 u1.2.2.2.1 u1.2.2.2.2.1 u1.2.2.2.2.2.1 u1.2.2.2.2.2.2 g6_size g6_lines f7 g8_underWay)) [7, 0, 1, 8, 2, 3, 4, 5, 6] (by decide) rfl
  generalize H1 = H at hP hS ⊢
  refine lv_iload_n hx hb dX10_law_17 rfl (lv_at hl 0 rfl) ?_
  refine lv_if_ne (tgt := 31) hx hb dX10_law_18 (by decide) (fun hc => ?_) (fun hc => ?_)
  · have hw := hw.1 hc
    refine lv_aload_n hx hb dX10_law_31 rfl (lv_at hl 1 rfl) ?_
    refine va_get (D := (dC, dI)) (ci := 10) (v := .ref a5) (C := RX10) (T := TX10) (N := 11) hx hb hts inX10_law_X10 hown hK hP 0 rfl rfl 1 (by decide) (hts (.fieldLink RX10 19 "LeadPark" "scene" "LLeadPark$Scene;") (List.mem_of_getElem? (i := 5) rfl)) (fun _ h9 => h9) rfl dX10_law_32 ?_
    refine va_getN (D := (dC, dI)) (ci := 6) (v := .ref a6) (C := RX6) (T := TX6) (N := 5) hx hb hts inX10_law_X6 hown hK hP 5 rfl rfl 1 (by decide) (va_Nw.use rfl (hN _ (List.mem_of_getElem? (i := 30) rfl))) (fun _ h9 => h9) rfl dX10_law_35 ?_
    refine lv_aload_n hx hb dX10_law_38 rfl (lv_at hl 1 rfl) ?_
    refine va_get (D := (dC, dI)) (ci := 10) (v := .ref a1) (C := RX10) (T := TX10) (N := 11) hx hb hts inX10_law_X10 hown hK hP 0 rfl rfl 4 (by decide) (hts (.fieldLink RX10 36 "LeadPark" "draftLaw" "LLeadPark$Law;") (List.mem_of_getElem? (i := 3) rfl)) (fun _ h9 => h9) rfl dX10_law_39 ?_
    have hPc := hP.sub (ws' := (ceX2_copyFrom cyI cyB cyJ cyZ a6 a7 a1 a2 b6_seen b1_seen u1.1 u1.2.1 u1.2.2.1 g6_size g6_lines f7)) [6, 7, 1, 2] rfl
    have hDc := hD.sub (ws' := (ceX2_copyFrom cyI cyB cyJ cyZ a6 a7 a1 a2 b6_seen b1_seen u1.1 u1.2.1 u1.2.2.1 g6_size g6_lines f7)) [6, 7, 1, 2] (by decide) rfl
    have hFc := va_free (wc := (ceX2_copyFrom cyI cyB cyJ cyZ a6 a7 a1 a2 b6_seen b1_seen u1.1 u1.2.1 u1.2.2.1 g6_size g6_lines f7)) hD hS hA [6, 7, 1, 2] rfl
    refine va_callv (va_runV (As := [.ref a1]) (rest := []) ⟨hx, hb, hml, hown, hts⟩ (ctX2_copyFrom l dC dI cyI cyB cyJ cyZ _ a6 a7 a1 a2 b6_seen b1_seen u1.1 u1.2.1 u1.2.2.1 g6_size g6_lines f7 _ hw) (cwV 1 hts gX10_law_X2_copyFrom rfl rfl rfl (by decide +kernel) ⟨Nat.le_of_ble_eq_true rfl, Nat.le_of_ble_eq_true rfl⟩) ⟨wPre_blind, va_recv hK hPc (ci := 2) (q0 := 0) rfl rfl, fun U hU hW => wPre_of hPc hK hDc hN hU hW⟩ rfl rfl hl.1 rfl (lv_room (Nat.le_of_ble_eq_true rfl)) dX10_law_42 ⟨(by decide), (by decide)⟩) hS (fun q _ h => hFc q h) hFc (fun u4 t H1 locs ht hvm hw hB hz1 hk1 hS => ?_)
    obtain ⟨hP1, hK1, hD1⟩ := hB
    rw [ht] at hP1
    obtain ⟨hP, hD⟩ := va_join (wr := pickW (ceX10_law cyI cyB cyJ cyZ a0 a1 a2 a3 a4 a5 a6 a7 a8 b0_kept b0_draftGround b0_grid b0_pack b0_pieces b0_thinning b1_seen b5_ground b5_marks b6_seen b8_steps b8_greatestAhead g0_imageKept g5_drawSeed g8_way g8_other g8_lead g8_man g8_dog g8_gone g8_greatest g8_remembered f4 u3.1 u1.1 u1.2.1 u1.2.2.1 u3.2 u1.2.2.2.1 u1.2.2.2.2.1 u1.2.2.2.2.2.1 u1.2.2.2.2.2.2 g6_size g6_lines f7 g8_underWay) [0, 3, 4, 5, 8]) (w1 := (ceX2_copyFrom cyI cyB cyJ cyZ a6 a7 a1 a2 b6_seen b1_seen u1.1 u1.2.1 u1.2.2.1 u4.1 u4.2.1 u4.2.2)) hP hD [6, 7, 1, 2] [0, 3, 4, 5, 8] rfl rfl (by decide) (by decide) hk1 hFc hP1 hD1
    have hP := hP.sub (ws' := (ceX10_law cyI cyB cyJ cyZ a0 a1 a2 a3 a4 a5 a6 a7 a8 b0_kept b0_draftGround b0_grid b0_pack b0_pieces b0_thinning b1_seen b5_ground b5_marks b6_seen b8_steps b8_greatestAhead g0_imageKept g5_drawSeed g8_way g8_other g8_lead g8_man g8_dog g8_gone g8_greatest g8_remembered f4 u3.1 u1.1 u1.2.1 u1.2.2.1 u3.2 u1.2.2.2.1 u1.2.2.2.2.1 u1.2.2.2.2.2.1 u1.2.2.2.2.2.2 u4.1 u4.2.1 u4.2.2 g8_underWay)) [0, 7, 8, 1, 2, 3, 5, 6, 4] rfl
    have hD := hD.sub (ws' := (ceX10_law cyI cyB cyJ cyZ a0 a1 a2 a3 a4 a5 a6 a7 a8 b0_kept b0_draftGround b0_grid b0_pack b0_pieces b0_thinning b1_seen b5_ground b5_marks b6_seen b8_steps b8_greatestAhead g0_imageKept g5_drawSeed g8_way g8_other g8_lead g8_man g8_dog g8_gone g8_greatest g8_remembered f4 u3.1 u1.1 u1.2.1 u1.2.2.1 u3.2 u1.2.2.2.1 u1.2.2.2.2.1 u1.2.2.2.2.2.1 u1.2.2.2.2.2.2 u4.1 u4.2.1 u4.2.2 g8_underWay)) [0, 7, 8, 1, 2, 3, 5, 6, 4] (by decide) rfl
    generalize H1 = H at hP hS ⊢
    refine lv_aload_n hx hb dX10_law_45 rfl (lv_at hl 1 rfl) ?_
    refine va_get (D := (dC, dI)) (ci := 10) (v := .ref a5) (C := RX10) (T := TX10) (N := 11) hx hb hts inX10_law_X10 hown hK hP 0 rfl rfl 1 (by decide) (hts (.fieldLink RX10 19 "LeadPark" "scene" "LLeadPark$Scene;") (List.mem_of_getElem? (i := 5) rfl)) (fun _ h9 => h9) rfl dX10_law_46 ?_
    refine va_getN (D := (dC, dI)) (ci := 6) (v := .ref a8) (C := RX6) (T := TX6) (N := 5) hx hb hts inX10_law_X6 hown hK hP 5 rfl rfl 3 (by decide) (va_Nw.use rfl (hN _ (List.mem_of_getElem? (i := 32) rfl))) (fun _ h9 => h9) rfl dX10_law_49 ?_
    refine lv_iconst (v := 0) hx hb dX10_law_52 (by decide) ?_
    refine va_putN (D := (dC, dI)) (ci := 7) (v := .int 0) (ty := .boolean) (C := RX7) (T := TX7) (N := 11) hx hb hts inX10_law_X7 tyX7 tyX7_ok nmX7 hown hK hP hD hS 8 rfl rfl 0 (by decide) (va_Nw.use rfl (hN _ (List.mem_of_getElem? (i := 14) rfl))) (fun _ h9 => h9) rfl (by decide +kernel) rfl rfl (Nat.le_of_ble_eq_true rfl) dX10_law_53 (fun H locs hP hD hS => ?_)
    have hP : va_P (dC, dI) vwCl (ceX10_law cyI cyB cyJ cyZ a0 a1 a2 a3 a4 a5 a6 a7 a8 b0_kept b0_draftGround b0_grid b0_pack b0_pieces b0_thinning b1_seen b5_ground b5_marks b6_seen b8_steps b8_greatestAhead g0_imageKept g5_drawSeed g8_way g8_other g8_lead g8_man g8_dog g8_gone g8_greatest g8_remembered f4 u3.1 u1.1 u1.2.1 u1.2.2.1 u3.2 u1.2.2.2.1 u1.2.2.2.2.1 u1.2.2.2.2.2.1 u1.2.2.2.2.2.2 u4.1 u4.2.1 u4.2.2 0) H := hP
    have hD : va_D A (ceX10_law cyI cyB cyJ cyZ a0 a1 a2 a3 a4 a5 a6 a7 a8 b0_kept b0_draftGround b0_grid b0_pack b0_pieces b0_thinning b1_seen b5_ground b5_marks b6_seen b8_steps b8_greatestAhead g0_imageKept g5_drawSeed g8_way g8_other g8_lead g8_man g8_dog g8_gone g8_greatest g8_remembered f4 u3.1 u1.1 u1.2.1 u1.2.2.1 u3.2 u1.2.2.2.1 u1.2.2.2.2.1 u1.2.2.2.2.2.1 u1.2.2.2.2.2.2 u4.1 u4.2.1 u4.2.2 0) := hD
    refine lv_aload_n hx hb dX10_law_56 rfl (lv_at hl 1 rfl) ?_
    refine va_get (D := (dC, dI)) (ci := 10) (v := .ref a5) (C := RX10) (T := TX10) (N := 11) hx hb hts inX10_law_X10 hown hK hP 0 rfl rfl 1 (by decide) (hts (.fieldLink RX10 19 "LeadPark" "scene" "LLeadPark$Scene;") (List.mem_of_getElem? (i := 5) rfl)) (fun _ h9 => h9) rfl dX10_law_57 ?_
    refine va_getN (D := (dC, dI)) (ci := 6) (v := .ref a6) (C := RX6) (T := TX6) (N := 5) hx hb hts inX10_law_X6 hown hK hP 5 rfl rfl 1 (by decide) (va_Nw.use rfl (hN _ (List.mem_of_getElem? (i := 30) rfl))) (fun _ h9 => h9) rfl dX10_law_60 ?_
    refine va_getN (D := (dC, dI)) (ci := 2) (v := .int u4.2.1) (C := RX2) (T := TX2) (N := 4) hx hb hts inX10_law_X2 hown hK hP 6 rfl rfl 3 (by decide) (va_Nw.use rfl (hN _ (List.mem_of_getElem? (i := 12) rfl))) (fun _ h9 => h9) rfl dX10_law_63 ?_
    rw [hQ]
    refine vx_ret ?_
    refine W.widen (k := 1) (n := 6) (by decide) (by decide) ?_
    exact W.iret (v := u4.2.1) hx hb hr (fun t ht hW => ⟨⟨u4.2.1, (u3.1, u1.1, u1.2.1, u1.2.2.1, u3.2, u1.2.2.2.1, u1.2.2.2.2.1, u1.2.2.2.2.2.1, u1.2.2.2.2.2.2, u4.1, u4.2.1, u4.2.2, 0), rfl, hw, by rw [ht]; exact hP, va_K.moved hW.alike hK, hD⟩, hS.F ht⟩) hS.2.2 dX10_law_66
  · have hw := hw.2 hc
    rw [hQ]
    exact vx_throwS (cls := "java/lang/IllegalArgumentException") (names := ["java/lang/RuntimeException", "java/lang/Exception"]) (mc := 1) (ms := 6) hx hb hl0 hown (by decide +kernel) (by decide +kernel) (hts (.classLink RX10 102 "java/lang/IllegalArgumentException") (List.mem_of_getElem? (i := 1) rfl)) (hts (.initialized "java/lang/IllegalArgumentException") (List.mem_of_getElem? (i := 2) rfl)) (hXs.1.2 32 _ rfl).1 (hatX10_law_106 hts hXs.2.2.2) hgd_106 hXs.2.1 hXs.2.2.1 hS (hl.1.trans hml.symm) dX10_law_21 dX10_law_24 dX10_law_25 dX10_law_27 dX10_law_30 (fun x h => (hT x h).elim) (by decide) (by decide) (by decide) (by decide) hlocks (fun t hvm hz hk => thr_X (u3.1, u1.1, u1.2.1, u1.2.2.1, u3.2, u1.2.2.2.1, u1.2.2.2.2.1, u1.2.2.2.2.2.1, u1.2.2.2.2.2.2, g6_size, g6_lines, f7, g8_underWay) hw hP hK hD hS hvm hz hk) hS.2.2 (by decide) (by decide)
/-! LeadPark.fault ()I -/
abbrev ceX10_fault (cyI cyB cyJ cyZ : ClassId) (a0 b0_tape b0_scene b0_kept b0_draftGround b0_draftLaw b0_grid b0_pack b0_pieces b0_thinning : Nat) (g0_imageKept : Int32) (g0_wrongByte : Int32) : va_W := [(a0, .inr (10, [.ref b0_tape, .ref b0_scene, .ref b0_kept, .ref b0_draftGround, .ref b0_draftLaw, .ref b0_grid, .ref b0_pack, .ref b0_pieces, .ref b0_thinning, .int g0_imageKept, .int g0_wrongByte]))]

theorem inX10_fault_X10 : ∀ w ∈ wsX100, w ∈ wsX10_fault := fun _ h => List.mem_cons_of_mem _ (List.mem_append_right _ h)
abbrev rmX10_fault : Room := { frames := 0, cells := 0, slots := 0, locals := 0 }
set_option maxRecDepth 100000 in
set_option maxHeartbeats 4000000 in
theorem ctX10_fault (l : Launch) (dC : Nat → ClassId) (dI : Nat → Nat → Nat) (cyI cyB cyJ cyZ : ClassId) (sz : Nat) (a0 b0_tape b0_scene b0_kept b0_draftGround b0_draftLaw b0_grid b0_pack b0_pieces b0_thinning : Nat) (g0_imageKept : Int32) (g0_wrongByte : Int32) (post : Int32 → Unit → Prop) (hw : wpX10_fault post g0_wrongByte ) : Met l yX10_fault wsX10_fault rmX10_fault (va_Pc [.ref a0] (wPre dC dI cyI cyB cyJ cyZ sz (ceX10_fault cyI cyB cyJ cyZ a0 b0_tape b0_scene b0_kept b0_draftGround b0_draftLaw b0_grid b0_pack b0_pieces b0_thinning g0_imageKept g0_wrongByte))) (va_Qi post (fun u : Unit => wAt dC dI cyI cyB cyJ cyZ (va_A (ceX10_fault cyI cyB cyJ cyZ a0 b0_tape b0_scene b0_kept b0_draftGround b0_draftLaw b0_grid b0_pack b0_pieces b0_thinning g0_imageKept g0_wrongByte) sz) (ceX10_fault cyI cyB cyJ cyZ a0 b0_tape b0_scene b0_kept b0_draftGround b0_draftLaw b0_grid b0_pack b0_pieces b0_thinning g0_imageKept g0_wrongByte)) (va_A (ceX10_fault cyI cyB cyJ cyZ a0 b0_tape b0_scene b0_kept b0_draftGround b0_draftLaw b0_grid b0_pack b0_pieces b0_thinning g0_imageKept g0_wrongByte) sz)) 0 0 (va_A (ceX10_fault cyI cyB cyJ cyZ a0 b0_tape b0_scene b0_kept b0_draftGround b0_draftLaw b0_grid b0_pack b0_pieces b0_thinning g0_imageKept g0_wrongByte) sz) := by
  refine Met.ofW (cc := cX10_fault) (maxL := 1) (ret := (some .int)) (by decide) rfl ?_
  intro p e s m args below meth c s₁ B hml hv
  obtain ⟨rfl, hsz, hP, hK, hD0, hN⟩ := hv
  have hx := B.exec
  have hb := B.bytes
  have hr := B.returns
  have hts := atoms_spec (ws := wsX10_fault) B.pre
  have hown : s.vm.findClass RX10 = some m.cls := findClass_of_methodNamed B.named
  have hlocks := B.notSynchronized
  subst hsz
  have hD := hD0.self (sz := s.heap.size)
  generalize hAe : va_A (ceX10_fault cyI cyB cyJ cyZ a0 b0_tape b0_scene b0_kept b0_draftGround b0_draftLaw b0_grid b0_pack b0_pieces b0_thinning g0_imageKept g0_wrongByte) s.heap.size = A at hD ⊢
  have hA : ∀ q : Nat, s.heap.size ≤ q → A q := fun q h => by rw [← hAe]; exact Or.inr h
  have hS : va_S A s.heap s.heap [] := va_S.rf
  have C0 : cxM p s m meth c _ wsX10_fault RX10 cX10_fault 1 (some .int) := ⟨hx, hb, hr, hml, hown, hts, hlocks⟩
  have hl := lv_entry ([.ref a0]) (n := 1) (Nat.le_of_ble_eq_true rfl)
  rw [lg_entry_eq]
  generalize (lg_sl ([.ref a0]) ++ List.replicate (1 - (lg_sl ([.ref a0])).length) Slot.unset).toArray = ls at hl ⊢
  have hl : lv_has ls 1 [(0, .ref a0)] := hl
  show W p l e rmX10_fault s m _ below meth c _ _ _ _ _ _
  refine wq (fun Q hQ => ?_)
  refine lv_aload_n hx hb dX10_fault_0 rfl (lv_at hl 0 rfl) ?_
  refine va_get (D := (dC, dI)) (ci := 10) (v := .int g0_wrongByte) (C := RX10) (T := TX10) (N := 11) hx hb hts inX10_fault_X10 hown hK hP 0 rfl rfl 10 (by decide) (hts (.fieldLink RX10 72 "LeadPark" "wrongByte" "I") (List.mem_of_getElem? (i := 1) rfl)) (fun _ h9 => h9) rfl dX10_fault_1 ?_
  rw [hQ]
  exact W.iret (v := g0_wrongByte) hx hb hr (fun t ht hW => ⟨⟨g0_wrongByte, (), rfl, hw, by rw [ht]; exact hP, va_K.moved hW.alike hK, hD⟩, hS.F ht⟩) hS.2.2 dX10_fault_4
/-! LeadPark.needCorner (II)V -/
abbrev ceX10_needCorner (cyI cyB cyJ cyZ : ClassId) (a0 a1 a2 a3 b0_tape b0_kept b0_draftGround b0_draftLaw b0_grid b0_pack b0_pieces b0_thinning b1_law b1_marks b1_stroll b2_xs b2_ys b2_walls : Nat) (g0_imageKept : Int32) (g0_wrongByte : Int32) (g1_drawSeed : Int32) (g2_wallCount : Int32) (g2_texts : Int32) (g2_ways : Int32) (f3 : Nat → Int32) : va_W := [(a0, .inr (10, [.ref b0_tape, .ref a1, .ref b0_kept, .ref b0_draftGround, .ref b0_draftLaw, .ref b0_grid, .ref b0_pack, .ref b0_pieces, .ref b0_thinning, .int g0_imageKept, .int g0_wrongByte])), (a1, .inr (6, [.ref a2, .ref b1_law, .ref b1_marks, .ref b1_stroll, .int g1_drawSeed])), (a2, .inr (1, [.ref b2_xs, .ref b2_ys, .ref a3, .ref b2_walls, .int g2_ways, .int g2_wallCount, .int g2_texts])), (a3, .inl (cyI, 12, .inl f3))]

theorem inX10_needCorner_X10 : ∀ w ∈ wsX100, w ∈ wsX10_needCorner := fun _ h => List.mem_cons_of_mem _ (List.mem_append_left _ (List.mem_append_left _ (List.mem_append_left _ (List.mem_append_right _ h))))
theorem inX10_needCorner_X6 : ∀ w ∈ wsX60, w ∈ wsX10_needCorner := fun _ h => List.mem_cons_of_mem _ (List.mem_append_left _ (List.mem_append_left _ (List.mem_append_right _ h)))
theorem hatX10_needCorner_321 {args : Array Value} {s : State} (hts : ∀ w ∈ wsX10_needCorner, w.before args s = true) (hB : ∀ w ∈ txBad, w.before #[] s = true) : ∀ w ∈ vx_atS RX10 321 "java/lang/IndexOutOfBoundsException" ["java/lang/RuntimeException", "java/lang/Exception"], w.before args s = true := vx_hat (B := txBad) (fun w h => hts w (List.mem_cons_of_mem _ (List.mem_append_right _ h))) hbd_321 (fun w h => va_Nw.use (List.all_eq_true.mp txBad_tab w h) (hB w h))
abbrev rmX10_needCorner : Room := { frames := 6, cells := 1, slots := 6, locals := 100 }
set_option maxRecDepth 100000 in
set_option maxHeartbeats 4000000 in
theorem ctX10_needCorner (l : Launch) (hl0 : l.stackTraces = false) (dC : Nat → ClassId) (dI : Nat → Nat → Nat) (cyI cyB cyJ cyZ : ClassId) (sz : Nat) (a0 a1 a2 a3 b0_tape b0_kept b0_draftGround b0_draftLaw b0_grid b0_pack b0_pieces b0_thinning b1_law b1_marks b1_stroll b2_xs b2_ys b2_walls : Nat) (g0_imageKept : Int32) (g0_wrongByte : Int32) (g1_drawSeed : Int32) (g2_wallCount : Int32) (g2_texts : Int32) (g2_ways : Int32) (f3 : Nat → Int32) (p0 : Int32) (p1 : Int32) (post : Unit → Prop) (postX : String → Unit → Prop) (adS : Nat → Nat) (hw : wpX10_needCorner post postX g2_ways f3 p0 p1) : vx_Met l yX10_needCorner wsX10_needCorner rmX10_needCorner (va_Pc [.ref a0, .int p0, .int p1] (wPreX dC dI cyI cyB cyJ cyZ sz (ceX10_needCorner cyI cyB cyJ cyZ a0 a1 a2 a3 b0_tape b0_kept b0_draftGround b0_draftLaw b0_grid b0_pack b0_pieces b0_thinning b1_law b1_marks b1_stroll b2_xs b2_ys b2_walls g0_imageKept g0_wrongByte g1_drawSeed g2_wallCount g2_texts g2_ways f3) (txT adS))) (va_Qv post (fun u : Unit => wAt dC dI cyI cyB cyJ cyZ (va_A (ceX10_needCorner cyI cyB cyJ cyZ a0 a1 a2 a3 b0_tape b0_kept b0_draftGround b0_draftLaw b0_grid b0_pack b0_pieces b0_thinning b1_law b1_marks b1_stroll b2_xs b2_ys b2_walls g0_imageKept g0_wrongByte g1_drawSeed g2_wallCount g2_texts g2_ways f3) sz) (ceX10_needCorner cyI cyB cyJ cyZ a0 a1 a2 a3 b0_tape b0_kept b0_draftGround b0_draftLaw b0_grid b0_pack b0_pieces b0_thinning b1_law b1_marks b1_stroll b2_xs b2_ys b2_walls g0_imageKept g0_wrongByte g1_drawSeed g2_wallCount g2_texts g2_ways f3)) (va_A (ceX10_needCorner cyI cyB cyJ cyZ a0 a1 a2 a3 b0_tape b0_kept b0_draftGround b0_draftLaw b0_grid b0_pack b0_pieces b0_thinning b1_law b1_marks b1_stroll b2_xs b2_ys b2_walls g0_imageKept g0_wrongByte g1_drawSeed g2_wallCount g2_texts g2_ways f3) sz)) (vx_X (fun _ : Unit => True) (fun E (u : Unit) t => postX E u ∧ wAt dC dI cyI cyB cyJ cyZ (va_A (ceX10_needCorner cyI cyB cyJ cyZ a0 a1 a2 a3 b0_tape b0_kept b0_draftGround b0_draftLaw b0_grid b0_pack b0_pieces b0_thinning b1_law b1_marks b1_stroll b2_xs b2_ys b2_walls g0_imageKept g0_wrongByte g1_drawSeed g2_wallCount g2_texts g2_ways f3) sz) (ceX10_needCorner cyI cyB cyJ cyZ a0 a1 a2 a3 b0_tape b0_kept b0_draftGround b0_draftLaw b0_grid b0_pack b0_pieces b0_thinning b1_law b1_marks b1_stroll b2_xs b2_ys b2_walls g0_imageKept g0_wrongByte g1_drawSeed g2_wallCount g2_texts g2_ways f3) t) (va_A (ceX10_needCorner cyI cyB cyJ cyZ a0 a1 a2 a3 b0_tape b0_kept b0_draftGround b0_draftLaw b0_grid b0_pack b0_pieces b0_thinning b1_law b1_marks b1_stroll b2_xs b2_ys b2_walls g0_imageKept g0_wrongByte g1_drawSeed g2_wallCount g2_texts g2_ways f3) sz)) 1 6 (va_A (ceX10_needCorner cyI cyB cyJ cyZ a0 a1 a2 a3 b0_tape b0_kept b0_draftGround b0_draftLaw b0_grid b0_pack b0_pieces b0_thinning b1_law b1_marks b1_stroll b2_xs b2_ys b2_walls g0_imageKept g0_wrongByte g1_drawSeed g2_wallCount g2_texts g2_ways f3) sz) := by
  refine vx_ofW (cc := cX10_needCorner) (maxL := 3) (ret := none) (by decide) rfl ?_
  intro p e s m args below meth c s₁ B hml hT hv
  obtain ⟨rfl, ⟨hsz, hP, hK, hD0, hN⟩, hXs⟩ := hv
  have hx := B.exec
  have hb := B.bytes
  have hr := B.returns
  have hts := atoms_spec (ws := wsX10_needCorner) B.pre
  have hown : s.vm.findClass RX10 = some m.cls := findClass_of_methodNamed B.named
  have hlocks := B.notSynchronized
  subst hsz
  have hD := hD0.self (sz := s.heap.size)
  generalize hAe : va_A (ceX10_needCorner cyI cyB cyJ cyZ a0 a1 a2 a3 b0_tape b0_kept b0_draftGround b0_draftLaw b0_grid b0_pack b0_pieces b0_thinning b1_law b1_marks b1_stroll b2_xs b2_ys b2_walls g0_imageKept g0_wrongByte g1_drawSeed g2_wallCount g2_texts g2_ways f3) s.heap.size = A at hD hXs ⊢
  have hA : ∀ q : Nat, s.heap.size ≤ q → A q := fun q h => by rw [← hAe]; exact Or.inr h
  have hS : va_S A s.heap s.heap [] := va_S.rf
  have C0 : cxM p s m meth c _ wsX10_needCorner RX10 cX10_needCorner 3 none := ⟨hx, hb, hr, hml, hown, hts, hlocks⟩
  have hl := lv_entry ([.ref a0, .int p0, .int p1]) (n := 3) (Nat.le_of_ble_eq_true rfl)
  rw [lg_entry_eq]
  generalize (lg_sl ([.ref a0, .int p0, .int p1]) ++ List.replicate (3 - (lg_sl ([.ref a0, .int p0, .int p1])).length) Slot.unset).toArray = ls at hl ⊢
  have hl : lv_has ls 3 [(0, .ref a0), (1, .int p0), (2, .int p1)] := hl
  show W p l e rmX10_needCorner s m _ below meth c _ _ _ _ _ _
  refine wq (fun Q hQ => ?_)
  refine lv_aload_n hx hb dX10_needCorner_0 rfl (lv_at hl 0 rfl) ?_
  refine va_get (D := (dC, dI)) (ci := 10) (v := .ref a1) (C := RX10) (T := TX10) (N := 11) hx hb hts inX10_needCorner_X10 hown hK hP 0 rfl rfl 1 (by decide) (hts (.fieldLink RX10 19 "LeadPark" "scene" "LLeadPark$Scene;") (List.mem_of_getElem? (i := 3) rfl)) (fun _ h9 => h9) rfl dX10_needCorner_1 ?_
  refine va_getN (D := (dC, dI)) (ci := 6) (v := .ref a2) (C := RX6) (T := TX6) (N := 5) hx hb hts inX10_needCorner_X6 hown hK hP 1 rfl rfl 0 (by decide) (va_Nw.use rfl (hN _ (List.mem_of_getElem? (i := 29) rfl))) (fun _ h9 => h9) rfl dX10_needCorner_4 ?_
  refine lv_iload_n hx hb dX10_needCorner_7 rfl (lv_at hl 1 rfl) ?_
  refine lv_iload_n hx hb dX10_needCorner_8 rfl (lv_at hl 2 rfl) ?_
  have hPc := hP.sub (ws' := (ceX1_hasCorner cyI cyB cyJ cyZ a2 a3 b2_xs b2_ys b2_walls g2_wallCount g2_texts g2_ways f3)) [2, 3] rfl
  have hDc := hD.sub (ws' := (ceX1_hasCorner cyI cyB cyJ cyZ a2 a3 b2_xs b2_ys b2_walls g2_wallCount g2_texts g2_ways f3)) [2, 3] (by decide) rfl
  have hFc := va_free (wc := (ceX1_hasCorner cyI cyB cyJ cyZ a2 a3 b2_xs b2_ys b2_walls g2_wallCount g2_texts g2_ways f3)) hD hS hA [2, 3] rfl
  refine va_calli (va_runV (As := [.int p0, .int p1]) (rest := []) ⟨hx, hb, hml, hown, hts⟩ (ctX1_hasCorner l dC dI cyI cyB cyJ cyZ _ a2 a3 b2_xs b2_ys b2_walls g2_wallCount g2_texts g2_ways f3 p0 p1 _ hw) (cwV 2 hts gX10_needCorner_X1_hasCorner rfl rfl rfl (by decide +kernel) ⟨Nat.le_of_ble_eq_true rfl, Nat.le_of_ble_eq_true rfl⟩) ⟨wPre_blind, va_recv hK hPc (ci := 1) (q0 := 0) rfl rfl, fun U hU hW => wPre_of hPc hK hDc hN hU hW⟩ rfl rfl hl.1 rfl (lv_room (Nat.le_of_ble_eq_true rfl)) dX10_needCorner_9 ⟨(by decide), (by decide)⟩) hS (fun q _ h => hFc q h) hFc (fun r2 u1 t H1 locs ht hvm hw hB hz1 hk1 hS => ?_)
  obtain ⟨hP1, hK1, hD1⟩ := hB
  rw [ht] at hP1
  obtain ⟨hP, hD⟩ := va_join (wr := pickW (ceX10_needCorner cyI cyB cyJ cyZ a0 a1 a2 a3 b0_tape b0_kept b0_draftGround b0_draftLaw b0_grid b0_pack b0_pieces b0_thinning b1_law b1_marks b1_stroll b2_xs b2_ys b2_walls g0_imageKept g0_wrongByte g1_drawSeed g2_wallCount g2_texts g2_ways f3) [0, 1]) (w1 := (ceX1_hasCorner cyI cyB cyJ cyZ a2 a3 b2_xs b2_ys b2_walls g2_wallCount g2_texts g2_ways f3)) hP hD [2, 3] [0, 1] rfl rfl (by decide) (by decide) hk1 hFc hP1 hD1
  have hP := hP.sub (ws' := (ceX10_needCorner cyI cyB cyJ cyZ a0 a1 a2 a3 b0_tape b0_kept b0_draftGround b0_draftLaw b0_grid b0_pack b0_pieces b0_thinning b1_law b1_marks b1_stroll b2_xs b2_ys b2_walls g0_imageKept g0_wrongByte g1_drawSeed g2_wallCount g2_texts g2_ways f3)) [0, 1, 2, 3] rfl
  have hD := hD.sub (ws' := (ceX10_needCorner cyI cyB cyJ cyZ a0 a1 a2 a3 b0_tape b0_kept b0_draftGround b0_draftLaw b0_grid b0_pack b0_pieces b0_thinning b1_law b1_marks b1_stroll b2_xs b2_ys b2_walls g0_imageKept g0_wrongByte g1_drawSeed g2_wallCount g2_texts g2_ways f3)) [0, 1, 2, 3] (by decide) rfl
  generalize H1 = H at hP hS ⊢
  refine lv_if_ne (tgt := 26) hx hb dX10_needCorner_12 (by decide) (fun hc => ?_) (fun hc => ?_)
  · have hw := hw.1 hc
    rw [hQ]
    refine vx_ret ?_
    refine W.widen (k := 1) (n := 6) (by decide) (by decide) ?_
    exact W.vret hx hb hr (fun t ht hW => ⟨⟨(), rfl, hw, by rw [ht]; exact hP, va_K.moved hW.alike hK, hD⟩, hS.F ht⟩) hS.2.2 dX10_needCorner_26
  · have hw := hw.2 hc
    rw [hQ]
    exact vx_throwSW (cls := "java/lang/IndexOutOfBoundsException") (names := ["java/lang/RuntimeException", "java/lang/Exception"]) (mc := 1) (ms := 6) hx hb hl0 hown (by decide +kernel) (by decide +kernel) (hts (.classLink RX10 317 "java/lang/IndexOutOfBoundsException") (List.mem_of_getElem? (i := 1) rfl)) (hts (.initialized "java/lang/IndexOutOfBoundsException") (List.mem_of_getElem? (i := 2) rfl)) (hXs.1.2 43 _ rfl).1 (hatX10_needCorner_321 hts hXs.2.2.2) hgd_321 hXs.2.1 hXs.2.2.1 hS (hl.1.trans hml.symm) dX10_needCorner_15 dX10_needCorner_18 dX10_needCorner_19 dX10_needCorner_22 dX10_needCorner_25 (fun x h => (hT x h).elim) (by decide) (by decide) (by decide) (by decide) hlocks (fun t hvm hz hk => thr_X () hw hP hK hD hS hvm hz hk) hS.2.2 (by decide) (by decide)
/-! LeadPark.corner (IIZ)I -/
abbrev ceX10_corner (cyI cyB cyJ cyZ : ClassId) (a0 a1 a2 a3 a4 a5 b0_tape b0_kept b0_draftGround b0_draftLaw b0_grid b0_pack b0_pieces b0_thinning b1_law b1_marks b1_stroll b2_walls : Nat) (g0_imageKept : Int32) (g0_wrongByte : Int32) (g1_drawSeed : Int32) (g2_wallCount : Int32) (g2_texts : Int32) (g2_ways : Int32) (f3 : Nat → Int32) (f4 : Nat → Int32) (f5 : Nat → Int32) : va_W := [(a0, .inr (10, [.ref b0_tape, .ref a1, .ref b0_kept, .ref b0_draftGround, .ref b0_draftLaw, .ref b0_grid, .ref b0_pack, .ref b0_pieces, .ref b0_thinning, .int g0_imageKept, .int g0_wrongByte])), (a1, .inr (6, [.ref a2, .ref b1_law, .ref b1_marks, .ref b1_stroll, .int g1_drawSeed])), (a2, .inr (1, [.ref a5, .ref a4, .ref a3, .ref b2_walls, .int g2_ways, .int g2_wallCount, .int g2_texts])), (a3, .inl (cyI, 12, .inl f3)), (a4, .inl (cyI, 360, .inl f4)), (a5, .inl (cyI, 360, .inl f5))]

theorem inX10_corner_X10 : ∀ w ∈ wsX100, w ∈ wsX10_corner := fun _ h => List.mem_cons_of_mem _ (List.mem_append_left _ (List.mem_append_left _ (List.mem_append_left _ (List.mem_append_right _ h))))
theorem inX10_corner_X6 : ∀ w ∈ wsX60, w ∈ wsX10_corner := fun _ h => List.mem_cons_of_mem _ (List.mem_append_left _ (List.mem_append_left _ (List.mem_append_right _ h)))
abbrev rmX10_corner : Room := { frames := 7, cells := 1, slots := 6, locals := 122 }
set_option maxRecDepth 100000 in
set_option maxHeartbeats 4000000 in
theorem ctX10_corner (l : Launch) (hl0 : l.stackTraces = false) (dC : Nat → ClassId) (dI : Nat → Nat → Nat) (cyI cyB cyJ cyZ : ClassId) (sz : Nat) (a0 a1 a2 a3 a4 a5 b0_tape b0_kept b0_draftGround b0_draftLaw b0_grid b0_pack b0_pieces b0_thinning b1_law b1_marks b1_stroll b2_walls : Nat) (g0_imageKept : Int32) (g0_wrongByte : Int32) (g1_drawSeed : Int32) (g2_wallCount : Int32) (g2_texts : Int32) (g2_ways : Int32) (f3 : Nat → Int32) (f4 : Nat → Int32) (f5 : Nat → Int32) (p0 : Int32) (p1 : Int32) (p2 : Int32) (post : Int32 → Unit → Prop) (postX : String → Unit → Prop) (adS : Nat → Nat) (hw : wpX10_corner post postX g2_ways f3 f4 f5 p0 p1 p2) : vx_Met l yX10_corner wsX10_corner rmX10_corner (va_Pc [.ref a0, .int p0, .int p1, .int p2] (wPreX dC dI cyI cyB cyJ cyZ sz (ceX10_corner cyI cyB cyJ cyZ a0 a1 a2 a3 a4 a5 b0_tape b0_kept b0_draftGround b0_draftLaw b0_grid b0_pack b0_pieces b0_thinning b1_law b1_marks b1_stroll b2_walls g0_imageKept g0_wrongByte g1_drawSeed g2_wallCount g2_texts g2_ways f3 f4 f5) (txT adS))) (va_Qi post (fun u : Unit => wAt dC dI cyI cyB cyJ cyZ (va_A (ceX10_corner cyI cyB cyJ cyZ a0 a1 a2 a3 a4 a5 b0_tape b0_kept b0_draftGround b0_draftLaw b0_grid b0_pack b0_pieces b0_thinning b1_law b1_marks b1_stroll b2_walls g0_imageKept g0_wrongByte g1_drawSeed g2_wallCount g2_texts g2_ways f3 f4 f5) sz) (ceX10_corner cyI cyB cyJ cyZ a0 a1 a2 a3 a4 a5 b0_tape b0_kept b0_draftGround b0_draftLaw b0_grid b0_pack b0_pieces b0_thinning b1_law b1_marks b1_stroll b2_walls g0_imageKept g0_wrongByte g1_drawSeed g2_wallCount g2_texts g2_ways f3 f4 f5)) (va_A (ceX10_corner cyI cyB cyJ cyZ a0 a1 a2 a3 a4 a5 b0_tape b0_kept b0_draftGround b0_draftLaw b0_grid b0_pack b0_pieces b0_thinning b1_law b1_marks b1_stroll b2_walls g0_imageKept g0_wrongByte g1_drawSeed g2_wallCount g2_texts g2_ways f3 f4 f5) sz)) (vx_X (fun _ : Unit => True) (fun E (u : Unit) t => postX E u ∧ wAt dC dI cyI cyB cyJ cyZ (va_A (ceX10_corner cyI cyB cyJ cyZ a0 a1 a2 a3 a4 a5 b0_tape b0_kept b0_draftGround b0_draftLaw b0_grid b0_pack b0_pieces b0_thinning b1_law b1_marks b1_stroll b2_walls g0_imageKept g0_wrongByte g1_drawSeed g2_wallCount g2_texts g2_ways f3 f4 f5) sz) (ceX10_corner cyI cyB cyJ cyZ a0 a1 a2 a3 a4 a5 b0_tape b0_kept b0_draftGround b0_draftLaw b0_grid b0_pack b0_pieces b0_thinning b1_law b1_marks b1_stroll b2_walls g0_imageKept g0_wrongByte g1_drawSeed g2_wallCount g2_texts g2_ways f3 f4 f5) t) (va_A (ceX10_corner cyI cyB cyJ cyZ a0 a1 a2 a3 a4 a5 b0_tape b0_kept b0_draftGround b0_draftLaw b0_grid b0_pack b0_pieces b0_thinning b1_law b1_marks b1_stroll b2_walls g0_imageKept g0_wrongByte g1_drawSeed g2_wallCount g2_texts g2_ways f3 f4 f5) sz)) 1 6 (va_A (ceX10_corner cyI cyB cyJ cyZ a0 a1 a2 a3 a4 a5 b0_tape b0_kept b0_draftGround b0_draftLaw b0_grid b0_pack b0_pieces b0_thinning b1_law b1_marks b1_stroll b2_walls g0_imageKept g0_wrongByte g1_drawSeed g2_wallCount g2_texts g2_ways f3 f4 f5) sz) := by
  refine vx_ofW (cc := cX10_corner) (maxL := 4) (ret := (some .int)) (by decide) rfl ?_
  intro p e s m args below meth c s₁ B hml hT hv
  obtain ⟨rfl, ⟨hsz, hP, hK, hD0, hN⟩, hXs⟩ := hv
  have hx := B.exec
  have hb := B.bytes
  have hr := B.returns
  have hts := atoms_spec (ws := wsX10_corner) B.pre
  have hown : s.vm.findClass RX10 = some m.cls := findClass_of_methodNamed B.named
  have hlocks := B.notSynchronized
  subst hsz
  have hD := hD0.self (sz := s.heap.size)
  generalize hAe : va_A (ceX10_corner cyI cyB cyJ cyZ a0 a1 a2 a3 a4 a5 b0_tape b0_kept b0_draftGround b0_draftLaw b0_grid b0_pack b0_pieces b0_thinning b1_law b1_marks b1_stroll b2_walls g0_imageKept g0_wrongByte g1_drawSeed g2_wallCount g2_texts g2_ways f3 f4 f5) s.heap.size = A at hD hXs ⊢
  have hA : ∀ q : Nat, s.heap.size ≤ q → A q := fun q h => by rw [← hAe]; exact Or.inr h
  have hS : va_S A s.heap s.heap [] := va_S.rf
  have C0 : cxM p s m meth c _ wsX10_corner RX10 cX10_corner 4 (some .int) := ⟨hx, hb, hr, hml, hown, hts, hlocks⟩
  have hl := lv_entry ([.ref a0, .int p0, .int p1, .int p2]) (n := 4) (Nat.le_of_ble_eq_true rfl)
  rw [lg_entry_eq]
  generalize (lg_sl ([.ref a0, .int p0, .int p1, .int p2]) ++ List.replicate (4 - (lg_sl ([.ref a0, .int p0, .int p1, .int p2])).length) Slot.unset).toArray = ls at hl ⊢
  have hl : lv_has ls 4 [(0, .ref a0), (1, .int p0), (2, .int p1), (3, .int p2)] := hl
  show W p l e rmX10_corner s m _ below meth c _ _ _ _ _ _
  refine wq (fun Q hQ => ?_)
  refine lv_aload_n hx hb dX10_corner_0 rfl (lv_at hl 0 rfl) ?_
  refine lv_iload_n hx hb dX10_corner_1 rfl (lv_at hl 1 rfl) ?_
  refine lv_iload_n hx hb dX10_corner_2 rfl (lv_at hl 2 rfl) ?_
  have hPc := hP.sub (ws' := (ceX10_needCorner cyI cyB cyJ cyZ a0 a1 a2 a3 b0_tape b0_kept b0_draftGround b0_draftLaw b0_grid b0_pack b0_pieces b0_thinning b1_law b1_marks b1_stroll a5 a4 b2_walls g0_imageKept g0_wrongByte g1_drawSeed g2_wallCount g2_texts g2_ways f3)) [0, 1, 2, 3] rfl
  have hDc := hD.sub (ws' := (ceX10_needCorner cyI cyB cyJ cyZ a0 a1 a2 a3 b0_tape b0_kept b0_draftGround b0_draftLaw b0_grid b0_pack b0_pieces b0_thinning b1_law b1_marks b1_stroll a5 a4 b2_walls g0_imageKept g0_wrongByte g1_drawSeed g2_wallCount g2_texts g2_ways f3)) [0, 1, 2, 3] (by decide) rfl
  have hFc := va_free (wc := (ceX10_needCorner cyI cyB cyJ cyZ a0 a1 a2 a3 b0_tape b0_kept b0_draftGround b0_draftLaw b0_grid b0_pack b0_pieces b0_thinning b1_law b1_marks b1_stroll a5 a4 b2_walls g0_imageKept g0_wrongByte g1_drawSeed g2_wallCount g2_texts g2_ways f3)) hD hS hA [0, 1, 2, 3] rfl
  refine vx_callv (vx_runV (As := [.int p0, .int p1]) (rest := []) ⟨hx, hb, hml, hown, hts⟩ (ctX10_needCorner l hl0 dC dI cyI cyB cyJ cyZ _ a0 a1 a2 a3 b0_tape b0_kept b0_draftGround b0_draftLaw b0_grid b0_pack b0_pieces b0_thinning b1_law b1_marks b1_stroll a5 a4 b2_walls g0_imageKept g0_wrongByte g1_drawSeed g2_wallCount g2_texts g2_ways f3 p0 p1 _ _ adS hw) (cwV 2 hts gX10_corner_X10_needCorner rfl rfl rfl (by decide +kernel) ⟨Nat.le_of_ble_eq_true rfl, Nat.le_of_ble_eq_true rfl⟩) ⟨wPreX_blind (xOk_txT adS), va_recv hK hPc (ci := 10) (q0 := 0) rfl rfl, fun U hU hW => wPreX_of (xOk_txT adS) hPc hK hDc hN hXs hS hFc hU hW⟩ rfl rfl hl.1 rfl (lv_room (Nat.le_of_ble_eq_true rfl)) dX10_corner_3 ⟨(by decide), (by decide)⟩) hS (fun q _ h => hFc q h) hFc (fun q _ h => hFc q h) (fun E ce q9 u1 t H1 locs ht hvm hpx hBX hz1 hk1 hS hce hcv hcl => ?_) (fun u1 t H1 locs ht hvm hw hB hz1 hk1 hS => ?_)
  · obtain ⟨hw, hP1, hK1, hD1⟩ := hBX
    rw [ht] at hP1
    obtain ⟨hP, hD⟩ := va_join (wr := pickW (ceX10_corner cyI cyB cyJ cyZ a0 a1 a2 a3 a4 a5 b0_tape b0_kept b0_draftGround b0_draftLaw b0_grid b0_pack b0_pieces b0_thinning b1_law b1_marks b1_stroll b2_walls g0_imageKept g0_wrongByte g1_drawSeed g2_wallCount g2_texts g2_ways f3 f4 f5) [4, 5]) (w1 := (ceX10_needCorner cyI cyB cyJ cyZ a0 a1 a2 a3 b0_tape b0_kept b0_draftGround b0_draftLaw b0_grid b0_pack b0_pieces b0_thinning b1_law b1_marks b1_stroll a5 a4 b2_walls g0_imageKept g0_wrongByte g1_drawSeed g2_wallCount g2_texts g2_ways f3)) hP hD [0, 1, 2, 3] [4, 5] rfl rfl (by decide) (by decide) hk1 hFc hP1 hD1
    have hP := hP.sub (ws' := (ceX10_corner cyI cyB cyJ cyZ a0 a1 a2 a3 a4 a5 b0_tape b0_kept b0_draftGround b0_draftLaw b0_grid b0_pack b0_pieces b0_thinning b1_law b1_marks b1_stroll b2_walls g0_imageKept g0_wrongByte g1_drawSeed g2_wallCount g2_texts g2_ways f3 f4 f5)) [2, 3, 4, 5, 0, 1] rfl
    have hD := hD.sub (ws' := (ceX10_corner cyI cyB cyJ cyZ a0 a1 a2 a3 a4 a5 b0_tape b0_kept b0_draftGround b0_draftLaw b0_grid b0_pack b0_pieces b0_thinning b1_law b1_marks b1_stroll b2_walls g0_imageKept g0_wrongByte g1_drawSeed g2_wallCount g2_texts g2_ways f3 f4 f5)) [2, 3, 4, 5, 0, 1] (by decide) rfl
    rw [hQ]
    exact vx_widen (k := 1) (n := 6) (by decide) (by decide) (vx_out (fun x h => (hT x h).elim) hlocks hce hcv hcl (fun t9 ht9 hvm9 => ⟨(), trivial, ⟨hw, by rw [ht9]; exact hP, va_K.moved hvm9 hK, hD⟩, hS.F ht9⟩) hS.2.2 (by decide) (by decide))
  -- returned
  obtain ⟨hP1, hK1, hD1⟩ := hB
  rw [ht] at hP1
  obtain ⟨hP, hD⟩ := va_join (wr := pickW (ceX10_corner cyI cyB cyJ cyZ a0 a1 a2 a3 a4 a5 b0_tape b0_kept b0_draftGround b0_draftLaw b0_grid b0_pack b0_pieces b0_thinning b1_law b1_marks b1_stroll b2_walls g0_imageKept g0_wrongByte g1_drawSeed g2_wallCount g2_texts g2_ways f3 f4 f5) [4, 5]) (w1 := (ceX10_needCorner cyI cyB cyJ cyZ a0 a1 a2 a3 b0_tape b0_kept b0_draftGround b0_draftLaw b0_grid b0_pack b0_pieces b0_thinning b1_law b1_marks b1_stroll a5 a4 b2_walls g0_imageKept g0_wrongByte g1_drawSeed g2_wallCount g2_texts g2_ways f3)) hP hD [0, 1, 2, 3] [4, 5] rfl rfl (by decide) (by decide) hk1 hFc hP1 hD1
  have hP := hP.sub (ws' := (ceX10_corner cyI cyB cyJ cyZ a0 a1 a2 a3 a4 a5 b0_tape b0_kept b0_draftGround b0_draftLaw b0_grid b0_pack b0_pieces b0_thinning b1_law b1_marks b1_stroll b2_walls g0_imageKept g0_wrongByte g1_drawSeed g2_wallCount g2_texts g2_ways f3 f4 f5)) [2, 3, 4, 5, 0, 1] rfl
  have hD := hD.sub (ws' := (ceX10_corner cyI cyB cyJ cyZ a0 a1 a2 a3 a4 a5 b0_tape b0_kept b0_draftGround b0_draftLaw b0_grid b0_pack b0_pieces b0_thinning b1_law b1_marks b1_stroll b2_walls g0_imageKept g0_wrongByte g1_drawSeed g2_wallCount g2_texts g2_ways f3 f4 f5)) [2, 3, 4, 5, 0, 1] (by decide) rfl
  generalize H1 = H at hP hS ⊢
  refine W.widen (k := 1) (n := 6) (by decide) (by decide) ?_
  refine lv_iload_n hx hb dX10_corner_6 rfl (lv_at hl 3 rfl) ?_
  refine lv_if_eq (tgt := 25) hx hb dX10_corner_7 (by decide) (fun hc => ?_) (fun hc => ?_)
  · have hw := hw.1 hc
    refine lv_aload_n hx hb dX10_corner_25 rfl (lv_at hl 0 rfl) ?_
    refine va_get (D := (dC, dI)) (ci := 10) (v := .ref a1) (C := RX10) (T := TX10) (N := 11) hx hb hts inX10_corner_X10 hown hK hP 0 rfl rfl 1 (by decide) (hts (.fieldLink RX10 19 "LeadPark" "scene" "LLeadPark$Scene;") (List.mem_of_getElem? (i := 1) rfl)) (fun _ h9 => h9) rfl dX10_corner_26 ?_
    refine va_getN (D := (dC, dI)) (ci := 6) (v := .ref a2) (C := RX6) (T := TX6) (N := 5) hx hb hts inX10_corner_X6 hown hK hP 1 rfl rfl 0 (by decide) (va_Nw.use rfl (hN _ (List.mem_of_getElem? (i := 29) rfl))) (fun _ h9 => h9) rfl dX10_corner_29 ?_
    refine lv_iload_n hx hb dX10_corner_32 rfl (lv_at hl 1 rfl) ?_
    refine lv_iload_n hx hb dX10_corner_33 rfl (lv_at hl 2 rfl) ?_
    have hPc := hP.sub (ws' := (ceX1_xOf cyI cyB cyJ cyZ a2 a5 a4 a3 b2_walls g2_ways g2_wallCount g2_texts f5)) [2, 5] rfl
    have hDc := hD.sub (ws' := (ceX1_xOf cyI cyB cyJ cyZ a2 a5 a4 a3 b2_walls g2_ways g2_wallCount g2_texts f5)) [2, 5] (by decide) rfl
    have hFc := va_free (wc := (ceX1_xOf cyI cyB cyJ cyZ a2 a5 a4 a3 b2_walls g2_ways g2_wallCount g2_texts f5)) hD hS hA [2, 5] rfl
    refine va_calli (va_runV (As := [.int p0, .int p1]) (rest := []) ⟨hx, hb, hml, hown, hts⟩ (ctX1_xOf l dC dI cyI cyB cyJ cyZ _ a2 a5 a4 a3 b2_walls g2_ways g2_wallCount g2_texts f5 p0 p1 _ hw) (cwV 2 hts gX10_corner_X1_xOf rfl rfl rfl (by decide +kernel) ⟨Nat.le_of_ble_eq_true rfl, Nat.le_of_ble_eq_true rfl⟩) ⟨wPre_blind, va_recv hK hPc (ci := 1) (q0 := 0) rfl rfl, fun U hU hW => wPre_of hPc hK hDc hN hU hW⟩ rfl rfl hl.1 rfl (lv_room (Nat.le_of_ble_eq_true rfl)) dX10_corner_34 ⟨(by decide), (by decide)⟩) hS (fun q _ h => hFc q h) hFc (fun r3 u2 t H1 locs ht hvm hw hB hz1 hk1 hS => ?_)
    obtain ⟨hP1, hK1, hD1⟩ := hB
    rw [ht] at hP1
    obtain ⟨hP, hD⟩ := va_join (wr := pickW (ceX10_corner cyI cyB cyJ cyZ a0 a1 a2 a3 a4 a5 b0_tape b0_kept b0_draftGround b0_draftLaw b0_grid b0_pack b0_pieces b0_thinning b1_law b1_marks b1_stroll b2_walls g0_imageKept g0_wrongByte g1_drawSeed g2_wallCount g2_texts g2_ways f3 f4 f5) [0, 1, 3, 4]) (w1 := (ceX1_xOf cyI cyB cyJ cyZ a2 a5 a4 a3 b2_walls g2_ways g2_wallCount g2_texts f5)) hP hD [2, 5] [0, 1, 3, 4] rfl rfl (by decide) (by decide) hk1 hFc hP1 hD1
    have hP := hP.sub (ws' := (ceX10_corner cyI cyB cyJ cyZ a0 a1 a2 a3 a4 a5 b0_tape b0_kept b0_draftGround b0_draftLaw b0_grid b0_pack b0_pieces b0_thinning b1_law b1_marks b1_stroll b2_walls g0_imageKept g0_wrongByte g1_drawSeed g2_wallCount g2_texts g2_ways f3 f4 f5)) [0, 1, 4, 2, 3, 5] rfl
    have hD := hD.sub (ws' := (ceX10_corner cyI cyB cyJ cyZ a0 a1 a2 a3 a4 a5 b0_tape b0_kept b0_draftGround b0_draftLaw b0_grid b0_pack b0_pieces b0_thinning b1_law b1_marks b1_stroll b2_walls g0_imageKept g0_wrongByte g1_drawSeed g2_wallCount g2_texts g2_ways f3 f4 f5)) [0, 1, 4, 2, 3, 5] (by decide) rfl
    generalize H1 = H at hP hS ⊢
    rw [hQ]
    refine vx_ret ?_
    refine W.widen (k := 1) (n := 6) (by decide) (by decide) ?_
    exact W.iret (v := r3) hx hb hr (fun t ht hW => ⟨⟨r3, (), rfl, hw, by rw [ht]; exact hP, va_K.moved hW.alike hK, hD⟩, hS.F ht⟩) hS.2.2 dX10_corner_37
  · have hw := hw.2 hc
    refine lv_aload_n hx hb dX10_corner_10 rfl (lv_at hl 0 rfl) ?_
    refine va_get (D := (dC, dI)) (ci := 10) (v := .ref a1) (C := RX10) (T := TX10) (N := 11) hx hb hts inX10_corner_X10 hown hK hP 0 rfl rfl 1 (by decide) (hts (.fieldLink RX10 19 "LeadPark" "scene" "LLeadPark$Scene;") (List.mem_of_getElem? (i := 1) rfl)) (fun _ h9 => h9) rfl dX10_corner_11 ?_
    refine va_getN (D := (dC, dI)) (ci := 6) (v := .ref a2) (C := RX6) (T := TX6) (N := 5) hx hb hts inX10_corner_X6 hown hK hP 1 rfl rfl 0 (by decide) (va_Nw.use rfl (hN _ (List.mem_of_getElem? (i := 29) rfl))) (fun _ h9 => h9) rfl dX10_corner_14 ?_
    refine lv_iload_n hx hb dX10_corner_17 rfl (lv_at hl 1 rfl) ?_
    refine lv_iload_n hx hb dX10_corner_18 rfl (lv_at hl 2 rfl) ?_
    have hPc := hP.sub (ws' := (ceX1_yOf cyI cyB cyJ cyZ a2 a4 a5 a3 b2_walls g2_ways g2_wallCount g2_texts f4)) [2, 4] rfl
    have hDc := hD.sub (ws' := (ceX1_yOf cyI cyB cyJ cyZ a2 a4 a5 a3 b2_walls g2_ways g2_wallCount g2_texts f4)) [2, 4] (by decide) rfl
    have hFc := va_free (wc := (ceX1_yOf cyI cyB cyJ cyZ a2 a4 a5 a3 b2_walls g2_ways g2_wallCount g2_texts f4)) hD hS hA [2, 4] rfl
    refine va_calli (va_runV (As := [.int p0, .int p1]) (rest := []) ⟨hx, hb, hml, hown, hts⟩ (ctX1_yOf l dC dI cyI cyB cyJ cyZ _ a2 a4 a5 a3 b2_walls g2_ways g2_wallCount g2_texts f4 p0 p1 _ hw) (cwV 2 hts gX10_corner_X1_yOf rfl rfl rfl (by decide +kernel) ⟨Nat.le_of_ble_eq_true rfl, Nat.le_of_ble_eq_true rfl⟩) ⟨wPre_blind, va_recv hK hPc (ci := 1) (q0 := 0) rfl rfl, fun U hU hW => wPre_of hPc hK hDc hN hU hW⟩ rfl rfl hl.1 rfl (lv_room (Nat.le_of_ble_eq_true rfl)) dX10_corner_19 ⟨(by decide), (by decide)⟩) hS (fun q _ h => hFc q h) hFc (fun r5 u4 t H1 locs ht hvm hw hB hz1 hk1 hS => ?_)
    obtain ⟨hP1, hK1, hD1⟩ := hB
    rw [ht] at hP1
    obtain ⟨hP, hD⟩ := va_join (wr := pickW (ceX10_corner cyI cyB cyJ cyZ a0 a1 a2 a3 a4 a5 b0_tape b0_kept b0_draftGround b0_draftLaw b0_grid b0_pack b0_pieces b0_thinning b1_law b1_marks b1_stroll b2_walls g0_imageKept g0_wrongByte g1_drawSeed g2_wallCount g2_texts g2_ways f3 f4 f5) [0, 1, 3, 5]) (w1 := (ceX1_yOf cyI cyB cyJ cyZ a2 a4 a5 a3 b2_walls g2_ways g2_wallCount g2_texts f4)) hP hD [2, 4] [0, 1, 3, 5] rfl rfl (by decide) (by decide) hk1 hFc hP1 hD1
    have hP := hP.sub (ws' := (ceX10_corner cyI cyB cyJ cyZ a0 a1 a2 a3 a4 a5 b0_tape b0_kept b0_draftGround b0_draftLaw b0_grid b0_pack b0_pieces b0_thinning b1_law b1_marks b1_stroll b2_walls g0_imageKept g0_wrongByte g1_drawSeed g2_wallCount g2_texts g2_ways f3 f4 f5)) [0, 1, 4, 2, 5, 3] rfl
    have hD := hD.sub (ws' := (ceX10_corner cyI cyB cyJ cyZ a0 a1 a2 a3 a4 a5 b0_tape b0_kept b0_draftGround b0_draftLaw b0_grid b0_pack b0_pieces b0_thinning b1_law b1_marks b1_stroll b2_walls g0_imageKept g0_wrongByte g1_drawSeed g2_wallCount g2_texts g2_ways f3 f4 f5)) [0, 1, 4, 2, 5, 3] (by decide) rfl
    generalize H1 = H at hP hS ⊢
    refine lv_goto (tgt := 37) hx hb dX10_corner_22 (by decide) ?_
    rw [hQ]
    refine vx_ret ?_
    refine W.widen (k := 1) (n := 6) (by decide) (by decide) ?_
    exact W.iret (v := r5) hx hb hr (fun t ht hW => ⟨⟨r5, (), rfl, hw, by rw [ht]; exact hP, va_K.moved hW.alike hK, hD⟩, hS.F ht⟩) hS.2.2 dX10_corner_37
/-! LeadPark.needWay (I)V -/
abbrev ceX10_needWay (cyI cyB cyJ cyZ : ClassId) (a0 a1 a2 b0_tape b0_kept b0_draftGround b0_draftLaw b0_grid b0_pack b0_pieces b0_thinning b1_law b1_marks b1_stroll b2_xs b2_ys b2_counts b2_walls : Nat) (g0_imageKept : Int32) (g0_wrongByte : Int32) (g1_drawSeed : Int32) (g2_wallCount : Int32) (g2_texts : Int32) (g2_ways : Int32) : va_W := [(a0, .inr (10, [.ref b0_tape, .ref a1, .ref b0_kept, .ref b0_draftGround, .ref b0_draftLaw, .ref b0_grid, .ref b0_pack, .ref b0_pieces, .ref b0_thinning, .int g0_imageKept, .int g0_wrongByte])), (a1, .inr (6, [.ref a2, .ref b1_law, .ref b1_marks, .ref b1_stroll, .int g1_drawSeed])), (a2, .inr (1, [.ref b2_xs, .ref b2_ys, .ref b2_counts, .ref b2_walls, .int g2_ways, .int g2_wallCount, .int g2_texts]))]

theorem inX10_needWay_X10 : ∀ w ∈ wsX100, w ∈ wsX10_needWay := fun _ h => List.mem_cons_of_mem _ (List.mem_append_left _ (List.mem_append_left _ (List.mem_append_left _ (List.mem_append_right _ h))))
theorem inX10_needWay_X6 : ∀ w ∈ wsX60, w ∈ wsX10_needWay := fun _ h => List.mem_cons_of_mem _ (List.mem_append_left _ (List.mem_append_left _ (List.mem_append_right _ h)))
theorem hatX10_needWay_321 {args : Array Value} {s : State} (hts : ∀ w ∈ wsX10_needWay, w.before args s = true) (hB : ∀ w ∈ txBad, w.before #[] s = true) : ∀ w ∈ vx_atS RX10 321 "java/lang/IndexOutOfBoundsException" ["java/lang/RuntimeException", "java/lang/Exception"], w.before args s = true := vx_hat (B := txBad) (fun w h => hts w (List.mem_cons_of_mem _ (List.mem_append_right _ h))) hbd_321 (fun w h => va_Nw.use (List.all_eq_true.mp txBad_tab w h) (hB w h))
abbrev rmX10_needWay : Room := { frames := 6, cells := 1, slots := 6, locals := 100 }
set_option maxRecDepth 100000 in
set_option maxHeartbeats 4000000 in
theorem ctX10_needWay (l : Launch) (hl0 : l.stackTraces = false) (dC : Nat → ClassId) (dI : Nat → Nat → Nat) (cyI cyB cyJ cyZ : ClassId) (sz : Nat) (a0 a1 a2 b0_tape b0_kept b0_draftGround b0_draftLaw b0_grid b0_pack b0_pieces b0_thinning b1_law b1_marks b1_stroll b2_xs b2_ys b2_counts b2_walls : Nat) (g0_imageKept : Int32) (g0_wrongByte : Int32) (g1_drawSeed : Int32) (g2_wallCount : Int32) (g2_texts : Int32) (g2_ways : Int32) (p0 : Int32) (post : Unit → Prop) (postX : String → Unit → Prop) (adS : Nat → Nat) (hw : wpX10_needWay post postX g2_ways p0) : vx_Met l yX10_needWay wsX10_needWay rmX10_needWay (va_Pc [.ref a0, .int p0] (wPreX dC dI cyI cyB cyJ cyZ sz (ceX10_needWay cyI cyB cyJ cyZ a0 a1 a2 b0_tape b0_kept b0_draftGround b0_draftLaw b0_grid b0_pack b0_pieces b0_thinning b1_law b1_marks b1_stroll b2_xs b2_ys b2_counts b2_walls g0_imageKept g0_wrongByte g1_drawSeed g2_wallCount g2_texts g2_ways) (txT adS))) (va_Qv post (fun u : Unit => wAt dC dI cyI cyB cyJ cyZ (va_A (ceX10_needWay cyI cyB cyJ cyZ a0 a1 a2 b0_tape b0_kept b0_draftGround b0_draftLaw b0_grid b0_pack b0_pieces b0_thinning b1_law b1_marks b1_stroll b2_xs b2_ys b2_counts b2_walls g0_imageKept g0_wrongByte g1_drawSeed g2_wallCount g2_texts g2_ways) sz) (ceX10_needWay cyI cyB cyJ cyZ a0 a1 a2 b0_tape b0_kept b0_draftGround b0_draftLaw b0_grid b0_pack b0_pieces b0_thinning b1_law b1_marks b1_stroll b2_xs b2_ys b2_counts b2_walls g0_imageKept g0_wrongByte g1_drawSeed g2_wallCount g2_texts g2_ways)) (va_A (ceX10_needWay cyI cyB cyJ cyZ a0 a1 a2 b0_tape b0_kept b0_draftGround b0_draftLaw b0_grid b0_pack b0_pieces b0_thinning b1_law b1_marks b1_stroll b2_xs b2_ys b2_counts b2_walls g0_imageKept g0_wrongByte g1_drawSeed g2_wallCount g2_texts g2_ways) sz)) (vx_X (fun _ : Unit => True) (fun E (u : Unit) t => postX E u ∧ wAt dC dI cyI cyB cyJ cyZ (va_A (ceX10_needWay cyI cyB cyJ cyZ a0 a1 a2 b0_tape b0_kept b0_draftGround b0_draftLaw b0_grid b0_pack b0_pieces b0_thinning b1_law b1_marks b1_stroll b2_xs b2_ys b2_counts b2_walls g0_imageKept g0_wrongByte g1_drawSeed g2_wallCount g2_texts g2_ways) sz) (ceX10_needWay cyI cyB cyJ cyZ a0 a1 a2 b0_tape b0_kept b0_draftGround b0_draftLaw b0_grid b0_pack b0_pieces b0_thinning b1_law b1_marks b1_stroll b2_xs b2_ys b2_counts b2_walls g0_imageKept g0_wrongByte g1_drawSeed g2_wallCount g2_texts g2_ways) t) (va_A (ceX10_needWay cyI cyB cyJ cyZ a0 a1 a2 b0_tape b0_kept b0_draftGround b0_draftLaw b0_grid b0_pack b0_pieces b0_thinning b1_law b1_marks b1_stroll b2_xs b2_ys b2_counts b2_walls g0_imageKept g0_wrongByte g1_drawSeed g2_wallCount g2_texts g2_ways) sz)) 1 6 (va_A (ceX10_needWay cyI cyB cyJ cyZ a0 a1 a2 b0_tape b0_kept b0_draftGround b0_draftLaw b0_grid b0_pack b0_pieces b0_thinning b1_law b1_marks b1_stroll b2_xs b2_ys b2_counts b2_walls g0_imageKept g0_wrongByte g1_drawSeed g2_wallCount g2_texts g2_ways) sz) := by
  refine vx_ofW (cc := cX10_needWay) (maxL := 2) (ret := none) (by decide) rfl ?_
  intro p e s m args below meth c s₁ B hml hT hv
  obtain ⟨rfl, ⟨hsz, hP, hK, hD0, hN⟩, hXs⟩ := hv
  have hx := B.exec
  have hb := B.bytes
  have hr := B.returns
  have hts := atoms_spec (ws := wsX10_needWay) B.pre
  have hown : s.vm.findClass RX10 = some m.cls := findClass_of_methodNamed B.named
  have hlocks := B.notSynchronized
  subst hsz
  have hD := hD0.self (sz := s.heap.size)
  generalize hAe : va_A (ceX10_needWay cyI cyB cyJ cyZ a0 a1 a2 b0_tape b0_kept b0_draftGround b0_draftLaw b0_grid b0_pack b0_pieces b0_thinning b1_law b1_marks b1_stroll b2_xs b2_ys b2_counts b2_walls g0_imageKept g0_wrongByte g1_drawSeed g2_wallCount g2_texts g2_ways) s.heap.size = A at hD hXs ⊢
  have hA : ∀ q : Nat, s.heap.size ≤ q → A q := fun q h => by rw [← hAe]; exact Or.inr h
  have hS : va_S A s.heap s.heap [] := va_S.rf
  have C0 : cxM p s m meth c _ wsX10_needWay RX10 cX10_needWay 2 none := ⟨hx, hb, hr, hml, hown, hts, hlocks⟩
  have hl := lv_entry ([.ref a0, .int p0]) (n := 2) (Nat.le_of_ble_eq_true rfl)
  rw [lg_entry_eq]
  generalize (lg_sl ([.ref a0, .int p0]) ++ List.replicate (2 - (lg_sl ([.ref a0, .int p0])).length) Slot.unset).toArray = ls at hl ⊢
  have hl : lv_has ls 2 [(0, .ref a0), (1, .int p0)] := hl
  show W p l e rmX10_needWay s m _ below meth c _ _ _ _ _ _
  refine wq (fun Q hQ => ?_)
  refine lv_aload_n hx hb dX10_needWay_0 rfl (lv_at hl 0 rfl) ?_
  refine va_get (D := (dC, dI)) (ci := 10) (v := .ref a1) (C := RX10) (T := TX10) (N := 11) hx hb hts inX10_needWay_X10 hown hK hP 0 rfl rfl 1 (by decide) (hts (.fieldLink RX10 19 "LeadPark" "scene" "LLeadPark$Scene;") (List.mem_of_getElem? (i := 3) rfl)) (fun _ h9 => h9) rfl dX10_needWay_1 ?_
  refine va_getN (D := (dC, dI)) (ci := 6) (v := .ref a2) (C := RX6) (T := TX6) (N := 5) hx hb hts inX10_needWay_X6 hown hK hP 1 rfl rfl 0 (by decide) (va_Nw.use rfl (hN _ (List.mem_of_getElem? (i := 29) rfl))) (fun _ h9 => h9) rfl dX10_needWay_4 ?_
  refine lv_iload_n hx hb dX10_needWay_7 rfl (lv_at hl 1 rfl) ?_
  have hPc := hP.sub (ws' := (ceX1_hasWay cyI cyB cyJ cyZ a2 b2_xs b2_ys b2_counts b2_walls g2_wallCount g2_texts g2_ways)) [2] rfl
  have hDc := hD.sub (ws' := (ceX1_hasWay cyI cyB cyJ cyZ a2 b2_xs b2_ys b2_counts b2_walls g2_wallCount g2_texts g2_ways)) [2] (by decide) rfl
  have hFc := va_free (wc := (ceX1_hasWay cyI cyB cyJ cyZ a2 b2_xs b2_ys b2_counts b2_walls g2_wallCount g2_texts g2_ways)) hD hS hA [2] rfl
  refine va_calli (va_runV (As := [.int p0]) (rest := []) ⟨hx, hb, hml, hown, hts⟩ (ctX1_hasWay l dC dI cyI cyB cyJ cyZ _ a2 b2_xs b2_ys b2_counts b2_walls g2_wallCount g2_texts g2_ways p0 _ hw) (cwV 1 hts gX10_needWay_X1_hasWay rfl rfl rfl (by decide +kernel) ⟨Nat.le_of_ble_eq_true rfl, Nat.le_of_ble_eq_true rfl⟩) ⟨wPre_blind, va_recv hK hPc (ci := 1) (q0 := 0) rfl rfl, fun U hU hW => wPre_of hPc hK hDc hN hU hW⟩ rfl rfl hl.1 rfl (lv_room (Nat.le_of_ble_eq_true rfl)) dX10_needWay_8 ⟨(by decide), (by decide)⟩) hS (fun q _ h => hFc q h) hFc (fun r2 u1 t H1 locs ht hvm hw hB hz1 hk1 hS => ?_)
  obtain ⟨hP1, hK1, hD1⟩ := hB
  rw [ht] at hP1
  obtain ⟨hP, hD⟩ := va_join (wr := pickW (ceX10_needWay cyI cyB cyJ cyZ a0 a1 a2 b0_tape b0_kept b0_draftGround b0_draftLaw b0_grid b0_pack b0_pieces b0_thinning b1_law b1_marks b1_stroll b2_xs b2_ys b2_counts b2_walls g0_imageKept g0_wrongByte g1_drawSeed g2_wallCount g2_texts g2_ways) [0, 1]) (w1 := (ceX1_hasWay cyI cyB cyJ cyZ a2 b2_xs b2_ys b2_counts b2_walls g2_wallCount g2_texts g2_ways)) hP hD [2] [0, 1] rfl rfl (by decide) (by decide) hk1 hFc hP1 hD1
  have hP := hP.sub (ws' := (ceX10_needWay cyI cyB cyJ cyZ a0 a1 a2 b0_tape b0_kept b0_draftGround b0_draftLaw b0_grid b0_pack b0_pieces b0_thinning b1_law b1_marks b1_stroll b2_xs b2_ys b2_counts b2_walls g0_imageKept g0_wrongByte g1_drawSeed g2_wallCount g2_texts g2_ways)) [0, 1, 2] rfl
  have hD := hD.sub (ws' := (ceX10_needWay cyI cyB cyJ cyZ a0 a1 a2 b0_tape b0_kept b0_draftGround b0_draftLaw b0_grid b0_pack b0_pieces b0_thinning b1_law b1_marks b1_stroll b2_xs b2_ys b2_counts b2_walls g0_imageKept g0_wrongByte g1_drawSeed g2_wallCount g2_texts g2_ways)) [0, 1, 2] (by decide) rfl
  generalize H1 = H at hP hS ⊢
  refine lv_if_ne (tgt := 25) hx hb dX10_needWay_11 (by decide) (fun hc => ?_) (fun hc => ?_)
  · have hw := hw.1 hc
    rw [hQ]
    refine vx_ret ?_
    refine W.widen (k := 1) (n := 6) (by decide) (by decide) ?_
    exact W.vret hx hb hr (fun t ht hW => ⟨⟨(), rfl, hw, by rw [ht]; exact hP, va_K.moved hW.alike hK, hD⟩, hS.F ht⟩) hS.2.2 dX10_needWay_25
  · have hw := hw.2 hc
    rw [hQ]
    exact vx_throwSW (cls := "java/lang/IndexOutOfBoundsException") (names := ["java/lang/RuntimeException", "java/lang/Exception"]) (mc := 1) (ms := 6) hx hb hl0 hown (by decide +kernel) (by decide +kernel) (hts (.classLink RX10 317 "java/lang/IndexOutOfBoundsException") (List.mem_of_getElem? (i := 1) rfl)) (hts (.initialized "java/lang/IndexOutOfBoundsException") (List.mem_of_getElem? (i := 2) rfl)) (hXs.1.2 42 _ rfl).1 (hatX10_needWay_321 hts hXs.2.2.2) hgd_321 hXs.2.1 hXs.2.2.1 hS (hl.1.trans hml.symm) dX10_needWay_14 dX10_needWay_17 dX10_needWay_18 dX10_needWay_21 dX10_needWay_24 (fun x h => (hT x h).elim) (by decide) (by decide) (by decide) (by decide) hlocks (fun t hvm hz hk => thr_X () hw hP hK hD hS hvm hz hk) hS.2.2 (by decide) (by decide)
/-! LeadPark.corners (I)I -/
abbrev ceX10_corners (cyI cyB cyJ cyZ : ClassId) (a0 a1 a2 a3 b0_tape b0_kept b0_draftGround b0_draftLaw b0_grid b0_pack b0_pieces b0_thinning b1_law b1_marks b1_stroll b2_xs b2_ys b2_walls : Nat) (g0_imageKept : Int32) (g0_wrongByte : Int32) (g1_drawSeed : Int32) (g2_wallCount : Int32) (g2_texts : Int32) (g2_ways : Int32) (f3 : Nat → Int32) : va_W := [(a0, .inr (10, [.ref b0_tape, .ref a1, .ref b0_kept, .ref b0_draftGround, .ref b0_draftLaw, .ref b0_grid, .ref b0_pack, .ref b0_pieces, .ref b0_thinning, .int g0_imageKept, .int g0_wrongByte])), (a1, .inr (6, [.ref a2, .ref b1_law, .ref b1_marks, .ref b1_stroll, .int g1_drawSeed])), (a2, .inr (1, [.ref b2_xs, .ref b2_ys, .ref a3, .ref b2_walls, .int g2_ways, .int g2_wallCount, .int g2_texts])), (a3, .inl (cyI, 12, .inl f3))]

theorem inX10_corners_X1 : ∀ w ∈ wsX10, w ∈ wsX10_corners := fun _ h => List.mem_cons_of_mem _ (List.mem_append_left _ (List.mem_append_right _ h))
theorem inX10_corners_X10 : ∀ w ∈ wsX100, w ∈ wsX10_corners := fun _ h => List.mem_cons_of_mem _ (List.mem_append_left _ (List.mem_append_left _ (List.mem_append_left _ (List.mem_append_right _ h))))
theorem inX10_corners_X6 : ∀ w ∈ wsX60, w ∈ wsX10_corners := fun _ h => List.mem_cons_of_mem _ (List.mem_append_left _ (List.mem_append_left _ (List.mem_append_right _ h)))
abbrev rmX10_corners : Room := { frames := 7, cells := 1, slots := 6, locals := 121 }
set_option maxRecDepth 100000 in
set_option maxHeartbeats 4000000 in
theorem ctX10_corners (l : Launch) (hl0 : l.stackTraces = false) (dC : Nat → ClassId) (dI : Nat → Nat → Nat) (cyI cyB cyJ cyZ : ClassId) (sz : Nat) (a0 a1 a2 a3 b0_tape b0_kept b0_draftGround b0_draftLaw b0_grid b0_pack b0_pieces b0_thinning b1_law b1_marks b1_stroll b2_xs b2_ys b2_walls : Nat) (g0_imageKept : Int32) (g0_wrongByte : Int32) (g1_drawSeed : Int32) (g2_wallCount : Int32) (g2_texts : Int32) (g2_ways : Int32) (f3 : Nat → Int32) (p0 : Int32) (post : Int32 → Unit → Prop) (postX : String → Unit → Prop) (adS : Nat → Nat) (hw : wpX10_corners post postX g2_ways f3 p0) : vx_Met l yX10_corners wsX10_corners rmX10_corners (va_Pc [.ref a0, .int p0] (wPreX dC dI cyI cyB cyJ cyZ sz (ceX10_corners cyI cyB cyJ cyZ a0 a1 a2 a3 b0_tape b0_kept b0_draftGround b0_draftLaw b0_grid b0_pack b0_pieces b0_thinning b1_law b1_marks b1_stroll b2_xs b2_ys b2_walls g0_imageKept g0_wrongByte g1_drawSeed g2_wallCount g2_texts g2_ways f3) (txT adS))) (va_Qi post (fun u : Unit => wAt dC dI cyI cyB cyJ cyZ (va_A (ceX10_corners cyI cyB cyJ cyZ a0 a1 a2 a3 b0_tape b0_kept b0_draftGround b0_draftLaw b0_grid b0_pack b0_pieces b0_thinning b1_law b1_marks b1_stroll b2_xs b2_ys b2_walls g0_imageKept g0_wrongByte g1_drawSeed g2_wallCount g2_texts g2_ways f3) sz) (ceX10_corners cyI cyB cyJ cyZ a0 a1 a2 a3 b0_tape b0_kept b0_draftGround b0_draftLaw b0_grid b0_pack b0_pieces b0_thinning b1_law b1_marks b1_stroll b2_xs b2_ys b2_walls g0_imageKept g0_wrongByte g1_drawSeed g2_wallCount g2_texts g2_ways f3)) (va_A (ceX10_corners cyI cyB cyJ cyZ a0 a1 a2 a3 b0_tape b0_kept b0_draftGround b0_draftLaw b0_grid b0_pack b0_pieces b0_thinning b1_law b1_marks b1_stroll b2_xs b2_ys b2_walls g0_imageKept g0_wrongByte g1_drawSeed g2_wallCount g2_texts g2_ways f3) sz)) (vx_X (fun _ : Unit => True) (fun E (u : Unit) t => postX E u ∧ wAt dC dI cyI cyB cyJ cyZ (va_A (ceX10_corners cyI cyB cyJ cyZ a0 a1 a2 a3 b0_tape b0_kept b0_draftGround b0_draftLaw b0_grid b0_pack b0_pieces b0_thinning b1_law b1_marks b1_stroll b2_xs b2_ys b2_walls g0_imageKept g0_wrongByte g1_drawSeed g2_wallCount g2_texts g2_ways f3) sz) (ceX10_corners cyI cyB cyJ cyZ a0 a1 a2 a3 b0_tape b0_kept b0_draftGround b0_draftLaw b0_grid b0_pack b0_pieces b0_thinning b1_law b1_marks b1_stroll b2_xs b2_ys b2_walls g0_imageKept g0_wrongByte g1_drawSeed g2_wallCount g2_texts g2_ways f3) t) (va_A (ceX10_corners cyI cyB cyJ cyZ a0 a1 a2 a3 b0_tape b0_kept b0_draftGround b0_draftLaw b0_grid b0_pack b0_pieces b0_thinning b1_law b1_marks b1_stroll b2_xs b2_ys b2_walls g0_imageKept g0_wrongByte g1_drawSeed g2_wallCount g2_texts g2_ways f3) sz)) 1 6 (va_A (ceX10_corners cyI cyB cyJ cyZ a0 a1 a2 a3 b0_tape b0_kept b0_draftGround b0_draftLaw b0_grid b0_pack b0_pieces b0_thinning b1_law b1_marks b1_stroll b2_xs b2_ys b2_walls g0_imageKept g0_wrongByte g1_drawSeed g2_wallCount g2_texts g2_ways f3) sz) := by
  refine vx_ofW (cc := cX10_corners) (maxL := 2) (ret := (some .int)) (by decide) rfl ?_
  intro p e s m args below meth c s₁ B hml hT hv
  obtain ⟨rfl, ⟨hsz, hP, hK, hD0, hN⟩, hXs⟩ := hv
  have hx := B.exec
  have hb := B.bytes
  have hr := B.returns
  have hts := atoms_spec (ws := wsX10_corners) B.pre
  have hown : s.vm.findClass RX10 = some m.cls := findClass_of_methodNamed B.named
  have hlocks := B.notSynchronized
  subst hsz
  have hD := hD0.self (sz := s.heap.size)
  generalize hAe : va_A (ceX10_corners cyI cyB cyJ cyZ a0 a1 a2 a3 b0_tape b0_kept b0_draftGround b0_draftLaw b0_grid b0_pack b0_pieces b0_thinning b1_law b1_marks b1_stroll b2_xs b2_ys b2_walls g0_imageKept g0_wrongByte g1_drawSeed g2_wallCount g2_texts g2_ways f3) s.heap.size = A at hD hXs ⊢
  have hA : ∀ q : Nat, s.heap.size ≤ q → A q := fun q h => by rw [← hAe]; exact Or.inr h
  have hS : va_S A s.heap s.heap [] := va_S.rf
  have C0 : cxM p s m meth c _ wsX10_corners RX10 cX10_corners 2 (some .int) := ⟨hx, hb, hr, hml, hown, hts, hlocks⟩
  have hl := lv_entry ([.ref a0, .int p0]) (n := 2) (Nat.le_of_ble_eq_true rfl)
  rw [lg_entry_eq]
  generalize (lg_sl ([.ref a0, .int p0]) ++ List.replicate (2 - (lg_sl ([.ref a0, .int p0])).length) Slot.unset).toArray = ls at hl ⊢
  have hl : lv_has ls 2 [(0, .ref a0), (1, .int p0)] := hl
  show W p l e rmX10_corners s m _ below meth c _ _ _ _ _ _
  refine wq (fun Q hQ => ?_)
  refine lv_aload_n hx hb dX10_corners_0 rfl (lv_at hl 0 rfl) ?_
  refine lv_iload_n hx hb dX10_corners_1 rfl (lv_at hl 1 rfl) ?_
  have hPc := hP.sub (ws' := (ceX10_needWay cyI cyB cyJ cyZ a0 a1 a2 b0_tape b0_kept b0_draftGround b0_draftLaw b0_grid b0_pack b0_pieces b0_thinning b1_law b1_marks b1_stroll b2_xs b2_ys a3 b2_walls g0_imageKept g0_wrongByte g1_drawSeed g2_wallCount g2_texts g2_ways)) [0, 1, 2] rfl
  have hDc := hD.sub (ws' := (ceX10_needWay cyI cyB cyJ cyZ a0 a1 a2 b0_tape b0_kept b0_draftGround b0_draftLaw b0_grid b0_pack b0_pieces b0_thinning b1_law b1_marks b1_stroll b2_xs b2_ys a3 b2_walls g0_imageKept g0_wrongByte g1_drawSeed g2_wallCount g2_texts g2_ways)) [0, 1, 2] (by decide) rfl
  have hFc := va_free (wc := (ceX10_needWay cyI cyB cyJ cyZ a0 a1 a2 b0_tape b0_kept b0_draftGround b0_draftLaw b0_grid b0_pack b0_pieces b0_thinning b1_law b1_marks b1_stroll b2_xs b2_ys a3 b2_walls g0_imageKept g0_wrongByte g1_drawSeed g2_wallCount g2_texts g2_ways)) hD hS hA [0, 1, 2] rfl
  refine vx_callv (vx_runV (As := [.int p0]) (rest := []) ⟨hx, hb, hml, hown, hts⟩ (ctX10_needWay l hl0 dC dI cyI cyB cyJ cyZ _ a0 a1 a2 b0_tape b0_kept b0_draftGround b0_draftLaw b0_grid b0_pack b0_pieces b0_thinning b1_law b1_marks b1_stroll b2_xs b2_ys a3 b2_walls g0_imageKept g0_wrongByte g1_drawSeed g2_wallCount g2_texts g2_ways p0 _ _ adS hw) (cwV 1 hts gX10_corners_X10_needWay rfl rfl rfl (by decide +kernel) ⟨Nat.le_of_ble_eq_true rfl, Nat.le_of_ble_eq_true rfl⟩) ⟨wPreX_blind (xOk_txT adS), va_recv hK hPc (ci := 10) (q0 := 0) rfl rfl, fun U hU hW => wPreX_of (xOk_txT adS) hPc hK hDc hN hXs hS hFc hU hW⟩ rfl rfl hl.1 rfl (lv_room (Nat.le_of_ble_eq_true rfl)) dX10_corners_2 ⟨(by decide), (by decide)⟩) hS (fun q _ h => hFc q h) hFc (fun q _ h => hFc q h) (fun E ce q9 u1 t H1 locs ht hvm hpx hBX hz1 hk1 hS hce hcv hcl => ?_) (fun u1 t H1 locs ht hvm hw hB hz1 hk1 hS => ?_)
  · obtain ⟨hw, hP1, hK1, hD1⟩ := hBX
    rw [ht] at hP1
    obtain ⟨hP, hD⟩ := va_join (wr := pickW (ceX10_corners cyI cyB cyJ cyZ a0 a1 a2 a3 b0_tape b0_kept b0_draftGround b0_draftLaw b0_grid b0_pack b0_pieces b0_thinning b1_law b1_marks b1_stroll b2_xs b2_ys b2_walls g0_imageKept g0_wrongByte g1_drawSeed g2_wallCount g2_texts g2_ways f3) [3]) (w1 := (ceX10_needWay cyI cyB cyJ cyZ a0 a1 a2 b0_tape b0_kept b0_draftGround b0_draftLaw b0_grid b0_pack b0_pieces b0_thinning b1_law b1_marks b1_stroll b2_xs b2_ys a3 b2_walls g0_imageKept g0_wrongByte g1_drawSeed g2_wallCount g2_texts g2_ways)) hP hD [0, 1, 2] [3] rfl rfl (by decide) (by decide) hk1 hFc hP1 hD1
    have hP := hP.sub (ws' := (ceX10_corners cyI cyB cyJ cyZ a0 a1 a2 a3 b0_tape b0_kept b0_draftGround b0_draftLaw b0_grid b0_pack b0_pieces b0_thinning b1_law b1_marks b1_stroll b2_xs b2_ys b2_walls g0_imageKept g0_wrongByte g1_drawSeed g2_wallCount g2_texts g2_ways f3)) [1, 2, 3, 0] rfl
    have hD := hD.sub (ws' := (ceX10_corners cyI cyB cyJ cyZ a0 a1 a2 a3 b0_tape b0_kept b0_draftGround b0_draftLaw b0_grid b0_pack b0_pieces b0_thinning b1_law b1_marks b1_stroll b2_xs b2_ys b2_walls g0_imageKept g0_wrongByte g1_drawSeed g2_wallCount g2_texts g2_ways f3)) [1, 2, 3, 0] (by decide) rfl
    rw [hQ]
    exact vx_widen (k := 1) (n := 6) (by decide) (by decide) (vx_out (fun x h => (hT x h).elim) hlocks hce hcv hcl (fun t9 ht9 hvm9 => ⟨(), trivial, ⟨hw, by rw [ht9]; exact hP, va_K.moved hvm9 hK, hD⟩, hS.F ht9⟩) hS.2.2 (by decide) (by decide))
  -- returned
  obtain ⟨hP1, hK1, hD1⟩ := hB
  rw [ht] at hP1
  obtain ⟨hP, hD⟩ := va_join (wr := pickW (ceX10_corners cyI cyB cyJ cyZ a0 a1 a2 a3 b0_tape b0_kept b0_draftGround b0_draftLaw b0_grid b0_pack b0_pieces b0_thinning b1_law b1_marks b1_stroll b2_xs b2_ys b2_walls g0_imageKept g0_wrongByte g1_drawSeed g2_wallCount g2_texts g2_ways f3) [3]) (w1 := (ceX10_needWay cyI cyB cyJ cyZ a0 a1 a2 b0_tape b0_kept b0_draftGround b0_draftLaw b0_grid b0_pack b0_pieces b0_thinning b1_law b1_marks b1_stroll b2_xs b2_ys a3 b2_walls g0_imageKept g0_wrongByte g1_drawSeed g2_wallCount g2_texts g2_ways)) hP hD [0, 1, 2] [3] rfl rfl (by decide) (by decide) hk1 hFc hP1 hD1
  have hP := hP.sub (ws' := (ceX10_corners cyI cyB cyJ cyZ a0 a1 a2 a3 b0_tape b0_kept b0_draftGround b0_draftLaw b0_grid b0_pack b0_pieces b0_thinning b1_law b1_marks b1_stroll b2_xs b2_ys b2_walls g0_imageKept g0_wrongByte g1_drawSeed g2_wallCount g2_texts g2_ways f3)) [1, 2, 3, 0] rfl
  have hD := hD.sub (ws' := (ceX10_corners cyI cyB cyJ cyZ a0 a1 a2 a3 b0_tape b0_kept b0_draftGround b0_draftLaw b0_grid b0_pack b0_pieces b0_thinning b1_law b1_marks b1_stroll b2_xs b2_ys b2_walls g0_imageKept g0_wrongByte g1_drawSeed g2_wallCount g2_texts g2_ways f3)) [1, 2, 3, 0] (by decide) rfl
  generalize H1 = H at hP hS ⊢
  refine W.widen (k := 1) (n := 6) (by decide) (by decide) ?_
  refine lv_aload_n hx hb dX10_corners_5 rfl (lv_at hl 0 rfl) ?_
  refine va_get (D := (dC, dI)) (ci := 10) (v := .ref a1) (C := RX10) (T := TX10) (N := 11) hx hb hts inX10_corners_X10 hown hK hP 0 rfl rfl 1 (by decide) (hts (.fieldLink RX10 19 "LeadPark" "scene" "LLeadPark$Scene;") (List.mem_of_getElem? (i := 1) rfl)) (fun _ h9 => h9) rfl dX10_corners_6 ?_
  refine va_getN (D := (dC, dI)) (ci := 6) (v := .ref a2) (C := RX6) (T := TX6) (N := 5) hx hb hts inX10_corners_X6 hown hK hP 1 rfl rfl 0 (by decide) (va_Nw.use rfl (hN _ (List.mem_of_getElem? (i := 29) rfl))) (fun _ h9 => h9) rfl dX10_corners_9 ?_
  refine va_getN (D := (dC, dI)) (ci := 1) (v := .ref a3) (C := RX1) (T := TX1) (N := 7) hx hb hts inX10_corners_X1 hown hK hP 2 rfl rfl 2 (by decide) (va_Nw.use rfl (hN _ (List.mem_of_getElem? (i := 8) rfl))) (fun _ h9 => h9) rfl dX10_corners_12 ?_
  refine lv_iload_n hx hb dX10_corners_15 rfl (lv_at hl 1 rfl) ?_
  obtain ⟨hi, hw⟩ := hw
  refine va_iald hx hb hK hP 3 0 rfl rfl hi dX10_corners_16 ?_
  rw [hQ]
  refine vx_ret ?_
  refine W.widen (k := 1) (n := 6) (by decide) (by decide) ?_
  exact W.iret (v := f3 p0.toNatClampNeg) hx hb hr (fun t ht hW => ⟨⟨f3 p0.toNatClampNeg, (), rfl, hw, by rw [ht]; exact hP, va_K.moved hW.alike hK, hD⟩, hS.F ht⟩) hS.2.2 dX10_corners_17
