/-! LeadParkModel.isAt (II)Z -/
abbrev ceX11_isAt (cyI cyB cyJ cyZ : ClassId) (a0 a1 b0_world b0_image b0_before b0_taken b0_five b0_value b0_far b0_lead b0_walk b0_ends b0_manX b0_manY b0_dogX b0_dogY b0_row b0_round b0_farOne b0_leads b0_drags b0_from b0_near : Nat) (g0_thrown : Int32) (g0_hasImage : Int32) (g0_remembered : Int32) (g0_taped : Int32) (g0_begin : Int32) (g0_deep : Int32) (g0_faultAt : Int32) (g0_steps : Int32) (g0_men : Int32) (g0_dogs : Int32) (g0_point : Int32) (g0_end : Int32) (f1 : Nat → Int32) : va_W := [(a0, .inr (11, [.int g0_thrown, .ref b0_world, .ref b0_image, .ref b0_before, .int g0_hasImage, .ref b0_taken, .int g0_remembered, .ref a1, .int g0_taped, .int g0_point, .int g0_end, .int g0_begin, .int g0_deep, .int g0_faultAt, .ref b0_five, .int g0_steps, .ref b0_value, .ref b0_far, .int g0_men, .int g0_dogs, .ref b0_lead, .ref b0_walk, .ref b0_ends, .ref b0_manX, .ref b0_manY, .ref b0_dogX, .ref b0_dogY, .ref b0_row, .ref b0_round, .ref b0_farOne, .ref b0_leads, .ref b0_drags, .ref b0_from, .ref b0_near])), (a1, .inl (cyB, 400, .inl f1))]

theorem inX11_isAt_X11 : ∀ w ∈ wsX110, w ∈ wsX11_isAt := fun _ h => List.mem_cons_of_mem _ (List.mem_append_right _ h)
abbrev rmX11_isAt : Room := { frames := 0, cells := 0, slots := 0, locals := 0 }
set_option maxRecDepth 100000 in
set_option maxHeartbeats 4000000 in
theorem ctX11_isAt (l : Launch) (dC : Nat → ClassId) (dI : Nat → Nat → Nat) (cyI cyB cyJ cyZ : ClassId) (sz : Nat) (a0 a1 b0_world b0_image b0_before b0_taken b0_five b0_value b0_far b0_lead b0_walk b0_ends b0_manX b0_manY b0_dogX b0_dogY b0_row b0_round b0_farOne b0_leads b0_drags b0_from b0_near : Nat) (g0_thrown : Int32) (g0_hasImage : Int32) (g0_remembered : Int32) (g0_taped : Int32) (g0_begin : Int32) (g0_deep : Int32) (g0_faultAt : Int32) (g0_steps : Int32) (g0_men : Int32) (g0_dogs : Int32) (g0_point : Int32) (g0_end : Int32) (f1 : Nat → Int32) (p0 : Int32) (p1 : Int32) (post : Int32 → Unit → Prop) (hw : wpX11_isAt post g0_point g0_end f1 p0 p1) : Met l yX11_isAt wsX11_isAt rmX11_isAt (va_Pc [.ref a0, .int p0, .int p1] (wPre dC dI cyI cyB cyJ cyZ sz (ceX11_isAt cyI cyB cyJ cyZ a0 a1 b0_world b0_image b0_before b0_taken b0_five b0_value b0_far b0_lead b0_walk b0_ends b0_manX b0_manY b0_dogX b0_dogY b0_row b0_round b0_farOne b0_leads b0_drags b0_from b0_near g0_thrown g0_hasImage g0_remembered g0_taped g0_begin g0_deep g0_faultAt g0_steps g0_men g0_dogs g0_point g0_end f1))) (va_Qi post (fun u : Unit => wAt dC dI cyI cyB cyJ cyZ (va_A (ceX11_isAt cyI cyB cyJ cyZ a0 a1 b0_world b0_image b0_before b0_taken b0_five b0_value b0_far b0_lead b0_walk b0_ends b0_manX b0_manY b0_dogX b0_dogY b0_row b0_round b0_farOne b0_leads b0_drags b0_from b0_near g0_thrown g0_hasImage g0_remembered g0_taped g0_begin g0_deep g0_faultAt g0_steps g0_men g0_dogs g0_point g0_end f1) sz) (ceX11_isAt cyI cyB cyJ cyZ a0 a1 b0_world b0_image b0_before b0_taken b0_five b0_value b0_far b0_lead b0_walk b0_ends b0_manX b0_manY b0_dogX b0_dogY b0_row b0_round b0_farOne b0_leads b0_drags b0_from b0_near g0_thrown g0_hasImage g0_remembered g0_taped g0_begin g0_deep g0_faultAt g0_steps g0_men g0_dogs g0_point g0_end f1)) (va_A (ceX11_isAt cyI cyB cyJ cyZ a0 a1 b0_world b0_image b0_before b0_taken b0_five b0_value b0_far b0_lead b0_walk b0_ends b0_manX b0_manY b0_dogX b0_dogY b0_row b0_round b0_farOne b0_leads b0_drags b0_from b0_near g0_thrown g0_hasImage g0_remembered g0_taped g0_begin g0_deep g0_faultAt g0_steps g0_men g0_dogs g0_point g0_end f1) sz)) 0 0 (va_A (ceX11_isAt cyI cyB cyJ cyZ a0 a1 b0_world b0_image b0_before b0_taken b0_five b0_value b0_far b0_lead b0_walk b0_ends b0_manX b0_manY b0_dogX b0_dogY b0_row b0_round b0_farOne b0_leads b0_drags b0_from b0_near g0_thrown g0_hasImage g0_remembered g0_taped g0_begin g0_deep g0_faultAt g0_steps g0_men g0_dogs g0_point g0_end f1) sz) := by
  refine Met.ofW (cc := cX11_isAt) (maxL := 3) (ret := (some .boolean)) (by decide) rfl ?_
  intro p e s m args below meth c s₁ B hml hv
  obtain ⟨rfl, hsz, hP, hK, hD0, hN⟩ := hv
  have hx := B.exec
  have hb := B.bytes
  have hr := B.returns
  have hts := atoms_spec (ws := wsX11_isAt) B.pre
  have hown : s.vm.findClass RX11 = some m.cls := findClass_of_methodNamed B.named
  have hlocks := B.notSynchronized
  subst hsz
  have hD := hD0.self (sz := s.heap.size)
  generalize hAe : va_A (ceX11_isAt cyI cyB cyJ cyZ a0 a1 b0_world b0_image b0_before b0_taken b0_five b0_value b0_far b0_lead b0_walk b0_ends b0_manX b0_manY b0_dogX b0_dogY b0_row b0_round b0_farOne b0_leads b0_drags b0_from b0_near g0_thrown g0_hasImage g0_remembered g0_taped g0_begin g0_deep g0_faultAt g0_steps g0_men g0_dogs g0_point g0_end f1) s.heap.size = A at hD ⊢
  have hA : ∀ q : Nat, s.heap.size ≤ q → A q := fun q h => by rw [← hAe]; exact Or.inr h
  have hS : va_S A s.heap s.heap [] := va_S.rf
  have C0 : cxM p s m meth c _ wsX11_isAt RX11 cX11_isAt 3 (some .boolean) := ⟨hx, hb, hr, hml, hown, hts, hlocks⟩
  have hl := lv_entry ([.ref a0, .int p0, .int p1]) (n := 3) (Nat.le_of_ble_eq_true rfl)
  rw [lg_entry_eq]
  generalize (lg_sl ([.ref a0, .int p0, .int p1]) ++ List.replicate (3 - (lg_sl ([.ref a0, .int p0, .int p1])).length) Slot.unset).toArray = ls at hl ⊢
  have hl : lv_has ls 3 [(0, .ref a0), (1, .int p0), (2, .int p1)] := hl
  show W p l e rmX11_isAt s m _ below meth c _ _ _ _ _ _
  refine wq (fun Q hQ => ?_)
  refine lv_aload_n hx hb dX11_isAt_0 rfl (lv_at hl 0 rfl) ?_
  refine va_get (D := (dC, dI)) (ci := 11) (v := .int g0_point) (C := RX11) (T := TX11) (N := 34) hx hb hts inX11_isAt_X11 hown hK hP 0 rfl rfl 9 (by decide) (hts (.fieldLink RX11 112 "LeadParkModel" "point" "I") (List.mem_of_getElem? (i := 1) rfl)) (fun _ h9 => h9) rfl dX11_isAt_1 ?_
  refine lv_aload_n hx hb dX11_isAt_4 rfl (lv_at hl 0 rfl) ?_
  refine va_get (D := (dC, dI)) (ci := 11) (v := .int g0_end) (C := RX11) (T := TX11) (N := 34) hx hb hts inX11_isAt_X11 hown hK hP 0 rfl rfl 10 (by decide) (hts (.fieldLink RX11 115 "LeadParkModel" "end" "I") (List.mem_of_getElem? (i := 2) rfl)) (fun _ h9 => h9) rfl dX11_isAt_5 ?_
  refine lv_icmp_ge (tgt := 41) hx hb dX11_isAt_8 (by decide) (fun hc => ?_) (fun hc => ?_)
  · have hw := hw.1 hc
    refine lv_iconst (v := 0) hx hb dX11_isAt_41 (by decide) ?_
    rw [hQ]
    exact W.zret (v := 0) (ty := .boolean) hx hb hr rfl (fun t ht hW => ⟨⟨0, (), rfl, hw, by rw [ht]; exact hP, va_K.moved hW.alike hK, hD⟩, hS.F ht⟩) hS.2.2 dX11_isAt_42
  · have hw := hw.2 hc
    refine lv_aload_n hx hb dX11_isAt_11 rfl (lv_at hl 0 rfl) ?_
    refine va_get (D := (dC, dI)) (ci := 11) (v := .ref a1) (C := RX11) (T := TX11) (N := 34) hx hb hts inX11_isAt_X11 hown hK hP 0 rfl rfl 7 (by decide) (hts (.fieldLink RX11 26 "LeadParkModel" "tape" "[B") (List.mem_of_getElem? (i := 3) rfl)) (fun _ h9 => h9) rfl dX11_isAt_12 ?_
    refine lv_aload_n hx hb dX11_isAt_15 rfl (lv_at hl 0 rfl) ?_
    refine va_get (D := (dC, dI)) (ci := 11) (v := .int g0_point) (C := RX11) (T := TX11) (N := 34) hx hb hts inX11_isAt_X11 hown hK hP 0 rfl rfl 9 (by decide) (hts (.fieldLink RX11 112 "LeadParkModel" "point" "I") (List.mem_of_getElem? (i := 1) rfl)) (fun _ h9 => h9) rfl dX11_isAt_16 ?_
    obtain ⟨hi, hw⟩ := hw
    refine va_bald hx hb hK hP 1 1 rfl rfl hi dX11_isAt_19 ?_
    refine lv_iload_n hx hb dX11_isAt_20 rfl (lv_at hl 1 rfl) ?_
    refine lv_icmp_lt (tgt := 41) hx hb dX11_isAt_21 (by decide) (fun hc => ?_) (fun hc => ?_)
    · have hw := hw.1 hc
      refine lv_iconst (v := 0) hx hb dX11_isAt_41 (by decide) ?_
      rw [hQ]
      exact W.zret (v := 0) (ty := .boolean) hx hb hr rfl (fun t ht hW => ⟨⟨0, (), rfl, hw, by rw [ht]; exact hP, va_K.moved hW.alike hK, hD⟩, hS.F ht⟩) hS.2.2 dX11_isAt_42
    · have hw := hw.2 hc
      refine lv_aload_n hx hb dX11_isAt_24 rfl (lv_at hl 0 rfl) ?_
      refine va_get (D := (dC, dI)) (ci := 11) (v := .ref a1) (C := RX11) (T := TX11) (N := 34) hx hb hts inX11_isAt_X11 hown hK hP 0 rfl rfl 7 (by decide) (hts (.fieldLink RX11 26 "LeadParkModel" "tape" "[B") (List.mem_of_getElem? (i := 3) rfl)) (fun _ h9 => h9) rfl dX11_isAt_25 ?_
      refine lv_aload_n hx hb dX11_isAt_28 rfl (lv_at hl 0 rfl) ?_
      refine va_get (D := (dC, dI)) (ci := 11) (v := .int g0_point) (C := RX11) (T := TX11) (N := 34) hx hb hts inX11_isAt_X11 hown hK hP 0 rfl rfl 9 (by decide) (hts (.fieldLink RX11 112 "LeadParkModel" "point" "I") (List.mem_of_getElem? (i := 1) rfl)) (fun _ h9 => h9) rfl dX11_isAt_29 ?_
      obtain ⟨hi, hw⟩ := hw
      refine va_bald hx hb hK hP 1 1 rfl rfl hi dX11_isAt_32 ?_
      refine lv_iload_n hx hb dX11_isAt_33 rfl (lv_at hl 2 rfl) ?_
      refine lv_icmp_gt (tgt := 41) hx hb dX11_isAt_34 (by decide) (fun hc => ?_) (fun hc => ?_)
      · have hw := hw.1 hc
        refine lv_iconst (v := 0) hx hb dX11_isAt_41 (by decide) ?_
        rw [hQ]
        exact W.zret (v := 0) (ty := .boolean) hx hb hr rfl (fun t ht hW => ⟨⟨0, (), rfl, hw, by rw [ht]; exact hP, va_K.moved hW.alike hK, hD⟩, hS.F ht⟩) hS.2.2 dX11_isAt_42
      · have hw := hw.2 hc
        refine lv_iconst (v := 1) hx hb dX11_isAt_37 (by decide) ?_
        refine lv_goto (tgt := 42) hx hb dX11_isAt_38 (by decide) ?_
        rw [hQ]
        exact W.zret (v := 1) (ty := .boolean) hx hb hr rfl (fun t ht hW => ⟨⟨1, (), rfl, hw, by rw [ht]; exact hP, va_K.moved hW.alike hK, hD⟩, hS.F ht⟩) hS.2.2 dX11_isAt_42
/-! LeadParkModel.blanks ()V -/
abbrev ceX11_blanks (cyI cyB cyJ cyZ : ClassId) (a0 a1 b0_world b0_image b0_before b0_taken b0_five b0_value b0_far b0_lead b0_walk b0_ends b0_manX b0_manY b0_dogX b0_dogY b0_row b0_round b0_farOne b0_leads b0_drags b0_from b0_near : Nat) (g0_thrown : Int32) (g0_hasImage : Int32) (g0_remembered : Int32) (g0_taped : Int32) (g0_deep : Int32) (g0_faultAt : Int32) (g0_steps : Int32) (g0_men : Int32) (g0_dogs : Int32) (g0_end : Int32) (f1 : Nat → Int32) (g0_point : Int32) (g0_begin : Int32) : va_W := [(a0, .inr (11, [.int g0_thrown, .ref b0_world, .ref b0_image, .ref b0_before, .int g0_hasImage, .ref b0_taken, .int g0_remembered, .ref a1, .int g0_taped, .int g0_point, .int g0_end, .int g0_begin, .int g0_deep, .int g0_faultAt, .ref b0_five, .int g0_steps, .ref b0_value, .ref b0_far, .int g0_men, .int g0_dogs, .ref b0_lead, .ref b0_walk, .ref b0_ends, .ref b0_manX, .ref b0_manY, .ref b0_dogX, .ref b0_dogY, .ref b0_row, .ref b0_round, .ref b0_farOne, .ref b0_leads, .ref b0_drags, .ref b0_from, .ref b0_near])), (a1, .inl (cyB, 400, .inl f1))]

theorem inX11_blanks_X11 : ∀ w ∈ wsX110, w ∈ wsX11_blanks := fun _ h => List.mem_cons_of_mem _ (List.mem_append_right _ h)
abbrev rmX11_blanks : Room := { frames := 1, cells := 0, slots := 0, locals := 22 }
set_option maxRecDepth 100000 in
set_option maxHeartbeats 4000000 in
theorem bX11_blanks_0 {p : Program} {l : Launch} {e : Env} {s : State} {m : MethodId} {args : Array Value} {below : List Frame} {meth : Method} {c : Code} {dC : Nat → ClassId} {dI : Nat → Nat → Nat} {cyI cyB cyJ cyZ : ClassId} {A : Nat → Prop} {a0 a1 b0_world b0_image b0_before b0_taken b0_five b0_value b0_far b0_lead b0_walk b0_ends b0_manX b0_manY b0_dogX b0_dogY b0_row b0_round b0_farOne b0_leads b0_drags b0_from b0_near : Nat} {g0_thrown : Int32} {g0_hasImage : Int32} {g0_remembered : Int32} {g0_taped : Int32} {g0_deep : Int32} {g0_faultAt : Int32} {g0_steps : Int32} {g0_men : Int32} {g0_dogs : Int32} (C0 : cxM p s m meth c args wsX11_blanks RX11 cX11_blanks 1 none) (hK : va_K (dC, dI) vwCl (tyA cyI cyB cyJ cyZ) s) (hN : nwA s) (hA : ∀ q : Nat, s.heap.size ≤ q → A q) {post : (Int32 × Int32) → Prop} {g0_end : Int32} {f1 : Nat → Int32} {Q : State → Prop} (hQ : Q = MQ below (va_Qv post (fun u : Int32 × Int32 => wAt dC dI cyI cyB cyJ cyZ A (ceX11_blanks cyI cyB cyJ cyZ a0 a1 b0_world b0_image b0_before b0_taken b0_five b0_value b0_far b0_lead b0_walk b0_ends b0_manX b0_manY b0_dogX b0_dogY b0_row b0_round b0_farOne b0_leads b0_drags b0_from b0_near g0_thrown g0_hasImage g0_remembered g0_taped g0_deep g0_faultAt g0_steps g0_men g0_dogs g0_end f1 u.1 u.2)) A) args s 0 0 A) : ∀ (n : Nat) (g0_point : Int32) (g0_begin : Int32), wpX11_blanks_0 post g0_end f1 n g0_point g0_begin → AtW p l e rmX11_blanks s m args below meth c dC dI A Q 1 0 0 (ceX11_blanks cyI cyB cyJ cyZ a0 a1 b0_world b0_image b0_before b0_taken b0_five b0_value b0_far b0_lead b0_walk b0_ends b0_manX b0_manY b0_dogX b0_dogY b0_row b0_round b0_farOne b0_leads b0_drags b0_from b0_near g0_thrown g0_hasImage g0_remembered g0_taped g0_deep g0_faultAt g0_steps g0_men g0_dogs g0_end f1 g0_point g0_begin) [(0, .ref a0)] 0 [] := by
  intro n
  induction n with
  | zero => intro g0_point g0_begin hw; exact False.elim hw
  | succ n ih =>
    intro g0_point g0_begin hw H locs hP hD hS ls hl
    have C1 := C0
    obtain ⟨hx, hb, hr, hml, hown, hts, hlocks⟩ := C1
    refine lv_aload_n hx hb dX11_blanks_0 rfl (lv_at hl 0 rfl) ?_
    refine lv_bipush (v := 32) hx hb dX11_blanks_1 (by decide) ?_
    refine lv_bipush (v := 32) hx hb dX11_blanks_3 (by decide) ?_
    have hPc := hP.sub (ws' := (ceX11_isAt cyI cyB cyJ cyZ a0 a1 b0_world b0_image b0_before b0_taken b0_five b0_value b0_far b0_lead b0_walk b0_ends b0_manX b0_manY b0_dogX b0_dogY b0_row b0_round b0_farOne b0_leads b0_drags b0_from b0_near g0_thrown g0_hasImage g0_remembered g0_taped g0_begin g0_deep g0_faultAt g0_steps g0_men g0_dogs g0_point g0_end f1)) [0, 1] rfl
    have hDc := hD.sub (ws' := (ceX11_isAt cyI cyB cyJ cyZ a0 a1 b0_world b0_image b0_before b0_taken b0_five b0_value b0_far b0_lead b0_walk b0_ends b0_manX b0_manY b0_dogX b0_dogY b0_row b0_round b0_farOne b0_leads b0_drags b0_from b0_near g0_thrown g0_hasImage g0_remembered g0_taped g0_begin g0_deep g0_faultAt g0_steps g0_men g0_dogs g0_point g0_end f1)) [0, 1] (by decide) rfl
    have hFc := va_free (wc := (ceX11_isAt cyI cyB cyJ cyZ a0 a1 b0_world b0_image b0_before b0_taken b0_five b0_value b0_far b0_lead b0_walk b0_ends b0_manX b0_manY b0_dogX b0_dogY b0_row b0_round b0_farOne b0_leads b0_drags b0_from b0_near g0_thrown g0_hasImage g0_remembered g0_taped g0_begin g0_deep g0_faultAt g0_steps g0_men g0_dogs g0_point g0_end f1)) hD hS hA [0, 1] rfl
    refine va_calli (va_runV (As := [.int 32, .int 32]) (rest := []) ⟨hx, hb, hml, hown, hts⟩ (ctX11_isAt l dC dI cyI cyB cyJ cyZ _ a0 a1 b0_world b0_image b0_before b0_taken b0_five b0_value b0_far b0_lead b0_walk b0_ends b0_manX b0_manY b0_dogX b0_dogY b0_row b0_round b0_farOne b0_leads b0_drags b0_from b0_near g0_thrown g0_hasImage g0_remembered g0_taped g0_begin g0_deep g0_faultAt g0_steps g0_men g0_dogs g0_point g0_end f1 32 32 _ hw) (cwV 2 hts gX11_blanks_X11_isAt rfl rfl rfl (by decide +kernel) ⟨Nat.le_of_ble_eq_true rfl, Nat.le_of_ble_eq_true rfl⟩) ⟨wPre_blind, va_recv hK hPc (ci := 11) (q0 := 0) rfl rfl, fun U hU hW => wPre_of hPc hK hDc hN hU hW⟩ rfl rfl hl.1 rfl (lv_room (Nat.le_of_ble_eq_true rfl)) dX11_blanks_5 ⟨(Nat.zero_le _), (Nat.zero_le _)⟩) hS (fun q _ h => hFc q h) hFc (fun r2 u1 t H1 locs ht hvm hw hB hz1 hk1 hS => ?_)
    obtain ⟨hP1, hK1, hD1⟩ := hB
    rw [ht] at hP1
    obtain ⟨hP, hD⟩ := va_join (wr := pickW (ceX11_blanks cyI cyB cyJ cyZ a0 a1 b0_world b0_image b0_before b0_taken b0_five b0_value b0_far b0_lead b0_walk b0_ends b0_manX b0_manY b0_dogX b0_dogY b0_row b0_round b0_farOne b0_leads b0_drags b0_from b0_near g0_thrown g0_hasImage g0_remembered g0_taped g0_deep g0_faultAt g0_steps g0_men g0_dogs g0_end f1 g0_point g0_begin) []) (w1 := (ceX11_isAt cyI cyB cyJ cyZ a0 a1 b0_world b0_image b0_before b0_taken b0_five b0_value b0_far b0_lead b0_walk b0_ends b0_manX b0_manY b0_dogX b0_dogY b0_row b0_round b0_farOne b0_leads b0_drags b0_from b0_near g0_thrown g0_hasImage g0_remembered g0_taped g0_begin g0_deep g0_faultAt g0_steps g0_men g0_dogs g0_point g0_end f1)) hP hD [0, 1] [] rfl rfl (by decide) (by decide) hk1 hFc hP1 hD1
    have hP := hP.sub (ws' := (ceX11_blanks cyI cyB cyJ cyZ a0 a1 b0_world b0_image b0_before b0_taken b0_five b0_value b0_far b0_lead b0_walk b0_ends b0_manX b0_manY b0_dogX b0_dogY b0_row b0_round b0_farOne b0_leads b0_drags b0_from b0_near g0_thrown g0_hasImage g0_remembered g0_taped g0_deep g0_faultAt g0_steps g0_men g0_dogs g0_end f1 g0_point g0_begin)) [0, 1] rfl
    have hD := hD.sub (ws' := (ceX11_blanks cyI cyB cyJ cyZ a0 a1 b0_world b0_image b0_before b0_taken b0_five b0_value b0_far b0_lead b0_walk b0_ends b0_manX b0_manY b0_dogX b0_dogY b0_row b0_round b0_farOne b0_leads b0_drags b0_from b0_near g0_thrown g0_hasImage g0_remembered g0_taped g0_deep g0_faultAt g0_steps g0_men g0_dogs g0_end f1 g0_point g0_begin)) [0, 1] (by decide) rfl
    generalize H1 = H at hP hS ⊢
    refine lv_if_eq (tgt := 24) hx hb dX11_blanks_8 (by decide) (fun hc => ?_) (fun hc => ?_)
    · have hw := hw.1 hc
      refine lv_aload_n hx hb dX11_blanks_24 rfl (lv_at hl 0 rfl) ?_
      refine lv_aload_n hx hb dX11_blanks_25 rfl (lv_at hl 0 rfl) ?_
      refine va_get (D := (dC, dI)) (ci := 11) (v := .int g0_point) (C := RX11) (T := TX11) (N := 34) hx hb hts inX11_blanks_X11 hown hK hP 0 rfl rfl 9 (by decide) (hts (.fieldLink RX11 112 "LeadParkModel" "point" "I") (List.mem_of_getElem? (i := 1) rfl)) (fun _ h9 => h9) rfl dX11_blanks_26 ?_
      refine va_put (D := (dC, dI)) (ci := 11) (v := .int g0_point) (ty := .int) (C := RX11) (T := TX11) (N := 34) hx hb hts inX11_blanks_X11 tyX11 tyX11_ok nmX11 hown hK hP hD hS 0 rfl rfl 11 (by decide) (hts (.fieldLink RX11 122 "LeadParkModel" "begin" "I") (List.mem_of_getElem? (i := 2) rfl)) (fun _ h9 => h9) rfl (by decide +kernel) rfl rfl (Nat.le_of_ble_eq_true rfl) dX11_blanks_29 (fun H locs hP hD hS => ?_)
      have hP : va_P (dC, dI) vwCl (ceX11_blanks cyI cyB cyJ cyZ a0 a1 b0_world b0_image b0_before b0_taken b0_five b0_value b0_far b0_lead b0_walk b0_ends b0_manX b0_manY b0_dogX b0_dogY b0_row b0_round b0_farOne b0_leads b0_drags b0_from b0_near g0_thrown g0_hasImage g0_remembered g0_taped g0_deep g0_faultAt g0_steps g0_men g0_dogs g0_end f1 g0_point g0_point) H := hP
      have hD : va_D A (ceX11_blanks cyI cyB cyJ cyZ a0 a1 b0_world b0_image b0_before b0_taken b0_five b0_value b0_far b0_lead b0_walk b0_ends b0_manX b0_manY b0_dogX b0_dogY b0_row b0_round b0_farOne b0_leads b0_drags b0_from b0_near g0_thrown g0_hasImage g0_remembered g0_taped g0_deep g0_faultAt g0_steps g0_men g0_dogs g0_end f1 g0_point g0_point) := hD
      rw [hQ]
      exact W.vret hx hb hr (fun t ht hW => ⟨⟨(g0_point, g0_point), rfl, hw, by rw [ht]; exact hP, va_K.moved hW.alike hK, hD⟩, hS.F ht⟩) hS.2.2 dX11_blanks_32
    · have hw := hw.2 hc
      refine lv_aload_n hx hb dX11_blanks_11 rfl (lv_at hl 0 rfl) ?_
      refine lv_dup hx hb dX11_blanks_12 rfl ?_
      refine va_get (D := (dC, dI)) (ci := 11) (v := .int g0_point) (C := RX11) (T := TX11) (N := 34) hx hb hts inX11_blanks_X11 hown hK hP 0 rfl rfl 9 (by decide) (hts (.fieldLink RX11 112 "LeadParkModel" "point" "I") (List.mem_of_getElem? (i := 1) rfl)) (fun _ h9 => h9) rfl dX11_blanks_13 ?_
      refine lv_iconst (v := 1) hx hb dX11_blanks_16 (by decide) ?_
      refine lv_iadd hx hb dX11_blanks_17 ?_
      refine lv_topi (fun v3 ev3 => ?_)
      have hw := hw v3 ev3
      refine va_put (D := (dC, dI)) (ci := 11) (v := .int v3) (ty := .int) (C := RX11) (T := TX11) (N := 34) hx hb hts inX11_blanks_X11 tyX11 tyX11_ok nmX11 hown hK hP hD hS 0 rfl rfl 9 (by decide) (hts (.fieldLink RX11 112 "LeadParkModel" "point" "I") (List.mem_of_getElem? (i := 1) rfl)) (fun _ h9 => h9) rfl (by decide +kernel) rfl rfl (Nat.le_of_ble_eq_true rfl) dX11_blanks_18 (fun H locs hP hD hS => ?_)
      have hP : va_P (dC, dI) vwCl (ceX11_blanks cyI cyB cyJ cyZ a0 a1 b0_world b0_image b0_before b0_taken b0_five b0_value b0_far b0_lead b0_walk b0_ends b0_manX b0_manY b0_dogX b0_dogY b0_row b0_round b0_farOne b0_leads b0_drags b0_from b0_near g0_thrown g0_hasImage g0_remembered g0_taped g0_deep g0_faultAt g0_steps g0_men g0_dogs g0_end f1 v3 g0_begin) H := hP
      have hD : va_D A (ceX11_blanks cyI cyB cyJ cyZ a0 a1 b0_world b0_image b0_before b0_taken b0_five b0_value b0_far b0_lead b0_walk b0_ends b0_manX b0_manY b0_dogX b0_dogY b0_row b0_round b0_farOne b0_leads b0_drags b0_from b0_near g0_thrown g0_hasImage g0_remembered g0_taped g0_deep g0_faultAt g0_steps g0_men g0_dogs g0_end f1 v3 g0_begin) := hD
      refine lv_goto (tgt := 0) hx hb dX11_blanks_21 (by decide) ?_
      exact ih v3 g0_begin hw H locs hP hD hS ls (lv_sub hl [0] rfl)
set_option maxRecDepth 100000 in
set_option maxHeartbeats 4000000 in
theorem ctX11_blanks (l : Launch) (dC : Nat → ClassId) (dI : Nat → Nat → Nat) (cyI cyB cyJ cyZ : ClassId) (sz : Nat) (a0 a1 b0_world b0_image b0_before b0_taken b0_five b0_value b0_far b0_lead b0_walk b0_ends b0_manX b0_manY b0_dogX b0_dogY b0_row b0_round b0_farOne b0_leads b0_drags b0_from b0_near : Nat) (g0_thrown : Int32) (g0_hasImage : Int32) (g0_remembered : Int32) (g0_taped : Int32) (g0_deep : Int32) (g0_faultAt : Int32) (g0_steps : Int32) (g0_men : Int32) (g0_dogs : Int32) (g0_end : Int32) (f1 : Nat → Int32) (g0_point : Int32) (g0_begin : Int32) (post : (Int32 × Int32) → Prop) (hw : wpX11_blanks post g0_end f1 g0_point g0_begin ) : Met l yX11_blanks wsX11_blanks rmX11_blanks (va_Pc [.ref a0] (wPre dC dI cyI cyB cyJ cyZ sz (ceX11_blanks cyI cyB cyJ cyZ a0 a1 b0_world b0_image b0_before b0_taken b0_five b0_value b0_far b0_lead b0_walk b0_ends b0_manX b0_manY b0_dogX b0_dogY b0_row b0_round b0_farOne b0_leads b0_drags b0_from b0_near g0_thrown g0_hasImage g0_remembered g0_taped g0_deep g0_faultAt g0_steps g0_men g0_dogs g0_end f1 g0_point g0_begin))) (va_Qv post (fun u : Int32 × Int32 => wAt dC dI cyI cyB cyJ cyZ (va_A (ceX11_blanks cyI cyB cyJ cyZ a0 a1 b0_world b0_image b0_before b0_taken b0_five b0_value b0_far b0_lead b0_walk b0_ends b0_manX b0_manY b0_dogX b0_dogY b0_row b0_round b0_farOne b0_leads b0_drags b0_from b0_near g0_thrown g0_hasImage g0_remembered g0_taped g0_deep g0_faultAt g0_steps g0_men g0_dogs g0_end f1 g0_point g0_begin) sz) (ceX11_blanks cyI cyB cyJ cyZ a0 a1 b0_world b0_image b0_before b0_taken b0_five b0_value b0_far b0_lead b0_walk b0_ends b0_manX b0_manY b0_dogX b0_dogY b0_row b0_round b0_farOne b0_leads b0_drags b0_from b0_near g0_thrown g0_hasImage g0_remembered g0_taped g0_deep g0_faultAt g0_steps g0_men g0_dogs g0_end f1 u.1 u.2)) (va_A (ceX11_blanks cyI cyB cyJ cyZ a0 a1 b0_world b0_image b0_before b0_taken b0_five b0_value b0_far b0_lead b0_walk b0_ends b0_manX b0_manY b0_dogX b0_dogY b0_row b0_round b0_farOne b0_leads b0_drags b0_from b0_near g0_thrown g0_hasImage g0_remembered g0_taped g0_deep g0_faultAt g0_steps g0_men g0_dogs g0_end f1 g0_point g0_begin) sz)) 0 0 (va_A (ceX11_blanks cyI cyB cyJ cyZ a0 a1 b0_world b0_image b0_before b0_taken b0_five b0_value b0_far b0_lead b0_walk b0_ends b0_manX b0_manY b0_dogX b0_dogY b0_row b0_round b0_farOne b0_leads b0_drags b0_from b0_near g0_thrown g0_hasImage g0_remembered g0_taped g0_deep g0_faultAt g0_steps g0_men g0_dogs g0_end f1 g0_point g0_begin) sz) := by
  refine Met.ofW (cc := cX11_blanks) (maxL := 1) (ret := none) (by decide) rfl ?_
  intro p e s m args below meth c s₁ B hml hv
  obtain ⟨rfl, hsz, hP, hK, hD0, hN⟩ := hv
  have hx := B.exec
  have hb := B.bytes
  have hr := B.returns
  have hts := atoms_spec (ws := wsX11_blanks) B.pre
  have hown : s.vm.findClass RX11 = some m.cls := findClass_of_methodNamed B.named
  have hlocks := B.notSynchronized
  subst hsz
  have hD := hD0.self (sz := s.heap.size)
  generalize hAe : va_A (ceX11_blanks cyI cyB cyJ cyZ a0 a1 b0_world b0_image b0_before b0_taken b0_five b0_value b0_far b0_lead b0_walk b0_ends b0_manX b0_manY b0_dogX b0_dogY b0_row b0_round b0_farOne b0_leads b0_drags b0_from b0_near g0_thrown g0_hasImage g0_remembered g0_taped g0_deep g0_faultAt g0_steps g0_men g0_dogs g0_end f1 g0_point g0_begin) s.heap.size = A at hD ⊢
  have hA : ∀ q : Nat, s.heap.size ≤ q → A q := fun q h => by rw [← hAe]; exact Or.inr h
  have hS : va_S A s.heap s.heap [] := va_S.rf
  have C0 : cxM p s m meth c _ wsX11_blanks RX11 cX11_blanks 1 none := ⟨hx, hb, hr, hml, hown, hts, hlocks⟩
  have hl := lv_entry ([.ref a0]) (n := 1) (Nat.le_of_ble_eq_true rfl)
  rw [lg_entry_eq]
  generalize (lg_sl ([.ref a0]) ++ List.replicate (1 - (lg_sl ([.ref a0])).length) Slot.unset).toArray = ls at hl ⊢
  have hl : lv_has ls 1 [(0, .ref a0)] := hl
  show W p l e rmX11_blanks s m _ below meth c _ _ _ _ _ _
  refine wq (fun Q hQ => ?_)
  obtain ⟨nn, hw⟩ := hw
  exact bX11_blanks_0 C0 hK hN hA hQ nn g0_point g0_begin hw _ _ hP hD hS ls (lv_sub hl [0] rfl)
/-! LeadParkModel.letters ()V -/
abbrev ceX11_letters (cyI cyB cyJ cyZ : ClassId) (a0 a1 b0_world b0_image b0_before b0_taken b0_five b0_value b0_far b0_lead b0_walk b0_ends b0_manX b0_manY b0_dogX b0_dogY b0_row b0_round b0_farOne b0_leads b0_drags b0_from b0_near : Nat) (g0_thrown : Int32) (g0_hasImage : Int32) (g0_remembered : Int32) (g0_taped : Int32) (g0_deep : Int32) (g0_faultAt : Int32) (g0_steps : Int32) (g0_men : Int32) (g0_dogs : Int32) (g0_end : Int32) (f1 : Nat → Int32) (g0_point : Int32) (g0_begin : Int32) : va_W := [(a0, .inr (11, [.int g0_thrown, .ref b0_world, .ref b0_image, .ref b0_before, .int g0_hasImage, .ref b0_taken, .int g0_remembered, .ref a1, .int g0_taped, .int g0_point, .int g0_end, .int g0_begin, .int g0_deep, .int g0_faultAt, .ref b0_five, .int g0_steps, .ref b0_value, .ref b0_far, .int g0_men, .int g0_dogs, .ref b0_lead, .ref b0_walk, .ref b0_ends, .ref b0_manX, .ref b0_manY, .ref b0_dogX, .ref b0_dogY, .ref b0_row, .ref b0_round, .ref b0_farOne, .ref b0_leads, .ref b0_drags, .ref b0_from, .ref b0_near])), (a1, .inl (cyB, 400, .inl f1))]

theorem inX11_letters_X11 : ∀ w ∈ wsX110, w ∈ wsX11_letters := fun _ h => List.mem_cons_of_mem _ (List.mem_append_right _ h)
abbrev rmX11_letters : Room := { frames := 2, cells := 0, slots := 0, locals := 42 }
set_option maxRecDepth 100000 in
set_option maxHeartbeats 4000000 in
theorem bX11_letters_4 {p : Program} {l : Launch} {e : Env} {s : State} {m : MethodId} {args : Array Value} {below : List Frame} {meth : Method} {c : Code} {dC : Nat → ClassId} {dI : Nat → Nat → Nat} {cyI cyB cyJ cyZ : ClassId} {A : Nat → Prop} {a0 a1 b0_world b0_image b0_before b0_taken b0_five b0_value b0_far b0_lead b0_walk b0_ends b0_manX b0_manY b0_dogX b0_dogY b0_row b0_round b0_farOne b0_leads b0_drags b0_from b0_near : Nat} {g0_thrown : Int32} {g0_hasImage : Int32} {g0_remembered : Int32} {g0_taped : Int32} {g0_deep : Int32} {g0_faultAt : Int32} {g0_steps : Int32} {g0_men : Int32} {g0_dogs : Int32} (C0 : cxM p s m meth c args wsX11_letters RX11 cX11_letters 1 none) (hK : va_K (dC, dI) vwCl (tyA cyI cyB cyJ cyZ) s) (hN : nwA s) (hA : ∀ q : Nat, s.heap.size ≤ q → A q) {post : (Int32 × Int32) → Prop} {g0_end : Int32} {f1 : Nat → Int32} {Q : State → Prop} (hQ : Q = MQ below (va_Qv post (fun u : Int32 × Int32 => wAt dC dI cyI cyB cyJ cyZ A (ceX11_letters cyI cyB cyJ cyZ a0 a1 b0_world b0_image b0_before b0_taken b0_five b0_value b0_far b0_lead b0_walk b0_ends b0_manX b0_manY b0_dogX b0_dogY b0_row b0_round b0_farOne b0_leads b0_drags b0_from b0_near g0_thrown g0_hasImage g0_remembered g0_taped g0_deep g0_faultAt g0_steps g0_men g0_dogs g0_end f1 u.1 u.2)) A) args s 0 0 A) : ∀ (n : Nat) (g0_point : Int32) (g0_begin : Int32), wpX11_letters_4 post g0_end f1 n g0_point g0_begin → AtW p l e rmX11_letters s m args below meth c dC dI A Q 1 0 0 (ceX11_letters cyI cyB cyJ cyZ a0 a1 b0_world b0_image b0_before b0_taken b0_five b0_value b0_far b0_lead b0_walk b0_ends b0_manX b0_manY b0_dogX b0_dogY b0_row b0_round b0_farOne b0_leads b0_drags b0_from b0_near g0_thrown g0_hasImage g0_remembered g0_taped g0_deep g0_faultAt g0_steps g0_men g0_dogs g0_end f1 g0_point g0_begin) [(0, .ref a0)] 4 [] := by
  intro n
  induction n with
  | zero => intro g0_point g0_begin hw; exact False.elim hw
  | succ n ih =>
    intro g0_point g0_begin hw H locs hP hD hS ls hl
    have C1 := C0
    obtain ⟨hx, hb, hr, hml, hown, hts, hlocks⟩ := C1
    refine lv_aload_n hx hb dX11_letters_4 rfl (lv_at hl 0 rfl) ?_
    refine lv_bipush (v := 97) hx hb dX11_letters_5 (by decide) ?_
    refine lv_bipush (v := 122) hx hb dX11_letters_7 (by decide) ?_
    have hPc := hP.sub (ws' := (ceX11_isAt cyI cyB cyJ cyZ a0 a1 b0_world b0_image b0_before b0_taken b0_five b0_value b0_far b0_lead b0_walk b0_ends b0_manX b0_manY b0_dogX b0_dogY b0_row b0_round b0_farOne b0_leads b0_drags b0_from b0_near g0_thrown g0_hasImage g0_remembered g0_taped g0_begin g0_deep g0_faultAt g0_steps g0_men g0_dogs g0_point g0_end f1)) [0, 1] rfl
    have hDc := hD.sub (ws' := (ceX11_isAt cyI cyB cyJ cyZ a0 a1 b0_world b0_image b0_before b0_taken b0_five b0_value b0_far b0_lead b0_walk b0_ends b0_manX b0_manY b0_dogX b0_dogY b0_row b0_round b0_farOne b0_leads b0_drags b0_from b0_near g0_thrown g0_hasImage g0_remembered g0_taped g0_begin g0_deep g0_faultAt g0_steps g0_men g0_dogs g0_point g0_end f1)) [0, 1] (by decide) rfl
    have hFc := va_free (wc := (ceX11_isAt cyI cyB cyJ cyZ a0 a1 b0_world b0_image b0_before b0_taken b0_five b0_value b0_far b0_lead b0_walk b0_ends b0_manX b0_manY b0_dogX b0_dogY b0_row b0_round b0_farOne b0_leads b0_drags b0_from b0_near g0_thrown g0_hasImage g0_remembered g0_taped g0_begin g0_deep g0_faultAt g0_steps g0_men g0_dogs g0_point g0_end f1)) hD hS hA [0, 1] rfl
    refine va_calli (va_runV (As := [.int 97, .int 122]) (rest := []) ⟨hx, hb, hml, hown, hts⟩ (ctX11_isAt l dC dI cyI cyB cyJ cyZ _ a0 a1 b0_world b0_image b0_before b0_taken b0_five b0_value b0_far b0_lead b0_walk b0_ends b0_manX b0_manY b0_dogX b0_dogY b0_row b0_round b0_farOne b0_leads b0_drags b0_from b0_near g0_thrown g0_hasImage g0_remembered g0_taped g0_begin g0_deep g0_faultAt g0_steps g0_men g0_dogs g0_point g0_end f1 97 122 _ hw) (cwV 2 hts gX11_letters_X11_isAt rfl rfl rfl (by decide +kernel) ⟨Nat.le_of_ble_eq_true rfl, Nat.le_of_ble_eq_true rfl⟩) ⟨wPre_blind, va_recv hK hPc (ci := 11) (q0 := 0) rfl rfl, fun U hU hW => wPre_of hPc hK hDc hN hU hW⟩ rfl rfl hl.1 rfl (lv_room (Nat.le_of_ble_eq_true rfl)) dX11_letters_9 ⟨(Nat.zero_le _), (Nat.zero_le _)⟩) hS (fun q _ h => hFc q h) hFc (fun r2 u1 t H1 locs ht hvm hw hB hz1 hk1 hS => ?_)
    obtain ⟨hP1, hK1, hD1⟩ := hB
    rw [ht] at hP1
    obtain ⟨hP, hD⟩ := va_join (wr := pickW (ceX11_letters cyI cyB cyJ cyZ a0 a1 b0_world b0_image b0_before b0_taken b0_five b0_value b0_far b0_lead b0_walk b0_ends b0_manX b0_manY b0_dogX b0_dogY b0_row b0_round b0_farOne b0_leads b0_drags b0_from b0_near g0_thrown g0_hasImage g0_remembered g0_taped g0_deep g0_faultAt g0_steps g0_men g0_dogs g0_end f1 g0_point g0_begin) []) (w1 := (ceX11_isAt cyI cyB cyJ cyZ a0 a1 b0_world b0_image b0_before b0_taken b0_five b0_value b0_far b0_lead b0_walk b0_ends b0_manX b0_manY b0_dogX b0_dogY b0_row b0_round b0_farOne b0_leads b0_drags b0_from b0_near g0_thrown g0_hasImage g0_remembered g0_taped g0_begin g0_deep g0_faultAt g0_steps g0_men g0_dogs g0_point g0_end f1)) hP hD [0, 1] [] rfl rfl (by decide) (by decide) hk1 hFc hP1 hD1
    have hP := hP.sub (ws' := (ceX11_letters cyI cyB cyJ cyZ a0 a1 b0_world b0_image b0_before b0_taken b0_five b0_value b0_far b0_lead b0_walk b0_ends b0_manX b0_manY b0_dogX b0_dogY b0_row b0_round b0_farOne b0_leads b0_drags b0_from b0_near g0_thrown g0_hasImage g0_remembered g0_taped g0_deep g0_faultAt g0_steps g0_men g0_dogs g0_end f1 g0_point g0_begin)) [0, 1] rfl
    have hD := hD.sub (ws' := (ceX11_letters cyI cyB cyJ cyZ a0 a1 b0_world b0_image b0_before b0_taken b0_five b0_value b0_far b0_lead b0_walk b0_ends b0_manX b0_manY b0_dogX b0_dogY b0_row b0_round b0_farOne b0_leads b0_drags b0_from b0_near g0_thrown g0_hasImage g0_remembered g0_taped g0_deep g0_faultAt g0_steps g0_men g0_dogs g0_end f1 g0_point g0_begin)) [0, 1] (by decide) rfl
    generalize H1 = H at hP hS ⊢
    refine lv_if_eq (tgt := 28) hx hb dX11_letters_12 (by decide) (fun hc => ?_) (fun hc => ?_)
    · have hw := hw.1 hc
      rw [hQ]
      exact W.vret hx hb hr (fun t ht hW => ⟨⟨(g0_point, g0_begin), rfl, hw, by rw [ht]; exact hP, va_K.moved hW.alike hK, hD⟩, hS.F ht⟩) hS.2.2 dX11_letters_28
    · have hw := hw.2 hc
      refine lv_aload_n hx hb dX11_letters_15 rfl (lv_at hl 0 rfl) ?_
      refine lv_dup hx hb dX11_letters_16 rfl ?_
      refine va_get (D := (dC, dI)) (ci := 11) (v := .int g0_point) (C := RX11) (T := TX11) (N := 34) hx hb hts inX11_letters_X11 hown hK hP 0 rfl rfl 9 (by decide) (hts (.fieldLink RX11 112 "LeadParkModel" "point" "I") (List.mem_of_getElem? (i := 1) rfl)) (fun _ h9 => h9) rfl dX11_letters_17 ?_
      refine lv_iconst (v := 1) hx hb dX11_letters_20 (by decide) ?_
      refine lv_iadd hx hb dX11_letters_21 ?_
      refine lv_topi (fun v3 ev3 => ?_)
      have hw := hw v3 ev3
      refine va_put (D := (dC, dI)) (ci := 11) (v := .int v3) (ty := .int) (C := RX11) (T := TX11) (N := 34) hx hb hts inX11_letters_X11 tyX11 tyX11_ok nmX11 hown hK hP hD hS 0 rfl rfl 9 (by decide) (hts (.fieldLink RX11 112 "LeadParkModel" "point" "I") (List.mem_of_getElem? (i := 1) rfl)) (fun _ h9 => h9) rfl (by decide +kernel) rfl rfl (Nat.le_of_ble_eq_true rfl) dX11_letters_22 (fun H locs hP hD hS => ?_)
      have hP : va_P (dC, dI) vwCl (ceX11_letters cyI cyB cyJ cyZ a0 a1 b0_world b0_image b0_before b0_taken b0_five b0_value b0_far b0_lead b0_walk b0_ends b0_manX b0_manY b0_dogX b0_dogY b0_row b0_round b0_farOne b0_leads b0_drags b0_from b0_near g0_thrown g0_hasImage g0_remembered g0_taped g0_deep g0_faultAt g0_steps g0_men g0_dogs g0_end f1 v3 g0_begin) H := hP
      have hD : va_D A (ceX11_letters cyI cyB cyJ cyZ a0 a1 b0_world b0_image b0_before b0_taken b0_five b0_value b0_far b0_lead b0_walk b0_ends b0_manX b0_manY b0_dogX b0_dogY b0_row b0_round b0_farOne b0_leads b0_drags b0_from b0_near g0_thrown g0_hasImage g0_remembered g0_taped g0_deep g0_faultAt g0_steps g0_men g0_dogs g0_end f1 v3 g0_begin) := hD
      refine lv_goto (tgt := 4) hx hb dX11_letters_25 (by decide) ?_
      exact ih v3 g0_begin hw H locs hP hD hS ls (lv_sub hl [0] rfl)
set_option maxRecDepth 100000 in
set_option maxHeartbeats 4000000 in
theorem ctX11_letters (l : Launch) (dC : Nat → ClassId) (dI : Nat → Nat → Nat) (cyI cyB cyJ cyZ : ClassId) (sz : Nat) (a0 a1 b0_world b0_image b0_before b0_taken b0_five b0_value b0_far b0_lead b0_walk b0_ends b0_manX b0_manY b0_dogX b0_dogY b0_row b0_round b0_farOne b0_leads b0_drags b0_from b0_near : Nat) (g0_thrown : Int32) (g0_hasImage : Int32) (g0_remembered : Int32) (g0_taped : Int32) (g0_deep : Int32) (g0_faultAt : Int32) (g0_steps : Int32) (g0_men : Int32) (g0_dogs : Int32) (g0_end : Int32) (f1 : Nat → Int32) (g0_point : Int32) (g0_begin : Int32) (post : (Int32 × Int32) → Prop) (hw : wpX11_letters post g0_end f1 g0_point g0_begin ) : Met l yX11_letters wsX11_letters rmX11_letters (va_Pc [.ref a0] (wPre dC dI cyI cyB cyJ cyZ sz (ceX11_letters cyI cyB cyJ cyZ a0 a1 b0_world b0_image b0_before b0_taken b0_five b0_value b0_far b0_lead b0_walk b0_ends b0_manX b0_manY b0_dogX b0_dogY b0_row b0_round b0_farOne b0_leads b0_drags b0_from b0_near g0_thrown g0_hasImage g0_remembered g0_taped g0_deep g0_faultAt g0_steps g0_men g0_dogs g0_end f1 g0_point g0_begin))) (va_Qv post (fun u : Int32 × Int32 => wAt dC dI cyI cyB cyJ cyZ (va_A (ceX11_letters cyI cyB cyJ cyZ a0 a1 b0_world b0_image b0_before b0_taken b0_five b0_value b0_far b0_lead b0_walk b0_ends b0_manX b0_manY b0_dogX b0_dogY b0_row b0_round b0_farOne b0_leads b0_drags b0_from b0_near g0_thrown g0_hasImage g0_remembered g0_taped g0_deep g0_faultAt g0_steps g0_men g0_dogs g0_end f1 g0_point g0_begin) sz) (ceX11_letters cyI cyB cyJ cyZ a0 a1 b0_world b0_image b0_before b0_taken b0_five b0_value b0_far b0_lead b0_walk b0_ends b0_manX b0_manY b0_dogX b0_dogY b0_row b0_round b0_farOne b0_leads b0_drags b0_from b0_near g0_thrown g0_hasImage g0_remembered g0_taped g0_deep g0_faultAt g0_steps g0_men g0_dogs g0_end f1 u.1 u.2)) (va_A (ceX11_letters cyI cyB cyJ cyZ a0 a1 b0_world b0_image b0_before b0_taken b0_five b0_value b0_far b0_lead b0_walk b0_ends b0_manX b0_manY b0_dogX b0_dogY b0_row b0_round b0_farOne b0_leads b0_drags b0_from b0_near g0_thrown g0_hasImage g0_remembered g0_taped g0_deep g0_faultAt g0_steps g0_men g0_dogs g0_end f1 g0_point g0_begin) sz)) 0 0 (va_A (ceX11_letters cyI cyB cyJ cyZ a0 a1 b0_world b0_image b0_before b0_taken b0_five b0_value b0_far b0_lead b0_walk b0_ends b0_manX b0_manY b0_dogX b0_dogY b0_row b0_round b0_farOne b0_leads b0_drags b0_from b0_near g0_thrown g0_hasImage g0_remembered g0_taped g0_deep g0_faultAt g0_steps g0_men g0_dogs g0_end f1 g0_point g0_begin) sz) := by
  refine Met.ofW (cc := cX11_letters) (maxL := 1) (ret := none) (by decide) rfl ?_
  intro p e s m args below meth c s₁ B hml hv
  obtain ⟨rfl, hsz, hP, hK, hD0, hN⟩ := hv
  have hx := B.exec
  have hb := B.bytes
  have hr := B.returns
  have hts := atoms_spec (ws := wsX11_letters) B.pre
  have hown : s.vm.findClass RX11 = some m.cls := findClass_of_methodNamed B.named
  have hlocks := B.notSynchronized
  subst hsz
  have hD := hD0.self (sz := s.heap.size)
  generalize hAe : va_A (ceX11_letters cyI cyB cyJ cyZ a0 a1 b0_world b0_image b0_before b0_taken b0_five b0_value b0_far b0_lead b0_walk b0_ends b0_manX b0_manY b0_dogX b0_dogY b0_row b0_round b0_farOne b0_leads b0_drags b0_from b0_near g0_thrown g0_hasImage g0_remembered g0_taped g0_deep g0_faultAt g0_steps g0_men g0_dogs g0_end f1 g0_point g0_begin) s.heap.size = A at hD ⊢
  have hA : ∀ q : Nat, s.heap.size ≤ q → A q := fun q h => by rw [← hAe]; exact Or.inr h
  have hS : va_S A s.heap s.heap [] := va_S.rf
  have C0 : cxM p s m meth c _ wsX11_letters RX11 cX11_letters 1 none := ⟨hx, hb, hr, hml, hown, hts, hlocks⟩
  have hl := lv_entry ([.ref a0]) (n := 1) (Nat.le_of_ble_eq_true rfl)
  rw [lg_entry_eq]
  generalize (lg_sl ([.ref a0]) ++ List.replicate (1 - (lg_sl ([.ref a0])).length) Slot.unset).toArray = ls at hl ⊢
  have hl : lv_has ls 1 [(0, .ref a0)] := hl
  show W p l e rmX11_letters s m _ below meth c _ _ _ _ _ _
  refine wq (fun Q hQ => ?_)
  refine lv_aload_n hx hb dX11_letters_0 rfl (lv_at hl 0 rfl) ?_
  have hPc := hP.sub (ws' := (ceX11_blanks cyI cyB cyJ cyZ a0 a1 b0_world b0_image b0_before b0_taken b0_five b0_value b0_far b0_lead b0_walk b0_ends b0_manX b0_manY b0_dogX b0_dogY b0_row b0_round b0_farOne b0_leads b0_drags b0_from b0_near g0_thrown g0_hasImage g0_remembered g0_taped g0_deep g0_faultAt g0_steps g0_men g0_dogs g0_end f1 g0_point g0_begin)) [0, 1] rfl
  have hDc := hD.sub (ws' := (ceX11_blanks cyI cyB cyJ cyZ a0 a1 b0_world b0_image b0_before b0_taken b0_five b0_value b0_far b0_lead b0_walk b0_ends b0_manX b0_manY b0_dogX b0_dogY b0_row b0_round b0_farOne b0_leads b0_drags b0_from b0_near g0_thrown g0_hasImage g0_remembered g0_taped g0_deep g0_faultAt g0_steps g0_men g0_dogs g0_end f1 g0_point g0_begin)) [0, 1] (by decide) rfl
  have hFc := va_free (wc := (ceX11_blanks cyI cyB cyJ cyZ a0 a1 b0_world b0_image b0_before b0_taken b0_five b0_value b0_far b0_lead b0_walk b0_ends b0_manX b0_manY b0_dogX b0_dogY b0_row b0_round b0_farOne b0_leads b0_drags b0_from b0_near g0_thrown g0_hasImage g0_remembered g0_taped g0_deep g0_faultAt g0_steps g0_men g0_dogs g0_end f1 g0_point g0_begin)) hD hS hA [0, 1] rfl
  refine va_callv (va_runV (As := []) (rest := []) ⟨hx, hb, hml, hown, hts⟩ (ctX11_blanks l dC dI cyI cyB cyJ cyZ _ a0 a1 b0_world b0_image b0_before b0_taken b0_five b0_value b0_far b0_lead b0_walk b0_ends b0_manX b0_manY b0_dogX b0_dogY b0_row b0_round b0_farOne b0_leads b0_drags b0_from b0_near g0_thrown g0_hasImage g0_remembered g0_taped g0_deep g0_faultAt g0_steps g0_men g0_dogs g0_end f1 g0_point g0_begin _ hw) (cwV 0 hts gX11_letters_X11_blanks rfl rfl rfl (by decide +kernel) ⟨Nat.le_of_ble_eq_true rfl, Nat.le_of_ble_eq_true rfl⟩) ⟨wPre_blind, va_recv hK hPc (ci := 11) (q0 := 0) rfl rfl, fun U hU hW => wPre_of hPc hK hDc hN hU hW⟩ rfl rfl hl.1 rfl (lv_room (Nat.le_of_ble_eq_true rfl)) dX11_letters_1 ⟨(Nat.zero_le _), (Nat.zero_le _)⟩) hS (fun q _ h => hFc q h) hFc (fun u1 t H1 locs ht hvm hw hB hz1 hk1 hS => ?_)
  obtain ⟨hP1, hK1, hD1⟩ := hB
  rw [ht] at hP1
  obtain ⟨hP, hD⟩ := va_join (wr := pickW (ceX11_letters cyI cyB cyJ cyZ a0 a1 b0_world b0_image b0_before b0_taken b0_five b0_value b0_far b0_lead b0_walk b0_ends b0_manX b0_manY b0_dogX b0_dogY b0_row b0_round b0_farOne b0_leads b0_drags b0_from b0_near g0_thrown g0_hasImage g0_remembered g0_taped g0_deep g0_faultAt g0_steps g0_men g0_dogs g0_end f1 g0_point g0_begin) []) (w1 := (ceX11_blanks cyI cyB cyJ cyZ a0 a1 b0_world b0_image b0_before b0_taken b0_five b0_value b0_far b0_lead b0_walk b0_ends b0_manX b0_manY b0_dogX b0_dogY b0_row b0_round b0_farOne b0_leads b0_drags b0_from b0_near g0_thrown g0_hasImage g0_remembered g0_taped g0_deep g0_faultAt g0_steps g0_men g0_dogs g0_end f1 u1.1 u1.2)) hP hD [0, 1] [] rfl rfl (by decide) (by decide) hk1 hFc hP1 hD1
  have hP := hP.sub (ws' := (ceX11_letters cyI cyB cyJ cyZ a0 a1 b0_world b0_image b0_before b0_taken b0_five b0_value b0_far b0_lead b0_walk b0_ends b0_manX b0_manY b0_dogX b0_dogY b0_row b0_round b0_farOne b0_leads b0_drags b0_from b0_near g0_thrown g0_hasImage g0_remembered g0_taped g0_deep g0_faultAt g0_steps g0_men g0_dogs g0_end f1 u1.1 u1.2)) [0, 1] rfl
  have hD := hD.sub (ws' := (ceX11_letters cyI cyB cyJ cyZ a0 a1 b0_world b0_image b0_before b0_taken b0_five b0_value b0_far b0_lead b0_walk b0_ends b0_manX b0_manY b0_dogX b0_dogY b0_row b0_round b0_farOne b0_leads b0_drags b0_from b0_near g0_thrown g0_hasImage g0_remembered g0_taped g0_deep g0_faultAt g0_steps g0_men g0_dogs g0_end f1 u1.1 u1.2)) [0, 1] (by decide) rfl
  generalize H1 = H at hP hS ⊢
  obtain ⟨nn, hw⟩ := hw
  exact bX11_letters_4 C0 hK hN hA hQ nn u1.1 u1.2 hw _ _ hP hD hS ls (lv_sub hl [0] rfl)
/-! LeadParkModel.isWord (Ljava/lang/String;)Z -/
abbrev ceX11_isWord (cyI cyB cyJ cyZ : ClassId) (a0 a1 b0_world b0_image b0_before b0_taken b0_five b0_value b0_far b0_lead b0_walk b0_ends b0_manX b0_manY b0_dogX b0_dogY b0_row b0_round b0_farOne b0_leads b0_drags b0_from b0_near : Nat) (g0_thrown : Int32) (g0_hasImage : Int32) (g0_remembered : Int32) (g0_taped : Int32) (g0_end : Int32) (g0_deep : Int32) (g0_faultAt : Int32) (g0_steps : Int32) (g0_men : Int32) (g0_dogs : Int32) (g0_point : Int32) (g0_begin : Int32) (f1 : Nat → Int32) : va_W := [(a0, .inr (11, [.int g0_thrown, .ref b0_world, .ref b0_image, .ref b0_before, .int g0_hasImage, .ref b0_taken, .int g0_remembered, .ref a1, .int g0_taped, .int g0_point, .int g0_end, .int g0_begin, .int g0_deep, .int g0_faultAt, .ref b0_five, .int g0_steps, .ref b0_value, .ref b0_far, .int g0_men, .int g0_dogs, .ref b0_lead, .ref b0_walk, .ref b0_ends, .ref b0_manX, .ref b0_manY, .ref b0_dogX, .ref b0_dogY, .ref b0_row, .ref b0_round, .ref b0_farOne, .ref b0_leads, .ref b0_drags, .ref b0_from, .ref b0_near])), (a1, .inl (cyB, 400, .inl f1))]

theorem inX11_isWord_X11 : ∀ w ∈ wsX110, w ∈ wsX11_isWord := fun _ h => List.mem_cons_of_mem _ (List.mem_append_right _ h)
abbrev rmX11_isWord : Room := { frames := 4, cells := 0, slots := 0, locals := 85 }
set_option maxRecDepth 100000 in
set_option maxHeartbeats 4000000 in
theorem bX11_isWord_60 {p : Program} {l : Launch} {e : Env} {s : State} {m : MethodId} {args : Array Value} {below : List Frame} {meth : Method} {c : Code} {dC : Nat → ClassId} {dI : Nat → Nat → Nat} {cyI cyB cyJ cyZ : ClassId} {A : Nat → Prop} {a0 a1 b0_world b0_image b0_before b0_taken b0_five b0_value b0_far b0_lead b0_walk b0_ends b0_manX b0_manY b0_dogX b0_dogY b0_row b0_round b0_farOne b0_leads b0_drags b0_from b0_near : Nat} {g0_thrown : Int32} {g0_hasImage : Int32} {g0_remembered : Int32} {g0_taped : Int32} {g0_end : Int32} {g0_deep : Int32} {g0_faultAt : Int32} {g0_steps : Int32} {g0_men : Int32} {g0_dogs : Int32} {t_p0 : List Int32} {a_p0 : Nat} (C0 : cxM p s m meth c args wsX11_isWord RX11 cX11_isWord 4 (some .boolean)) (hK : va_K (dC, dI) vwCl (tyA cyI cyB cyJ cyZ) s) (hN : nwA s) (hA : ∀ q : Nat, s.heap.size ≤ q → A q) (hXs : (txS t_p0 a_p0) A s s.heap) {post : Int32 → Unit → Prop} {g0_point : Int32} {g0_begin : Int32} {f1 : Nat → Int32} {k24 : Int32 → Int32 → Prop} {Q : State → Prop} (hQ : Q = MQ below (va_Qi post (fun u : Unit => wAt dC dI cyI cyB cyJ cyZ A (ceX11_isWord cyI cyB cyJ cyZ a0 a1 b0_world b0_image b0_before b0_taken b0_five b0_value b0_far b0_lead b0_walk b0_ends b0_manX b0_manY b0_dogX b0_dogY b0_row b0_round b0_farOne b0_leads b0_drags b0_from b0_near g0_thrown g0_hasImage g0_remembered g0_taped g0_end g0_deep g0_faultAt g0_steps g0_men g0_dogs g0_point g0_begin f1)) A) args s 0 0 A) (hk24 : ∀ (x2 : Int32) (x3 : Int32), k24 x2 x3 → AtW p l e rmX11_isWord s m args below meth c dC dI A Q 4 0 0 (ceX11_isWord cyI cyB cyJ cyZ a0 a1 b0_world b0_image b0_before b0_taken b0_five b0_value b0_far b0_lead b0_walk b0_ends b0_manX b0_manY b0_dogX b0_dogY b0_row b0_round b0_farOne b0_leads b0_drags b0_from b0_near g0_thrown g0_hasImage g0_remembered g0_taped g0_end g0_deep g0_faultAt g0_steps g0_men g0_dogs g0_point g0_begin f1) [(0, .ref a0), (1, .ref a_p0), (2, .int x2), (3, .int x3)] 24 []) : ∀ (x3 : Int32) (s0 : Int32), wpX11_isWord_60 t_p0 k24 post g0_point g0_begin f1 x3 s0 → AtW p l e rmX11_isWord s m args below meth c dC dI A Q 4 0 0 (ceX11_isWord cyI cyB cyJ cyZ a0 a1 b0_world b0_image b0_before b0_taken b0_five b0_value b0_far b0_lead b0_walk b0_ends b0_manX b0_manY b0_dogX b0_dogY b0_row b0_round b0_farOne b0_leads b0_drags b0_from b0_near g0_thrown g0_hasImage g0_remembered g0_taped g0_end g0_deep g0_faultAt g0_steps g0_men g0_dogs g0_point g0_begin f1) [(0, .ref a0), (1, .ref a_p0), (3, .int x3)] 60 [.int s0] := by
  intro x3 s0 hw H locs hP hD hS ls hl
  have C1 := C0
  obtain ⟨hx, hb, hr, hml, hown, hts, hlocks⟩ := C1
  refine lv_istore_n (lv' := [(2, .int s0), (0, .ref a0), (1, .ref a_p0), (3, .int x3)]) hx hb dX11_isWord_60 rfl hl (by decide) rfl (fun ls hl => ?_)
  obtain ⟨v1, ev1⟩ : ∃ y : Int32, y = x3 + 1 := ⟨_, rfl⟩
  have hw := hw v1 ev1
  refine lv_iinc (v := v1) (lv' := [(3, .int v1), (2, .int s0), (0, .ref a0), (1, .ref a_p0)]) hx hb dX11_isWord_61 hl (k := 3) rfl (by rw [ev1]; rfl) (by decide) rfl (fun ls hl => ?_)
  refine lv_goto (tgt := 24) hx hb dX11_isWord_64 (by decide) ?_
  exact hk24 s0 v1 hw H locs hP hD hS ls (lv_sub hl [2, 3, 1, 0] rfl)
set_option maxRecDepth 100000 in
set_option maxHeartbeats 4000000 in
theorem bX11_isWord_24 {p : Program} {l : Launch} {e : Env} {s : State} {m : MethodId} {args : Array Value} {below : List Frame} {meth : Method} {c : Code} {dC : Nat → ClassId} {dI : Nat → Nat → Nat} {cyI cyB cyJ cyZ : ClassId} {A : Nat → Prop} {a0 a1 b0_world b0_image b0_before b0_taken b0_five b0_value b0_far b0_lead b0_walk b0_ends b0_manX b0_manY b0_dogX b0_dogY b0_row b0_round b0_farOne b0_leads b0_drags b0_from b0_near : Nat} {g0_thrown : Int32} {g0_hasImage : Int32} {g0_remembered : Int32} {g0_taped : Int32} {g0_end : Int32} {g0_deep : Int32} {g0_faultAt : Int32} {g0_steps : Int32} {g0_men : Int32} {g0_dogs : Int32} {t_p0 : List Int32} {a_p0 : Nat} (C0 : cxM p s m meth c args wsX11_isWord RX11 cX11_isWord 4 (some .boolean)) (hK : va_K (dC, dI) vwCl (tyA cyI cyB cyJ cyZ) s) (hN : nwA s) (hA : ∀ q : Nat, s.heap.size ≤ q → A q) (hXs : (txS t_p0 a_p0) A s s.heap) {post : Int32 → Unit → Prop} {g0_point : Int32} {g0_begin : Int32} {f1 : Nat → Int32} {Q : State → Prop} (hQ : Q = MQ below (va_Qi post (fun u : Unit => wAt dC dI cyI cyB cyJ cyZ A (ceX11_isWord cyI cyB cyJ cyZ a0 a1 b0_world b0_image b0_before b0_taken b0_five b0_value b0_far b0_lead b0_walk b0_ends b0_manX b0_manY b0_dogX b0_dogY b0_row b0_round b0_farOne b0_leads b0_drags b0_from b0_near g0_thrown g0_hasImage g0_remembered g0_taped g0_end g0_deep g0_faultAt g0_steps g0_men g0_dogs g0_point g0_begin f1)) A) args s 0 0 A) : ∀ (n : Nat) (x2 : Int32) (x3 : Int32), wpX11_isWord_24 t_p0 post g0_point g0_begin f1 n x2 x3 → AtW p l e rmX11_isWord s m args below meth c dC dI A Q 4 0 0 (ceX11_isWord cyI cyB cyJ cyZ a0 a1 b0_world b0_image b0_before b0_taken b0_five b0_value b0_far b0_lead b0_walk b0_ends b0_manX b0_manY b0_dogX b0_dogY b0_row b0_round b0_farOne b0_leads b0_drags b0_from b0_near g0_thrown g0_hasImage g0_remembered g0_taped g0_end g0_deep g0_faultAt g0_steps g0_men g0_dogs g0_point g0_begin f1) [(0, .ref a0), (1, .ref a_p0), (2, .int x2), (3, .int x3)] 24 [] := by
  intro n
  induction n with
  | zero => intro x2 x3 hw; exact False.elim hw
  | succ n ih =>
    intro x2 x3 hw H locs hP hD hS ls hl
    have C1 := C0
    obtain ⟨hx, hb, hr, hml, hown, hts, hlocks⟩ := C1
    refine lv_iload_n hx hb dX11_isWord_24 rfl (lv_at hl 2 rfl) ?_
    refine lv_if_eq (tgt := 67) hx hb dX11_isWord_25 (by decide) (fun hc => ?_) (fun hc => ?_)
    · have hw := hw.1 hc
      refine lv_iload_n hx hb dX11_isWord_67 rfl (lv_at hl 2 rfl) ?_
      rw [hQ]
      obtain ⟨hz, hw⟩ := hw
      exact W.zret (v := x2) (ty := .boolean) hx hb hr (zb_n hz) (fun t ht hW => ⟨⟨x2, (), rfl, hw, by rw [ht]; exact hP, va_K.moved hW.alike hK, hD⟩, hS.F ht⟩) hS.2.2 dX11_isWord_68
    · have hw := hw.2 hc
      refine lv_iload_n hx hb dX11_isWord_28 rfl (lv_at hl 3 rfl) ?_
      refine lv_aload_n hx hb dX11_isWord_29 rfl (lv_at hl 1 rfl) ?_
      have hPc := hP.sub (ws' := []) [] rfl
      have hDc := hD.sub (ws' := []) [] (by decide) rfl
      have hFc := va_free (wc := []) hD hS hA [] rfl
      refine va_calli (va_runV (As := []) (rest := [.int x3]) ⟨hx, hb, hml, hown, hts⟩ (ctJ0_length_8abf5 l dC dI cyI cyB cyJ cyZ _ t_p0 a_p0 (fun r _ => r = nI t_p0.length) rfl) (cwV 0 hts gX11_isWord_J0_length_8abf5 rfl rfl rfl (by decide +kernel) ⟨Nat.le_of_ble_eq_true rfl, Nat.le_of_ble_eq_true rfl⟩) ⟨wPreX_blind (xOk_txS t_p0 a_p0), (by obtain ⟨v0, hO, -⟩ := hXs.2; obtain ⟨cell, c1, c2, c3, c4⟩ := hO; exact ⟨cell, by rw [hS.2.1 _ (Array.getElem?_eq_some_iff.mp c1).1 c4]; exact c1, c2, c3⟩), fun U hU hW => wPreX_of (xOk_txS t_p0 a_p0) hPc hK hDc hN hXs hS hFc hU hW⟩ rfl rfl hl.1 rfl (lv_room (Nat.le_of_ble_eq_true rfl)) dX11_isWord_30 ⟨(Nat.zero_le _), (Nat.zero_le _)⟩) hS (fun q _ h => hFc q h) hFc (fun r1 u t H1 locs ht hvm hr9 hB hz1 hk1 hS => ?_)
      obtain ⟨hP1, hK1, hD1⟩ := hB
      rw [ht] at hP1
      obtain ⟨hP, hD⟩ := va_join (wr := (ceX11_isWord cyI cyB cyJ cyZ a0 a1 b0_world b0_image b0_before b0_taken b0_five b0_value b0_far b0_lead b0_walk b0_ends b0_manX b0_manY b0_dogX b0_dogY b0_row b0_round b0_farOne b0_leads b0_drags b0_from b0_near g0_thrown g0_hasImage g0_remembered g0_taped g0_end g0_deep g0_faultAt g0_steps g0_men g0_dogs g0_point g0_begin f1)) (w1 := []) hP hD [] [0, 1] rfl rfl (by decide) (by decide) hk1 hFc hP1 hD1
      have hP := hP.sub (ws' := (ceX11_isWord cyI cyB cyJ cyZ a0 a1 b0_world b0_image b0_before b0_taken b0_five b0_value b0_far b0_lead b0_walk b0_ends b0_manX b0_manY b0_dogX b0_dogY b0_row b0_round b0_farOne b0_leads b0_drags b0_from b0_near g0_thrown g0_hasImage g0_remembered g0_taped g0_end g0_deep g0_faultAt g0_steps g0_men g0_dogs g0_point g0_begin f1)) [0, 1] rfl
      have hD := hD.sub (ws' := (ceX11_isWord cyI cyB cyJ cyZ a0 a1 b0_world b0_image b0_before b0_taken b0_five b0_value b0_far b0_lead b0_walk b0_ends b0_manX b0_manY b0_dogX b0_dogY b0_row b0_round b0_farOne b0_leads b0_drags b0_from b0_near g0_thrown g0_hasImage g0_remembered g0_taped g0_end g0_deep g0_faultAt g0_steps g0_men g0_dogs g0_point g0_begin f1)) [0, 1] (by decide) rfl
      generalize H1 = H at hP hS ⊢
      subst hr9
      refine lv_icmp_ge (tgt := 67) hx hb dX11_isWord_33 (by decide) (fun hc => ?_) (fun hc => ?_)
      · have hw := hw.1 hc
        refine lv_iload_n hx hb dX11_isWord_67 rfl (lv_at hl 2 rfl) ?_
        rw [hQ]
        obtain ⟨hz, hw⟩ := hw
        exact W.zret (v := x2) (ty := .boolean) hx hb hr (zb_n hz) (fun t ht hW => ⟨⟨x2, (), rfl, hw, by rw [ht]; exact hP, va_K.moved hW.alike hK, hD⟩, hS.F ht⟩) hS.2.2 dX11_isWord_68
      · have hw := hw.2 hc
        refine lv_aload_n hx hb dX11_isWord_36 rfl (lv_at hl 0 rfl) ?_
        refine va_get (D := (dC, dI)) (ci := 11) (v := .ref a1) (C := RX11) (T := TX11) (N := 34) hx hb hts inX11_isWord_X11 hown hK hP 0 rfl rfl 7 (by decide) (hts (.fieldLink RX11 26 "LeadParkModel" "tape" "[B") (List.mem_of_getElem? (i := 3) rfl)) (fun _ h9 => h9) rfl dX11_isWord_37 ?_
        refine lv_aload_n hx hb dX11_isWord_40 rfl (lv_at hl 0 rfl) ?_
        refine va_get (D := (dC, dI)) (ci := 11) (v := .int g0_begin) (C := RX11) (T := TX11) (N := 34) hx hb hts inX11_isWord_X11 hown hK hP 0 rfl rfl 11 (by decide) (hts (.fieldLink RX11 122 "LeadParkModel" "begin" "I") (List.mem_of_getElem? (i := 2) rfl)) (fun _ h9 => h9) rfl dX11_isWord_41 ?_
        refine lv_iload_n hx hb dX11_isWord_44 rfl (lv_at hl 3 rfl) ?_
        refine lv_iadd hx hb dX11_isWord_45 ?_
        obtain ⟨hi, hw⟩ := hw
        refine va_bald hx hb hK hP 1 1 rfl rfl hi dX11_isWord_46 ?_
        refine lv_aload_n hx hb dX11_isWord_47 rfl (lv_at hl 1 rfl) ?_
        refine lv_iload_n hx hb dX11_isWord_48 rfl (lv_at hl 3 rfl) ?_
        obtain ⟨hb31, hi, hw⟩ := hw
        have hPc := hP.sub (ws' := []) [] rfl
        have hDc := hD.sub (ws' := []) [] (by decide) rfl
        have hFc := va_free (wc := []) hD hS hA [] rfl
        refine va_calli (va_runV (As := [.int x3]) (rest := [.int (f1 (g0_begin + x3).toNatClampNeg)]) ⟨hx, hb, hml, hown, hts⟩ (ctJ0_charAt_5068e l dC dI cyI cyB cyJ cyZ _ t_p0 a_p0 x3 hb31 hi (fun r _ => r = txC (t_p0.getD x3.toNatClampNeg 0)) rfl) (cwV 1 hts gX11_isWord_J0_charAt_5068e rfl rfl rfl (by decide +kernel) ⟨Nat.le_of_ble_eq_true rfl, Nat.le_of_ble_eq_true rfl⟩) ⟨wPreX_blind (xOk_txS t_p0 a_p0), (by obtain ⟨v0, hO, -⟩ := hXs.2; obtain ⟨cell, c1, c2, c3, c4⟩ := hO; exact ⟨cell, by rw [hS.2.1 _ (Array.getElem?_eq_some_iff.mp c1).1 c4]; exact c1, c2, c3⟩), fun U hU hW => wPreX_of (xOk_txS t_p0 a_p0) hPc hK hDc hN hXs hS hFc hU hW⟩ rfl rfl hl.1 rfl (lv_room (Nat.le_of_ble_eq_true rfl)) dX11_isWord_49 ⟨(Nat.zero_le _), (Nat.zero_le _)⟩) hS (fun q _ h => hFc q h) hFc (fun r2 u t H1 locs ht hvm hr9 hB hz1 hk1 hS => ?_)
        obtain ⟨hP1, hK1, hD1⟩ := hB
        rw [ht] at hP1
        obtain ⟨hP, hD⟩ := va_join (wr := (ceX11_isWord cyI cyB cyJ cyZ a0 a1 b0_world b0_image b0_before b0_taken b0_five b0_value b0_far b0_lead b0_walk b0_ends b0_manX b0_manY b0_dogX b0_dogY b0_row b0_round b0_farOne b0_leads b0_drags b0_from b0_near g0_thrown g0_hasImage g0_remembered g0_taped g0_end g0_deep g0_faultAt g0_steps g0_men g0_dogs g0_point g0_begin f1)) (w1 := []) hP hD [] [0, 1] rfl rfl (by decide) (by decide) hk1 hFc hP1 hD1
        have hP := hP.sub (ws' := (ceX11_isWord cyI cyB cyJ cyZ a0 a1 b0_world b0_image b0_before b0_taken b0_five b0_value b0_far b0_lead b0_walk b0_ends b0_manX b0_manY b0_dogX b0_dogY b0_row b0_round b0_farOne b0_leads b0_drags b0_from b0_near g0_thrown g0_hasImage g0_remembered g0_taped g0_end g0_deep g0_faultAt g0_steps g0_men g0_dogs g0_point g0_begin f1)) [0, 1] rfl
        have hD := hD.sub (ws' := (ceX11_isWord cyI cyB cyJ cyZ a0 a1 b0_world b0_image b0_before b0_taken b0_five b0_value b0_far b0_lead b0_walk b0_ends b0_manX b0_manY b0_dogX b0_dogY b0_row b0_round b0_farOne b0_leads b0_drags b0_from b0_near g0_thrown g0_hasImage g0_remembered g0_taped g0_end g0_deep g0_faultAt g0_steps g0_men g0_dogs g0_point g0_begin f1)) [0, 1] (by decide) rfl
        generalize H1 = H at hP hS ⊢
        subst hr9
        refine lv_icmp_ne (tgt := 59) hx hb dX11_isWord_52 (by decide) (fun hc => ?_) (fun hc => ?_)
        · have hw := hw.1 hc
          refine lv_iconst (v := 0) hx hb dX11_isWord_59 (by decide) ?_
          exact bX11_isWord_60 C0 hK hN hA hXs hQ ih x3 0 hw _ _ hP hD hS ls (lv_sub hl [0, 1, 3] rfl)
        · have hw := hw.2 hc
          refine lv_iconst (v := 1) hx hb dX11_isWord_55 (by decide) ?_
          refine lv_goto (tgt := 60) hx hb dX11_isWord_56 (by decide) ?_
          exact bX11_isWord_60 C0 hK hN hA hXs hQ ih x3 1 hw _ _ hP hD hS ls (lv_sub hl [0, 1, 3] rfl)
set_option maxRecDepth 100000 in
set_option maxHeartbeats 4000000 in
theorem bX11_isWord_21 {p : Program} {l : Launch} {e : Env} {s : State} {m : MethodId} {args : Array Value} {below : List Frame} {meth : Method} {c : Code} {dC : Nat → ClassId} {dI : Nat → Nat → Nat} {cyI cyB cyJ cyZ : ClassId} {A : Nat → Prop} {a0 a1 b0_world b0_image b0_before b0_taken b0_five b0_value b0_far b0_lead b0_walk b0_ends b0_manX b0_manY b0_dogX b0_dogY b0_row b0_round b0_farOne b0_leads b0_drags b0_from b0_near : Nat} {g0_thrown : Int32} {g0_hasImage : Int32} {g0_remembered : Int32} {g0_taped : Int32} {g0_end : Int32} {g0_deep : Int32} {g0_faultAt : Int32} {g0_steps : Int32} {g0_men : Int32} {g0_dogs : Int32} {t_p0 : List Int32} {a_p0 : Nat} (C0 : cxM p s m meth c args wsX11_isWord RX11 cX11_isWord 4 (some .boolean)) (hK : va_K (dC, dI) vwCl (tyA cyI cyB cyJ cyZ) s) (hN : nwA s) (hA : ∀ q : Nat, s.heap.size ≤ q → A q) (hXs : (txS t_p0 a_p0) A s s.heap) {post : Int32 → Unit → Prop} {g0_point : Int32} {g0_begin : Int32} {f1 : Nat → Int32} {Q : State → Prop} (hQ : Q = MQ below (va_Qi post (fun u : Unit => wAt dC dI cyI cyB cyJ cyZ A (ceX11_isWord cyI cyB cyJ cyZ a0 a1 b0_world b0_image b0_before b0_taken b0_five b0_value b0_far b0_lead b0_walk b0_ends b0_manX b0_manY b0_dogX b0_dogY b0_row b0_round b0_farOne b0_leads b0_drags b0_from b0_near g0_thrown g0_hasImage g0_remembered g0_taped g0_end g0_deep g0_faultAt g0_steps g0_men g0_dogs g0_point g0_begin f1)) A) args s 0 0 A) : ∀ (s0 : Int32), wpX11_isWord_21 t_p0 post g0_point g0_begin f1 s0 → AtW p l e rmX11_isWord s m args below meth c dC dI A Q 4 0 0 (ceX11_isWord cyI cyB cyJ cyZ a0 a1 b0_world b0_image b0_before b0_taken b0_five b0_value b0_far b0_lead b0_walk b0_ends b0_manX b0_manY b0_dogX b0_dogY b0_row b0_round b0_farOne b0_leads b0_drags b0_from b0_near g0_thrown g0_hasImage g0_remembered g0_taped g0_end g0_deep g0_faultAt g0_steps g0_men g0_dogs g0_point g0_begin f1) [(0, .ref a0), (1, .ref a_p0)] 21 [.int s0] := by
  intro s0 hw H locs hP hD hS ls hl
  have C1 := C0
  obtain ⟨hx, hb, hr, hml, hown, hts, hlocks⟩ := C1
  refine lv_istore_n (lv' := [(2, .int s0), (0, .ref a0), (1, .ref a_p0)]) hx hb dX11_isWord_21 rfl hl (by decide) rfl (fun ls hl => ?_)
  refine lv_iconst (v := 0) hx hb dX11_isWord_22 (by decide) ?_
  refine lv_istore_n (lv' := [(3, .int 0), (2, .int s0), (0, .ref a0), (1, .ref a_p0)]) hx hb dX11_isWord_23 rfl hl (by decide) rfl (fun ls hl => ?_)
  obtain ⟨nn, hw⟩ := hw
  exact bX11_isWord_24 C0 hK hN hA hXs hQ nn s0 0 hw _ _ hP hD hS ls (lv_sub hl [2, 3, 1, 0] rfl)
set_option maxRecDepth 100000 in
set_option maxHeartbeats 4000000 in
theorem ctX11_isWord (l : Launch) (dC : Nat → ClassId) (dI : Nat → Nat → Nat) (cyI cyB cyJ cyZ : ClassId) (sz : Nat) (a0 a1 b0_world b0_image b0_before b0_taken b0_five b0_value b0_far b0_lead b0_walk b0_ends b0_manX b0_manY b0_dogX b0_dogY b0_row b0_round b0_farOne b0_leads b0_drags b0_from b0_near : Nat) (g0_thrown : Int32) (g0_hasImage : Int32) (g0_remembered : Int32) (g0_taped : Int32) (g0_end : Int32) (g0_deep : Int32) (g0_faultAt : Int32) (g0_steps : Int32) (g0_men : Int32) (g0_dogs : Int32) (g0_point : Int32) (g0_begin : Int32) (f1 : Nat → Int32) (post : Int32 → Unit → Prop) (t_p0 : List Int32) (a_p0 : Nat) (hw : wpX11_isWord t_p0 post g0_point g0_begin f1 ) : Met l yX11_isWord wsX11_isWord rmX11_isWord (va_Pc [.ref a0, .ref a_p0] (wPreX dC dI cyI cyB cyJ cyZ sz (ceX11_isWord cyI cyB cyJ cyZ a0 a1 b0_world b0_image b0_before b0_taken b0_five b0_value b0_far b0_lead b0_walk b0_ends b0_manX b0_manY b0_dogX b0_dogY b0_row b0_round b0_farOne b0_leads b0_drags b0_from b0_near g0_thrown g0_hasImage g0_remembered g0_taped g0_end g0_deep g0_faultAt g0_steps g0_men g0_dogs g0_point g0_begin f1) (txS t_p0 a_p0))) (va_Qi post (fun u : Unit => wAt dC dI cyI cyB cyJ cyZ (va_A (ceX11_isWord cyI cyB cyJ cyZ a0 a1 b0_world b0_image b0_before b0_taken b0_five b0_value b0_far b0_lead b0_walk b0_ends b0_manX b0_manY b0_dogX b0_dogY b0_row b0_round b0_farOne b0_leads b0_drags b0_from b0_near g0_thrown g0_hasImage g0_remembered g0_taped g0_end g0_deep g0_faultAt g0_steps g0_men g0_dogs g0_point g0_begin f1) sz) (ceX11_isWord cyI cyB cyJ cyZ a0 a1 b0_world b0_image b0_before b0_taken b0_five b0_value b0_far b0_lead b0_walk b0_ends b0_manX b0_manY b0_dogX b0_dogY b0_row b0_round b0_farOne b0_leads b0_drags b0_from b0_near g0_thrown g0_hasImage g0_remembered g0_taped g0_end g0_deep g0_faultAt g0_steps g0_men g0_dogs g0_point g0_begin f1)) (va_A (ceX11_isWord cyI cyB cyJ cyZ a0 a1 b0_world b0_image b0_before b0_taken b0_five b0_value b0_far b0_lead b0_walk b0_ends b0_manX b0_manY b0_dogX b0_dogY b0_row b0_round b0_farOne b0_leads b0_drags b0_from b0_near g0_thrown g0_hasImage g0_remembered g0_taped g0_end g0_deep g0_faultAt g0_steps g0_men g0_dogs g0_point g0_begin f1) sz)) 0 0 (va_A (ceX11_isWord cyI cyB cyJ cyZ a0 a1 b0_world b0_image b0_before b0_taken b0_five b0_value b0_far b0_lead b0_walk b0_ends b0_manX b0_manY b0_dogX b0_dogY b0_row b0_round b0_farOne b0_leads b0_drags b0_from b0_near g0_thrown g0_hasImage g0_remembered g0_taped g0_end g0_deep g0_faultAt g0_steps g0_men g0_dogs g0_point g0_begin f1) sz) := by
  refine Met.ofW (cc := cX11_isWord) (maxL := 4) (ret := (some .boolean)) (by decide) rfl ?_
  intro p e s m args below meth c s₁ B hml hv
  obtain ⟨rfl, ⟨hsz, hP, hK, hD0, hN⟩, hXs⟩ := hv
  have hx := B.exec
  have hb := B.bytes
  have hr := B.returns
  have hts := atoms_spec (ws := wsX11_isWord) B.pre
  have hown : s.vm.findClass RX11 = some m.cls := findClass_of_methodNamed B.named
  have hlocks := B.notSynchronized
  subst hsz
  have hD := hD0.self (sz := s.heap.size)
  generalize hAe : va_A (ceX11_isWord cyI cyB cyJ cyZ a0 a1 b0_world b0_image b0_before b0_taken b0_five b0_value b0_far b0_lead b0_walk b0_ends b0_manX b0_manY b0_dogX b0_dogY b0_row b0_round b0_farOne b0_leads b0_drags b0_from b0_near g0_thrown g0_hasImage g0_remembered g0_taped g0_end g0_deep g0_faultAt g0_steps g0_men g0_dogs g0_point g0_begin f1) s.heap.size = A at hD hXs ⊢
  have hA : ∀ q : Nat, s.heap.size ≤ q → A q := fun q h => by rw [← hAe]; exact Or.inr h
  have hS : va_S A s.heap s.heap [] := va_S.rf
  have C0 : cxM p s m meth c _ wsX11_isWord RX11 cX11_isWord 4 (some .boolean) := ⟨hx, hb, hr, hml, hown, hts, hlocks⟩
  have hl := lv_entry ([.ref a0, .ref a_p0]) (n := 4) (Nat.le_of_ble_eq_true rfl)
  rw [lg_entry_eq]
  generalize (lg_sl ([.ref a0, .ref a_p0]) ++ List.replicate (4 - (lg_sl ([.ref a0, .ref a_p0])).length) Slot.unset).toArray = ls at hl ⊢
  have hl : lv_has ls 4 [(0, .ref a0), (1, .ref a_p0)] := hl
  show W p l e rmX11_isWord s m _ below meth c _ _ _ _ _ _
  refine wq (fun Q hQ => ?_)
  refine lv_aload_n hx hb dX11_isWord_0 rfl (lv_at hl 0 rfl) ?_
  refine va_get (D := (dC, dI)) (ci := 11) (v := .int g0_point) (C := RX11) (T := TX11) (N := 34) hx hb hts inX11_isWord_X11 hown hK hP 0 rfl rfl 9 (by decide) (hts (.fieldLink RX11 112 "LeadParkModel" "point" "I") (List.mem_of_getElem? (i := 1) rfl)) (fun _ h9 => h9) rfl dX11_isWord_1 ?_
  refine lv_aload_n hx hb dX11_isWord_4 rfl (lv_at hl 0 rfl) ?_
  refine va_get (D := (dC, dI)) (ci := 11) (v := .int g0_begin) (C := RX11) (T := TX11) (N := 34) hx hb hts inX11_isWord_X11 hown hK hP 0 rfl rfl 11 (by decide) (hts (.fieldLink RX11 122 "LeadParkModel" "begin" "I") (List.mem_of_getElem? (i := 2) rfl)) (fun _ h9 => h9) rfl dX11_isWord_5 ?_
  refine lv_isub hx hb dX11_isWord_8 ?_
  refine lv_aload_n hx hb dX11_isWord_9 rfl (lv_at hl 1 rfl) ?_
  have hPc := hP.sub (ws' := []) [] rfl
  have hDc := hD.sub (ws' := []) [] (by decide) rfl
  have hFc := va_free (wc := []) hD hS hA [] rfl
  refine va_calli (va_runV (As := []) (rest := [.int (g0_point - g0_begin)]) ⟨hx, hb, hml, hown, hts⟩ (ctJ0_length_8abf5 l dC dI cyI cyB cyJ cyZ _ t_p0 a_p0 (fun r _ => r = nI t_p0.length) rfl) (cwV 0 hts gX11_isWord_J0_length_8abf5 rfl rfl rfl (by decide +kernel) ⟨Nat.le_of_ble_eq_true rfl, Nat.le_of_ble_eq_true rfl⟩) ⟨wPreX_blind (xOk_txS t_p0 a_p0), (by obtain ⟨v0, hO, -⟩ := hXs.2; obtain ⟨cell, c1, c2, c3, c4⟩ := hO; exact ⟨cell, by rw [hS.2.1 _ (Array.getElem?_eq_some_iff.mp c1).1 c4]; exact c1, c2, c3⟩), fun U hU hW => wPreX_of (xOk_txS t_p0 a_p0) hPc hK hDc hN hXs hS hFc hU hW⟩ rfl rfl hl.1 rfl (lv_room (Nat.le_of_ble_eq_true rfl)) dX11_isWord_10 ⟨(Nat.zero_le _), (Nat.zero_le _)⟩) hS (fun q _ h => hFc q h) hFc (fun r1 u t H1 locs ht hvm hr9 hB hz1 hk1 hS => ?_)
  obtain ⟨hP1, hK1, hD1⟩ := hB
  rw [ht] at hP1
  obtain ⟨hP, hD⟩ := va_join (wr := (ceX11_isWord cyI cyB cyJ cyZ a0 a1 b0_world b0_image b0_before b0_taken b0_five b0_value b0_far b0_lead b0_walk b0_ends b0_manX b0_manY b0_dogX b0_dogY b0_row b0_round b0_farOne b0_leads b0_drags b0_from b0_near g0_thrown g0_hasImage g0_remembered g0_taped g0_end g0_deep g0_faultAt g0_steps g0_men g0_dogs g0_point g0_begin f1)) (w1 := []) hP hD [] [0, 1] rfl rfl (by decide) (by decide) hk1 hFc hP1 hD1
  have hP := hP.sub (ws' := (ceX11_isWord cyI cyB cyJ cyZ a0 a1 b0_world b0_image b0_before b0_taken b0_five b0_value b0_far b0_lead b0_walk b0_ends b0_manX b0_manY b0_dogX b0_dogY b0_row b0_round b0_farOne b0_leads b0_drags b0_from b0_near g0_thrown g0_hasImage g0_remembered g0_taped g0_end g0_deep g0_faultAt g0_steps g0_men g0_dogs g0_point g0_begin f1)) [0, 1] rfl
  have hD := hD.sub (ws' := (ceX11_isWord cyI cyB cyJ cyZ a0 a1 b0_world b0_image b0_before b0_taken b0_five b0_value b0_far b0_lead b0_walk b0_ends b0_manX b0_manY b0_dogX b0_dogY b0_row b0_round b0_farOne b0_leads b0_drags b0_from b0_near g0_thrown g0_hasImage g0_remembered g0_taped g0_end g0_deep g0_faultAt g0_steps g0_men g0_dogs g0_point g0_begin f1)) [0, 1] (by decide) rfl
  generalize H1 = H at hP hS ⊢
  subst hr9
  refine lv_icmp_ne (tgt := 20) hx hb dX11_isWord_13 (by decide) (fun hc => ?_) (fun hc => ?_)
  · have hw := hw.1 hc
    refine lv_iconst (v := 0) hx hb dX11_isWord_20 (by decide) ?_
    exact bX11_isWord_21 C0 hK hN hA hXs hQ 0 hw _ _ hP hD hS ls (lv_sub hl [0, 1] rfl)
  · have hw := hw.2 hc
    refine lv_iconst (v := 1) hx hb dX11_isWord_16 (by decide) ?_
    refine lv_goto (tgt := 21) hx hb dX11_isWord_17 (by decide) ?_
    exact bX11_isWord_21 C0 hK hN hA hXs hQ 1 hw _ _ hP hD hS ls (lv_sub hl [0, 1] rfl)
/-! LeadParkModel.passes (Ljava/lang/String;)Z -/
abbrev ceX11_passes (cyI cyB cyJ cyZ : ClassId) (a0 a1 b0_world b0_image b0_before b0_taken b0_five b0_value b0_far b0_lead b0_walk b0_ends b0_manX b0_manY b0_dogX b0_dogY b0_row b0_round b0_farOne b0_leads b0_drags b0_from b0_near : Nat) (g0_thrown : Int32) (g0_hasImage : Int32) (g0_remembered : Int32) (g0_taped : Int32) (g0_deep : Int32) (g0_faultAt : Int32) (g0_steps : Int32) (g0_men : Int32) (g0_dogs : Int32) (g0_end : Int32) (f1 : Nat → Int32) (g0_point : Int32) (g0_begin : Int32) : va_W := [(a0, .inr (11, [.int g0_thrown, .ref b0_world, .ref b0_image, .ref b0_before, .int g0_hasImage, .ref b0_taken, .int g0_remembered, .ref a1, .int g0_taped, .int g0_point, .int g0_end, .int g0_begin, .int g0_deep, .int g0_faultAt, .ref b0_five, .int g0_steps, .ref b0_value, .ref b0_far, .int g0_men, .int g0_dogs, .ref b0_lead, .ref b0_walk, .ref b0_ends, .ref b0_manX, .ref b0_manY, .ref b0_dogX, .ref b0_dogY, .ref b0_row, .ref b0_round, .ref b0_farOne, .ref b0_leads, .ref b0_drags, .ref b0_from, .ref b0_near])), (a1, .inl (cyB, 400, .inl f1))]

theorem inX11_passes_X11 : ∀ w ∈ wsX110, w ∈ wsX11_passes := fun _ h => List.mem_cons_of_mem _ (List.mem_append_right _ h)
abbrev rmX11_passes : Room := { frames := 5, cells := 0, slots := 0, locals := 108 }
set_option maxRecDepth 100000 in
set_option maxHeartbeats 4000000 in
theorem ctX11_passes (l : Launch) (dC : Nat → ClassId) (dI : Nat → Nat → Nat) (cyI cyB cyJ cyZ : ClassId) (sz : Nat) (a0 a1 b0_world b0_image b0_before b0_taken b0_five b0_value b0_far b0_lead b0_walk b0_ends b0_manX b0_manY b0_dogX b0_dogY b0_row b0_round b0_farOne b0_leads b0_drags b0_from b0_near : Nat) (g0_thrown : Int32) (g0_hasImage : Int32) (g0_remembered : Int32) (g0_taped : Int32) (g0_deep : Int32) (g0_faultAt : Int32) (g0_steps : Int32) (g0_men : Int32) (g0_dogs : Int32) (g0_end : Int32) (f1 : Nat → Int32) (g0_point : Int32) (g0_begin : Int32) (post : Int32 → (Int32 × Int32) → Prop) (t_p0 : List Int32) (a_p0 : Nat) (hw : wpX11_passes t_p0 post g0_end f1 g0_point g0_begin ) : Met l yX11_passes wsX11_passes rmX11_passes (va_Pc [.ref a0, .ref a_p0] (wPreX dC dI cyI cyB cyJ cyZ sz (ceX11_passes cyI cyB cyJ cyZ a0 a1 b0_world b0_image b0_before b0_taken b0_five b0_value b0_far b0_lead b0_walk b0_ends b0_manX b0_manY b0_dogX b0_dogY b0_row b0_round b0_farOne b0_leads b0_drags b0_from b0_near g0_thrown g0_hasImage g0_remembered g0_taped g0_deep g0_faultAt g0_steps g0_men g0_dogs g0_end f1 g0_point g0_begin) (txS t_p0 a_p0))) (va_Qi post (fun u : Int32 × Int32 => wAt dC dI cyI cyB cyJ cyZ (va_A (ceX11_passes cyI cyB cyJ cyZ a0 a1 b0_world b0_image b0_before b0_taken b0_five b0_value b0_far b0_lead b0_walk b0_ends b0_manX b0_manY b0_dogX b0_dogY b0_row b0_round b0_farOne b0_leads b0_drags b0_from b0_near g0_thrown g0_hasImage g0_remembered g0_taped g0_deep g0_faultAt g0_steps g0_men g0_dogs g0_end f1 g0_point g0_begin) sz) (ceX11_passes cyI cyB cyJ cyZ a0 a1 b0_world b0_image b0_before b0_taken b0_five b0_value b0_far b0_lead b0_walk b0_ends b0_manX b0_manY b0_dogX b0_dogY b0_row b0_round b0_farOne b0_leads b0_drags b0_from b0_near g0_thrown g0_hasImage g0_remembered g0_taped g0_deep g0_faultAt g0_steps g0_men g0_dogs g0_end f1 u.1 u.2)) (va_A (ceX11_passes cyI cyB cyJ cyZ a0 a1 b0_world b0_image b0_before b0_taken b0_five b0_value b0_far b0_lead b0_walk b0_ends b0_manX b0_manY b0_dogX b0_dogY b0_row b0_round b0_farOne b0_leads b0_drags b0_from b0_near g0_thrown g0_hasImage g0_remembered g0_taped g0_deep g0_faultAt g0_steps g0_men g0_dogs g0_end f1 g0_point g0_begin) sz)) 0 0 (va_A (ceX11_passes cyI cyB cyJ cyZ a0 a1 b0_world b0_image b0_before b0_taken b0_five b0_value b0_far b0_lead b0_walk b0_ends b0_manX b0_manY b0_dogX b0_dogY b0_row b0_round b0_farOne b0_leads b0_drags b0_from b0_near g0_thrown g0_hasImage g0_remembered g0_taped g0_deep g0_faultAt g0_steps g0_men g0_dogs g0_end f1 g0_point g0_begin) sz) := by
  refine Met.ofW (cc := cX11_passes) (maxL := 2) (ret := (some .boolean)) (by decide) rfl ?_
  intro p e s m args below meth c s₁ B hml hv
  obtain ⟨rfl, ⟨hsz, hP, hK, hD0, hN⟩, hXs⟩ := hv
  have hx := B.exec
  have hb := B.bytes
  have hr := B.returns
  have hts := atoms_spec (ws := wsX11_passes) B.pre
  have hown : s.vm.findClass RX11 = some m.cls := findClass_of_methodNamed B.named
  have hlocks := B.notSynchronized
  subst hsz
  have hD := hD0.self (sz := s.heap.size)
  generalize hAe : va_A (ceX11_passes cyI cyB cyJ cyZ a0 a1 b0_world b0_image b0_before b0_taken b0_five b0_value b0_far b0_lead b0_walk b0_ends b0_manX b0_manY b0_dogX b0_dogY b0_row b0_round b0_farOne b0_leads b0_drags b0_from b0_near g0_thrown g0_hasImage g0_remembered g0_taped g0_deep g0_faultAt g0_steps g0_men g0_dogs g0_end f1 g0_point g0_begin) s.heap.size = A at hD hXs ⊢
  have hA : ∀ q : Nat, s.heap.size ≤ q → A q := fun q h => by rw [← hAe]; exact Or.inr h
  have hS : va_S A s.heap s.heap [] := va_S.rf
  have C0 : cxM p s m meth c _ wsX11_passes RX11 cX11_passes 2 (some .boolean) := ⟨hx, hb, hr, hml, hown, hts, hlocks⟩
  have hl := lv_entry ([.ref a0, .ref a_p0]) (n := 2) (Nat.le_of_ble_eq_true rfl)
  rw [lg_entry_eq]
  generalize (lg_sl ([.ref a0, .ref a_p0]) ++ List.replicate (2 - (lg_sl ([.ref a0, .ref a_p0])).length) Slot.unset).toArray = ls at hl ⊢
  have hl : lv_has ls 2 [(0, .ref a0), (1, .ref a_p0)] := hl
  show W p l e rmX11_passes s m _ below meth c _ _ _ _ _ _
  refine wq (fun Q hQ => ?_)
  refine lv_aload_n hx hb dX11_passes_0 rfl (lv_at hl 0 rfl) ?_
  have hPc := hP.sub (ws' := (ceX11_letters cyI cyB cyJ cyZ a0 a1 b0_world b0_image b0_before b0_taken b0_five b0_value b0_far b0_lead b0_walk b0_ends b0_manX b0_manY b0_dogX b0_dogY b0_row b0_round b0_farOne b0_leads b0_drags b0_from b0_near g0_thrown g0_hasImage g0_remembered g0_taped g0_deep g0_faultAt g0_steps g0_men g0_dogs g0_end f1 g0_point g0_begin)) [0, 1] rfl
  have hDc := hD.sub (ws' := (ceX11_letters cyI cyB cyJ cyZ a0 a1 b0_world b0_image b0_before b0_taken b0_five b0_value b0_far b0_lead b0_walk b0_ends b0_manX b0_manY b0_dogX b0_dogY b0_row b0_round b0_farOne b0_leads b0_drags b0_from b0_near g0_thrown g0_hasImage g0_remembered g0_taped g0_deep g0_faultAt g0_steps g0_men g0_dogs g0_end f1 g0_point g0_begin)) [0, 1] (by decide) rfl
  have hFc := va_free (wc := (ceX11_letters cyI cyB cyJ cyZ a0 a1 b0_world b0_image b0_before b0_taken b0_five b0_value b0_far b0_lead b0_walk b0_ends b0_manX b0_manY b0_dogX b0_dogY b0_row b0_round b0_farOne b0_leads b0_drags b0_from b0_near g0_thrown g0_hasImage g0_remembered g0_taped g0_deep g0_faultAt g0_steps g0_men g0_dogs g0_end f1 g0_point g0_begin)) hD hS hA [0, 1] rfl
  refine va_callv (va_runV (As := []) (rest := []) ⟨hx, hb, hml, hown, hts⟩ (ctX11_letters l dC dI cyI cyB cyJ cyZ _ a0 a1 b0_world b0_image b0_before b0_taken b0_five b0_value b0_far b0_lead b0_walk b0_ends b0_manX b0_manY b0_dogX b0_dogY b0_row b0_round b0_farOne b0_leads b0_drags b0_from b0_near g0_thrown g0_hasImage g0_remembered g0_taped g0_deep g0_faultAt g0_steps g0_men g0_dogs g0_end f1 g0_point g0_begin _ hw) (cwV 0 hts gX11_passes_X11_letters rfl rfl rfl (by decide +kernel) ⟨Nat.le_of_ble_eq_true rfl, Nat.le_of_ble_eq_true rfl⟩) ⟨wPre_blind, va_recv hK hPc (ci := 11) (q0 := 0) rfl rfl, fun U hU hW => wPre_of hPc hK hDc hN hU hW⟩ rfl rfl hl.1 rfl (lv_room (Nat.le_of_ble_eq_true rfl)) dX11_passes_1 ⟨(Nat.zero_le _), (Nat.zero_le _)⟩) hS (fun q _ h => hFc q h) hFc (fun u1 t H1 locs ht hvm hw hB hz1 hk1 hS => ?_)
  obtain ⟨hP1, hK1, hD1⟩ := hB
  rw [ht] at hP1
  obtain ⟨hP, hD⟩ := va_join (wr := pickW (ceX11_passes cyI cyB cyJ cyZ a0 a1 b0_world b0_image b0_before b0_taken b0_five b0_value b0_far b0_lead b0_walk b0_ends b0_manX b0_manY b0_dogX b0_dogY b0_row b0_round b0_farOne b0_leads b0_drags b0_from b0_near g0_thrown g0_hasImage g0_remembered g0_taped g0_deep g0_faultAt g0_steps g0_men g0_dogs g0_end f1 g0_point g0_begin) []) (w1 := (ceX11_letters cyI cyB cyJ cyZ a0 a1 b0_world b0_image b0_before b0_taken b0_five b0_value b0_far b0_lead b0_walk b0_ends b0_manX b0_manY b0_dogX b0_dogY b0_row b0_round b0_farOne b0_leads b0_drags b0_from b0_near g0_thrown g0_hasImage g0_remembered g0_taped g0_deep g0_faultAt g0_steps g0_men g0_dogs g0_end f1 u1.1 u1.2)) hP hD [0, 1] [] rfl rfl (by decide) (by decide) hk1 hFc hP1 hD1
  have hP := hP.sub (ws' := (ceX11_passes cyI cyB cyJ cyZ a0 a1 b0_world b0_image b0_before b0_taken b0_five b0_value b0_far b0_lead b0_walk b0_ends b0_manX b0_manY b0_dogX b0_dogY b0_row b0_round b0_farOne b0_leads b0_drags b0_from b0_near g0_thrown g0_hasImage g0_remembered g0_taped g0_deep g0_faultAt g0_steps g0_men g0_dogs g0_end f1 u1.1 u1.2)) [0, 1] rfl
  have hD := hD.sub (ws' := (ceX11_passes cyI cyB cyJ cyZ a0 a1 b0_world b0_image b0_before b0_taken b0_five b0_value b0_far b0_lead b0_walk b0_ends b0_manX b0_manY b0_dogX b0_dogY b0_row b0_round b0_farOne b0_leads b0_drags b0_from b0_near g0_thrown g0_hasImage g0_remembered g0_taped g0_deep g0_faultAt g0_steps g0_men g0_dogs g0_end f1 u1.1 u1.2)) [0, 1] (by decide) rfl
  generalize H1 = H at hP hS ⊢
  refine lv_aload_n hx hb dX11_passes_4 rfl (lv_at hl 0 rfl) ?_
  refine lv_aload_n hx hb dX11_passes_5 rfl (lv_at hl 1 rfl) ?_
  have hPc := hP.sub (ws' := (ceX11_isWord cyI cyB cyJ cyZ a0 a1 b0_world b0_image b0_before b0_taken b0_five b0_value b0_far b0_lead b0_walk b0_ends b0_manX b0_manY b0_dogX b0_dogY b0_row b0_round b0_farOne b0_leads b0_drags b0_from b0_near g0_thrown g0_hasImage g0_remembered g0_taped g0_end g0_deep g0_faultAt g0_steps g0_men g0_dogs u1.1 u1.2 f1)) [0, 1] rfl
  have hDc := hD.sub (ws' := (ceX11_isWord cyI cyB cyJ cyZ a0 a1 b0_world b0_image b0_before b0_taken b0_five b0_value b0_far b0_lead b0_walk b0_ends b0_manX b0_manY b0_dogX b0_dogY b0_row b0_round b0_farOne b0_leads b0_drags b0_from b0_near g0_thrown g0_hasImage g0_remembered g0_taped g0_end g0_deep g0_faultAt g0_steps g0_men g0_dogs u1.1 u1.2 f1)) [0, 1] (by decide) rfl
  have hFc := va_free (wc := (ceX11_isWord cyI cyB cyJ cyZ a0 a1 b0_world b0_image b0_before b0_taken b0_five b0_value b0_far b0_lead b0_walk b0_ends b0_manX b0_manY b0_dogX b0_dogY b0_row b0_round b0_farOne b0_leads b0_drags b0_from b0_near g0_thrown g0_hasImage g0_remembered g0_taped g0_end g0_deep g0_faultAt g0_steps g0_men g0_dogs u1.1 u1.2 f1)) hD hS hA [0, 1] rfl
  refine va_calli (va_runV (As := [.ref a_p0]) (rest := []) ⟨hx, hb, hml, hown, hts⟩ (ctX11_isWord l dC dI cyI cyB cyJ cyZ _ a0 a1 b0_world b0_image b0_before b0_taken b0_five b0_value b0_far b0_lead b0_walk b0_ends b0_manX b0_manY b0_dogX b0_dogY b0_row b0_round b0_farOne b0_leads b0_drags b0_from b0_near g0_thrown g0_hasImage g0_remembered g0_taped g0_end g0_deep g0_faultAt g0_steps g0_men g0_dogs u1.1 u1.2 f1 _ t_p0 a_p0 hw) (cwV 1 hts gX11_passes_X11_isWord rfl rfl rfl (by decide +kernel) ⟨Nat.le_of_ble_eq_true rfl, Nat.le_of_ble_eq_true rfl⟩) ⟨wPreX_blind (xOk_txS t_p0 a_p0), va_recv hK hPc (ci := 11) (q0 := 0) rfl rfl, fun U hU hW => wPreX_of (xOk_txS t_p0 a_p0) hPc hK hDc hN hXs hS hFc hU hW⟩ rfl rfl hl.1 rfl (lv_room (Nat.le_of_ble_eq_true rfl)) dX11_passes_6 ⟨(Nat.zero_le _), (Nat.zero_le _)⟩) hS (fun q _ h => hFc q h) hFc (fun r3 u2 t H1 locs ht hvm hw hB hz1 hk1 hS => ?_)
  obtain ⟨hP1, hK1, hD1⟩ := hB
  rw [ht] at hP1
  obtain ⟨hP, hD⟩ := va_join (wr := pickW (ceX11_passes cyI cyB cyJ cyZ a0 a1 b0_world b0_image b0_before b0_taken b0_five b0_value b0_far b0_lead b0_walk b0_ends b0_manX b0_manY b0_dogX b0_dogY b0_row b0_round b0_farOne b0_leads b0_drags b0_from b0_near g0_thrown g0_hasImage g0_remembered g0_taped g0_deep g0_faultAt g0_steps g0_men g0_dogs g0_end f1 u1.1 u1.2) []) (w1 := (ceX11_isWord cyI cyB cyJ cyZ a0 a1 b0_world b0_image b0_before b0_taken b0_five b0_value b0_far b0_lead b0_walk b0_ends b0_manX b0_manY b0_dogX b0_dogY b0_row b0_round b0_farOne b0_leads b0_drags b0_from b0_near g0_thrown g0_hasImage g0_remembered g0_taped g0_end g0_deep g0_faultAt g0_steps g0_men g0_dogs u1.1 u1.2 f1)) hP hD [0, 1] [] rfl rfl (by decide) (by decide) hk1 hFc hP1 hD1
  have hP := hP.sub (ws' := (ceX11_passes cyI cyB cyJ cyZ a0 a1 b0_world b0_image b0_before b0_taken b0_five b0_value b0_far b0_lead b0_walk b0_ends b0_manX b0_manY b0_dogX b0_dogY b0_row b0_round b0_farOne b0_leads b0_drags b0_from b0_near g0_thrown g0_hasImage g0_remembered g0_taped g0_deep g0_faultAt g0_steps g0_men g0_dogs g0_end f1 u1.1 u1.2)) [0, 1] rfl
  have hD := hD.sub (ws' := (ceX11_passes cyI cyB cyJ cyZ a0 a1 b0_world b0_image b0_before b0_taken b0_five b0_value b0_far b0_lead b0_walk b0_ends b0_manX b0_manY b0_dogX b0_dogY b0_row b0_round b0_farOne b0_leads b0_drags b0_from b0_near g0_thrown g0_hasImage g0_remembered g0_taped g0_deep g0_faultAt g0_steps g0_men g0_dogs g0_end f1 u1.1 u1.2)) [0, 1] (by decide) rfl
  generalize H1 = H at hP hS ⊢
  refine lv_if_eq (tgt := 14) hx hb dX11_passes_9 (by decide) (fun hc => ?_) (fun hc => ?_)
  · have hw := hw.1 hc
    refine lv_aload_n hx hb dX11_passes_14 rfl (lv_at hl 0 rfl) ?_
    refine lv_aload_n hx hb dX11_passes_15 rfl (lv_at hl 0 rfl) ?_
    refine va_get (D := (dC, dI)) (ci := 11) (v := .int u1.2) (C := RX11) (T := TX11) (N := 34) hx hb hts inX11_passes_X11 hown hK hP 0 rfl rfl 11 (by decide) (hts (.fieldLink RX11 122 "LeadParkModel" "begin" "I") (List.mem_of_getElem? (i := 1) rfl)) (fun _ h9 => h9) rfl dX11_passes_16 ?_
    refine va_put (D := (dC, dI)) (ci := 11) (v := .int u1.2) (ty := .int) (C := RX11) (T := TX11) (N := 34) hx hb hts inX11_passes_X11 tyX11 tyX11_ok nmX11 hown hK hP hD hS 0 rfl rfl 9 (by decide) (hts (.fieldLink RX11 112 "LeadParkModel" "point" "I") (List.mem_of_getElem? (i := 2) rfl)) (fun _ h9 => h9) rfl (by decide +kernel) rfl rfl (Nat.le_of_ble_eq_true rfl) dX11_passes_19 (fun H locs hP hD hS => ?_)
    have hP : va_P (dC, dI) vwCl (ceX11_passes cyI cyB cyJ cyZ a0 a1 b0_world b0_image b0_before b0_taken b0_five b0_value b0_far b0_lead b0_walk b0_ends b0_manX b0_manY b0_dogX b0_dogY b0_row b0_round b0_farOne b0_leads b0_drags b0_from b0_near g0_thrown g0_hasImage g0_remembered g0_taped g0_deep g0_faultAt g0_steps g0_men g0_dogs g0_end f1 u1.2 u1.2) H := hP
    have hD : va_D A (ceX11_passes cyI cyB cyJ cyZ a0 a1 b0_world b0_image b0_before b0_taken b0_five b0_value b0_far b0_lead b0_walk b0_ends b0_manX b0_manY b0_dogX b0_dogY b0_row b0_round b0_farOne b0_leads b0_drags b0_from b0_near g0_thrown g0_hasImage g0_remembered g0_taped g0_deep g0_faultAt g0_steps g0_men g0_dogs g0_end f1 u1.2 u1.2) := hD
    refine lv_iconst (v := 0) hx hb dX11_passes_22 (by decide) ?_
    rw [hQ]
    exact W.zret (v := 0) (ty := .boolean) hx hb hr rfl (fun t ht hW => ⟨⟨0, (u1.2, u1.2), rfl, hw, by rw [ht]; exact hP, va_K.moved hW.alike hK, hD⟩, hS.F ht⟩) hS.2.2 dX11_passes_23
  · have hw := hw.2 hc
    refine lv_iconst (v := 1) hx hb dX11_passes_12 (by decide) ?_
    rw [hQ]
    exact W.zret (v := 1) (ty := .boolean) hx hb hr rfl (fun t ht hW => ⟨⟨1, (u1.1, u1.2), rfl, hw, by rw [ht]; exact hP, va_K.moved hW.alike hK, hD⟩, hS.F ht⟩) hS.2.2 dX11_passes_13
/-! LeadParkModel.sign (I)Z -/
abbrev ceX11_sign (cyI cyB cyJ cyZ : ClassId) (a0 a1 b0_world b0_image b0_before b0_taken b0_five b0_value b0_far b0_lead b0_walk b0_ends b0_manX b0_manY b0_dogX b0_dogY b0_row b0_round b0_farOne b0_leads b0_drags b0_from b0_near : Nat) (g0_thrown : Int32) (g0_hasImage : Int32) (g0_remembered : Int32) (g0_taped : Int32) (g0_deep : Int32) (g0_faultAt : Int32) (g0_steps : Int32) (g0_men : Int32) (g0_dogs : Int32) (g0_end : Int32) (f1 : Nat → Int32) (g0_point : Int32) (g0_begin : Int32) : va_W := [(a0, .inr (11, [.int g0_thrown, .ref b0_world, .ref b0_image, .ref b0_before, .int g0_hasImage, .ref b0_taken, .int g0_remembered, .ref a1, .int g0_taped, .int g0_point, .int g0_end, .int g0_begin, .int g0_deep, .int g0_faultAt, .ref b0_five, .int g0_steps, .ref b0_value, .ref b0_far, .int g0_men, .int g0_dogs, .ref b0_lead, .ref b0_walk, .ref b0_ends, .ref b0_manX, .ref b0_manY, .ref b0_dogX, .ref b0_dogY, .ref b0_row, .ref b0_round, .ref b0_farOne, .ref b0_leads, .ref b0_drags, .ref b0_from, .ref b0_near])), (a1, .inl (cyB, 400, .inl f1))]

theorem inX11_sign_X11 : ∀ w ∈ wsX110, w ∈ wsX11_sign := fun _ h => List.mem_cons_of_mem _ (List.mem_append_right _ h)
abbrev rmX11_sign : Room := { frames := 2, cells := 0, slots := 0, locals := 42 }
set_option maxRecDepth 100000 in
set_option maxHeartbeats 4000000 in
theorem ctX11_sign (l : Launch) (dC : Nat → ClassId) (dI : Nat → Nat → Nat) (cyI cyB cyJ cyZ : ClassId) (sz : Nat) (a0 a1 b0_world b0_image b0_before b0_taken b0_five b0_value b0_far b0_lead b0_walk b0_ends b0_manX b0_manY b0_dogX b0_dogY b0_row b0_round b0_farOne b0_leads b0_drags b0_from b0_near : Nat) (g0_thrown : Int32) (g0_hasImage : Int32) (g0_remembered : Int32) (g0_taped : Int32) (g0_deep : Int32) (g0_faultAt : Int32) (g0_steps : Int32) (g0_men : Int32) (g0_dogs : Int32) (g0_end : Int32) (f1 : Nat → Int32) (g0_point : Int32) (g0_begin : Int32) (p0 : Int32) (post : Int32 → (Int32 × Int32) → Prop) (hw : wpX11_sign post g0_end f1 g0_point g0_begin p0) : Met l yX11_sign wsX11_sign rmX11_sign (va_Pc [.ref a0, .int p0] (wPre dC dI cyI cyB cyJ cyZ sz (ceX11_sign cyI cyB cyJ cyZ a0 a1 b0_world b0_image b0_before b0_taken b0_five b0_value b0_far b0_lead b0_walk b0_ends b0_manX b0_manY b0_dogX b0_dogY b0_row b0_round b0_farOne b0_leads b0_drags b0_from b0_near g0_thrown g0_hasImage g0_remembered g0_taped g0_deep g0_faultAt g0_steps g0_men g0_dogs g0_end f1 g0_point g0_begin))) (va_Qi post (fun u : Int32 × Int32 => wAt dC dI cyI cyB cyJ cyZ (va_A (ceX11_sign cyI cyB cyJ cyZ a0 a1 b0_world b0_image b0_before b0_taken b0_five b0_value b0_far b0_lead b0_walk b0_ends b0_manX b0_manY b0_dogX b0_dogY b0_row b0_round b0_farOne b0_leads b0_drags b0_from b0_near g0_thrown g0_hasImage g0_remembered g0_taped g0_deep g0_faultAt g0_steps g0_men g0_dogs g0_end f1 g0_point g0_begin) sz) (ceX11_sign cyI cyB cyJ cyZ a0 a1 b0_world b0_image b0_before b0_taken b0_five b0_value b0_far b0_lead b0_walk b0_ends b0_manX b0_manY b0_dogX b0_dogY b0_row b0_round b0_farOne b0_leads b0_drags b0_from b0_near g0_thrown g0_hasImage g0_remembered g0_taped g0_deep g0_faultAt g0_steps g0_men g0_dogs g0_end f1 u.1 u.2)) (va_A (ceX11_sign cyI cyB cyJ cyZ a0 a1 b0_world b0_image b0_before b0_taken b0_five b0_value b0_far b0_lead b0_walk b0_ends b0_manX b0_manY b0_dogX b0_dogY b0_row b0_round b0_farOne b0_leads b0_drags b0_from b0_near g0_thrown g0_hasImage g0_remembered g0_taped g0_deep g0_faultAt g0_steps g0_men g0_dogs g0_end f1 g0_point g0_begin) sz)) 0 0 (va_A (ceX11_sign cyI cyB cyJ cyZ a0 a1 b0_world b0_image b0_before b0_taken b0_five b0_value b0_far b0_lead b0_walk b0_ends b0_manX b0_manY b0_dogX b0_dogY b0_row b0_round b0_farOne b0_leads b0_drags b0_from b0_near g0_thrown g0_hasImage g0_remembered g0_taped g0_deep g0_faultAt g0_steps g0_men g0_dogs g0_end f1 g0_point g0_begin) sz) := by
  refine Met.ofW (cc := cX11_sign) (maxL := 2) (ret := (some .boolean)) (by decide) rfl ?_
  intro p e s m args below meth c s₁ B hml hv
  obtain ⟨rfl, hsz, hP, hK, hD0, hN⟩ := hv
  have hx := B.exec
  have hb := B.bytes
  have hr := B.returns
  have hts := atoms_spec (ws := wsX11_sign) B.pre
  have hown : s.vm.findClass RX11 = some m.cls := findClass_of_methodNamed B.named
  have hlocks := B.notSynchronized
  subst hsz
  have hD := hD0.self (sz := s.heap.size)
  generalize hAe : va_A (ceX11_sign cyI cyB cyJ cyZ a0 a1 b0_world b0_image b0_before b0_taken b0_five b0_value b0_far b0_lead b0_walk b0_ends b0_manX b0_manY b0_dogX b0_dogY b0_row b0_round b0_farOne b0_leads b0_drags b0_from b0_near g0_thrown g0_hasImage g0_remembered g0_taped g0_deep g0_faultAt g0_steps g0_men g0_dogs g0_end f1 g0_point g0_begin) s.heap.size = A at hD ⊢
  have hA : ∀ q : Nat, s.heap.size ≤ q → A q := fun q h => by rw [← hAe]; exact Or.inr h
  have hS : va_S A s.heap s.heap [] := va_S.rf
  have C0 : cxM p s m meth c _ wsX11_sign RX11 cX11_sign 2 (some .boolean) := ⟨hx, hb, hr, hml, hown, hts, hlocks⟩
  have hl := lv_entry ([.ref a0, .int p0]) (n := 2) (Nat.le_of_ble_eq_true rfl)
  rw [lg_entry_eq]
  generalize (lg_sl ([.ref a0, .int p0]) ++ List.replicate (2 - (lg_sl ([.ref a0, .int p0])).length) Slot.unset).toArray = ls at hl ⊢
  have hl : lv_has ls 2 [(0, .ref a0), (1, .int p0)] := hl
  show W p l e rmX11_sign s m _ below meth c _ _ _ _ _ _
  refine wq (fun Q hQ => ?_)
  refine lv_aload_n hx hb dX11_sign_0 rfl (lv_at hl 0 rfl) ?_
  have hPc := hP.sub (ws' := (ceX11_blanks cyI cyB cyJ cyZ a0 a1 b0_world b0_image b0_before b0_taken b0_five b0_value b0_far b0_lead b0_walk b0_ends b0_manX b0_manY b0_dogX b0_dogY b0_row b0_round b0_farOne b0_leads b0_drags b0_from b0_near g0_thrown g0_hasImage g0_remembered g0_taped g0_deep g0_faultAt g0_steps g0_men g0_dogs g0_end f1 g0_point g0_begin)) [0, 1] rfl
  have hDc := hD.sub (ws' := (ceX11_blanks cyI cyB cyJ cyZ a0 a1 b0_world b0_image b0_before b0_taken b0_five b0_value b0_far b0_lead b0_walk b0_ends b0_manX b0_manY b0_dogX b0_dogY b0_row b0_round b0_farOne b0_leads b0_drags b0_from b0_near g0_thrown g0_hasImage g0_remembered g0_taped g0_deep g0_faultAt g0_steps g0_men g0_dogs g0_end f1 g0_point g0_begin)) [0, 1] (by decide) rfl
  have hFc := va_free (wc := (ceX11_blanks cyI cyB cyJ cyZ a0 a1 b0_world b0_image b0_before b0_taken b0_five b0_value b0_far b0_lead b0_walk b0_ends b0_manX b0_manY b0_dogX b0_dogY b0_row b0_round b0_farOne b0_leads b0_drags b0_from b0_near g0_thrown g0_hasImage g0_remembered g0_taped g0_deep g0_faultAt g0_steps g0_men g0_dogs g0_end f1 g0_point g0_begin)) hD hS hA [0, 1] rfl
  refine va_callv (va_runV (As := []) (rest := []) ⟨hx, hb, hml, hown, hts⟩ (ctX11_blanks l dC dI cyI cyB cyJ cyZ _ a0 a1 b0_world b0_image b0_before b0_taken b0_five b0_value b0_far b0_lead b0_walk b0_ends b0_manX b0_manY b0_dogX b0_dogY b0_row b0_round b0_farOne b0_leads b0_drags b0_from b0_near g0_thrown g0_hasImage g0_remembered g0_taped g0_deep g0_faultAt g0_steps g0_men g0_dogs g0_end f1 g0_point g0_begin _ hw) (cwV 0 hts gX11_sign_X11_blanks rfl rfl rfl (by decide +kernel) ⟨Nat.le_of_ble_eq_true rfl, Nat.le_of_ble_eq_true rfl⟩) ⟨wPre_blind, va_recv hK hPc (ci := 11) (q0 := 0) rfl rfl, fun U hU hW => wPre_of hPc hK hDc hN hU hW⟩ rfl rfl hl.1 rfl (lv_room (Nat.le_of_ble_eq_true rfl)) dX11_sign_1 ⟨(Nat.zero_le _), (Nat.zero_le _)⟩) hS (fun q _ h => hFc q h) hFc (fun u1 t H1 locs ht hvm hw hB hz1 hk1 hS => ?_)
  obtain ⟨hP1, hK1, hD1⟩ := hB
  rw [ht] at hP1
  obtain ⟨hP, hD⟩ := va_join (wr := pickW (ceX11_sign cyI cyB cyJ cyZ a0 a1 b0_world b0_image b0_before b0_taken b0_five b0_value b0_far b0_lead b0_walk b0_ends b0_manX b0_manY b0_dogX b0_dogY b0_row b0_round b0_farOne b0_leads b0_drags b0_from b0_near g0_thrown g0_hasImage g0_remembered g0_taped g0_deep g0_faultAt g0_steps g0_men g0_dogs g0_end f1 g0_point g0_begin) []) (w1 := (ceX11_blanks cyI cyB cyJ cyZ a0 a1 b0_world b0_image b0_before b0_taken b0_five b0_value b0_far b0_lead b0_walk b0_ends b0_manX b0_manY b0_dogX b0_dogY b0_row b0_round b0_farOne b0_leads b0_drags b0_from b0_near g0_thrown g0_hasImage g0_remembered g0_taped g0_deep g0_faultAt g0_steps g0_men g0_dogs g0_end f1 u1.1 u1.2)) hP hD [0, 1] [] rfl rfl (by decide) (by decide) hk1 hFc hP1 hD1
  have hP := hP.sub (ws' := (ceX11_sign cyI cyB cyJ cyZ a0 a1 b0_world b0_image b0_before b0_taken b0_five b0_value b0_far b0_lead b0_walk b0_ends b0_manX b0_manY b0_dogX b0_dogY b0_row b0_round b0_farOne b0_leads b0_drags b0_from b0_near g0_thrown g0_hasImage g0_remembered g0_taped g0_deep g0_faultAt g0_steps g0_men g0_dogs g0_end f1 u1.1 u1.2)) [0, 1] rfl
  have hD := hD.sub (ws' := (ceX11_sign cyI cyB cyJ cyZ a0 a1 b0_world b0_image b0_before b0_taken b0_five b0_value b0_far b0_lead b0_walk b0_ends b0_manX b0_manY b0_dogX b0_dogY b0_row b0_round b0_farOne b0_leads b0_drags b0_from b0_near g0_thrown g0_hasImage g0_remembered g0_taped g0_deep g0_faultAt g0_steps g0_men g0_dogs g0_end f1 u1.1 u1.2)) [0, 1] (by decide) rfl
  generalize H1 = H at hP hS ⊢
  refine lv_aload_n hx hb dX11_sign_4 rfl (lv_at hl 0 rfl) ?_
  refine lv_iload_n hx hb dX11_sign_5 rfl (lv_at hl 1 rfl) ?_
  refine lv_iload_n hx hb dX11_sign_6 rfl (lv_at hl 1 rfl) ?_
  have hPc := hP.sub (ws' := (ceX11_isAt cyI cyB cyJ cyZ a0 a1 b0_world b0_image b0_before b0_taken b0_five b0_value b0_far b0_lead b0_walk b0_ends b0_manX b0_manY b0_dogX b0_dogY b0_row b0_round b0_farOne b0_leads b0_drags b0_from b0_near g0_thrown g0_hasImage g0_remembered g0_taped u1.2 g0_deep g0_faultAt g0_steps g0_men g0_dogs u1.1 g0_end f1)) [0, 1] rfl
  have hDc := hD.sub (ws' := (ceX11_isAt cyI cyB cyJ cyZ a0 a1 b0_world b0_image b0_before b0_taken b0_five b0_value b0_far b0_lead b0_walk b0_ends b0_manX b0_manY b0_dogX b0_dogY b0_row b0_round b0_farOne b0_leads b0_drags b0_from b0_near g0_thrown g0_hasImage g0_remembered g0_taped u1.2 g0_deep g0_faultAt g0_steps g0_men g0_dogs u1.1 g0_end f1)) [0, 1] (by decide) rfl
  have hFc := va_free (wc := (ceX11_isAt cyI cyB cyJ cyZ a0 a1 b0_world b0_image b0_before b0_taken b0_five b0_value b0_far b0_lead b0_walk b0_ends b0_manX b0_manY b0_dogX b0_dogY b0_row b0_round b0_farOne b0_leads b0_drags b0_from b0_near g0_thrown g0_hasImage g0_remembered g0_taped u1.2 g0_deep g0_faultAt g0_steps g0_men g0_dogs u1.1 g0_end f1)) hD hS hA [0, 1] rfl
  refine va_calli (va_runV (As := [.int p0, .int p0]) (rest := []) ⟨hx, hb, hml, hown, hts⟩ (ctX11_isAt l dC dI cyI cyB cyJ cyZ _ a0 a1 b0_world b0_image b0_before b0_taken b0_five b0_value b0_far b0_lead b0_walk b0_ends b0_manX b0_manY b0_dogX b0_dogY b0_row b0_round b0_farOne b0_leads b0_drags b0_from b0_near g0_thrown g0_hasImage g0_remembered g0_taped u1.2 g0_deep g0_faultAt g0_steps g0_men g0_dogs u1.1 g0_end f1 p0 p0 _ hw) (cwV 2 hts gX11_sign_X11_isAt rfl rfl rfl (by decide +kernel) ⟨Nat.le_of_ble_eq_true rfl, Nat.le_of_ble_eq_true rfl⟩) ⟨wPre_blind, va_recv hK hPc (ci := 11) (q0 := 0) rfl rfl, fun U hU hW => wPre_of hPc hK hDc hN hU hW⟩ rfl rfl hl.1 rfl (lv_room (Nat.le_of_ble_eq_true rfl)) dX11_sign_7 ⟨(Nat.zero_le _), (Nat.zero_le _)⟩) hS (fun q _ h => hFc q h) hFc (fun r3 u2 t H1 locs ht hvm hw hB hz1 hk1 hS => ?_)
  obtain ⟨hP1, hK1, hD1⟩ := hB
  rw [ht] at hP1
  obtain ⟨hP, hD⟩ := va_join (wr := pickW (ceX11_sign cyI cyB cyJ cyZ a0 a1 b0_world b0_image b0_before b0_taken b0_five b0_value b0_far b0_lead b0_walk b0_ends b0_manX b0_manY b0_dogX b0_dogY b0_row b0_round b0_farOne b0_leads b0_drags b0_from b0_near g0_thrown g0_hasImage g0_remembered g0_taped g0_deep g0_faultAt g0_steps g0_men g0_dogs g0_end f1 u1.1 u1.2) []) (w1 := (ceX11_isAt cyI cyB cyJ cyZ a0 a1 b0_world b0_image b0_before b0_taken b0_five b0_value b0_far b0_lead b0_walk b0_ends b0_manX b0_manY b0_dogX b0_dogY b0_row b0_round b0_farOne b0_leads b0_drags b0_from b0_near g0_thrown g0_hasImage g0_remembered g0_taped u1.2 g0_deep g0_faultAt g0_steps g0_men g0_dogs u1.1 g0_end f1)) hP hD [0, 1] [] rfl rfl (by decide) (by decide) hk1 hFc hP1 hD1
  have hP := hP.sub (ws' := (ceX11_sign cyI cyB cyJ cyZ a0 a1 b0_world b0_image b0_before b0_taken b0_five b0_value b0_far b0_lead b0_walk b0_ends b0_manX b0_manY b0_dogX b0_dogY b0_row b0_round b0_farOne b0_leads b0_drags b0_from b0_near g0_thrown g0_hasImage g0_remembered g0_taped g0_deep g0_faultAt g0_steps g0_men g0_dogs g0_end f1 u1.1 u1.2)) [0, 1] rfl
  have hD := hD.sub (ws' := (ceX11_sign cyI cyB cyJ cyZ a0 a1 b0_world b0_image b0_before b0_taken b0_five b0_value b0_far b0_lead b0_walk b0_ends b0_manX b0_manY b0_dogX b0_dogY b0_row b0_round b0_farOne b0_leads b0_drags b0_from b0_near g0_thrown g0_hasImage g0_remembered g0_taped g0_deep g0_faultAt g0_steps g0_men g0_dogs g0_end f1 u1.1 u1.2)) [0, 1] (by decide) rfl
  generalize H1 = H at hP hS ⊢
  refine lv_if_ne (tgt := 15) hx hb dX11_sign_10 (by decide) (fun hc => ?_) (fun hc => ?_)
  · have hw := hw.1 hc
    refine lv_aload_n hx hb dX11_sign_15 rfl (lv_at hl 0 rfl) ?_
    refine lv_dup hx hb dX11_sign_16 rfl ?_
    refine va_get (D := (dC, dI)) (ci := 11) (v := .int u1.1) (C := RX11) (T := TX11) (N := 34) hx hb hts inX11_sign_X11 hown hK hP 0 rfl rfl 9 (by decide) (hts (.fieldLink RX11 112 "LeadParkModel" "point" "I") (List.mem_of_getElem? (i := 1) rfl)) (fun _ h9 => h9) rfl dX11_sign_17 ?_
    refine lv_iconst (v := 1) hx hb dX11_sign_20 (by decide) ?_
    refine lv_iadd hx hb dX11_sign_21 ?_
    refine lv_topi (fun v4 ev4 => ?_)
    have hw := hw v4 ev4
    refine va_put (D := (dC, dI)) (ci := 11) (v := .int v4) (ty := .int) (C := RX11) (T := TX11) (N := 34) hx hb hts inX11_sign_X11 tyX11 tyX11_ok nmX11 hown hK hP hD hS 0 rfl rfl 9 (by decide) (hts (.fieldLink RX11 112 "LeadParkModel" "point" "I") (List.mem_of_getElem? (i := 1) rfl)) (fun _ h9 => h9) rfl (by decide +kernel) rfl rfl (Nat.le_of_ble_eq_true rfl) dX11_sign_22 (fun H locs hP hD hS => ?_)
    have hP : va_P (dC, dI) vwCl (ceX11_sign cyI cyB cyJ cyZ a0 a1 b0_world b0_image b0_before b0_taken b0_five b0_value b0_far b0_lead b0_walk b0_ends b0_manX b0_manY b0_dogX b0_dogY b0_row b0_round b0_farOne b0_leads b0_drags b0_from b0_near g0_thrown g0_hasImage g0_remembered g0_taped g0_deep g0_faultAt g0_steps g0_men g0_dogs g0_end f1 v4 u1.2) H := hP
    have hD : va_D A (ceX11_sign cyI cyB cyJ cyZ a0 a1 b0_world b0_image b0_before b0_taken b0_five b0_value b0_far b0_lead b0_walk b0_ends b0_manX b0_manY b0_dogX b0_dogY b0_row b0_round b0_farOne b0_leads b0_drags b0_from b0_near g0_thrown g0_hasImage g0_remembered g0_taped g0_deep g0_faultAt g0_steps g0_men g0_dogs g0_end f1 v4 u1.2) := hD
    refine lv_iconst (v := 1) hx hb dX11_sign_25 (by decide) ?_
    rw [hQ]
    exact W.zret (v := 1) (ty := .boolean) hx hb hr rfl (fun t ht hW => ⟨⟨1, (v4, u1.2), rfl, hw, by rw [ht]; exact hP, va_K.moved hW.alike hK, hD⟩, hS.F ht⟩) hS.2.2 dX11_sign_26
  · have hw := hw.2 hc
    refine lv_iconst (v := 0) hx hb dX11_sign_13 (by decide) ?_
    rw [hQ]
    exact W.zret (v := 0) (ty := .boolean) hx hb hr rfl (fun t ht hW => ⟨⟨0, (u1.1, u1.2), rfl, hw, by rw [ht]; exact hP, va_K.moved hW.alike hK, hD⟩, hS.F ht⟩) hS.2.2 dX11_sign_14
/-! LeadParkModel.figures (III)I -/
abbrev ceX11_figures (cyI cyB cyJ cyZ : ClassId) (a0 a1 b0_world b0_image b0_before b0_taken b0_five b0_value b0_far b0_lead b0_walk b0_ends b0_manX b0_manY b0_dogX b0_dogY b0_row b0_round b0_farOne b0_leads b0_drags b0_from b0_near : Nat) (g0_thrown : Int32) (g0_hasImage : Int32) (g0_remembered : Int32) (g0_taped : Int32) (g0_deep : Int32) (g0_faultAt : Int32) (g0_steps : Int32) (g0_men : Int32) (g0_dogs : Int32) (g0_end : Int32) (f1 : Nat → Int32) (g0_point : Int32) (g0_begin : Int32) : va_W := [(a0, .inr (11, [.int g0_thrown, .ref b0_world, .ref b0_image, .ref b0_before, .int g0_hasImage, .ref b0_taken, .int g0_remembered, .ref a1, .int g0_taped, .int g0_point, .int g0_end, .int g0_begin, .int g0_deep, .int g0_faultAt, .ref b0_five, .int g0_steps, .ref b0_value, .ref b0_far, .int g0_men, .int g0_dogs, .ref b0_lead, .ref b0_walk, .ref b0_ends, .ref b0_manX, .ref b0_manY, .ref b0_dogX, .ref b0_dogY, .ref b0_row, .ref b0_round, .ref b0_farOne, .ref b0_leads, .ref b0_drags, .ref b0_from, .ref b0_near])), (a1, .inl (cyB, 400, .inl f1))]

theorem inX11_figures_X11 : ∀ w ∈ wsX110, w ∈ wsX11_figures := fun _ h => List.mem_cons_of_mem _ (List.mem_append_right _ h)
abbrev rmX11_figures : Room := { frames := 2, cells := 0, slots := 0, locals := 42 }
set_option maxRecDepth 100000 in
set_option maxHeartbeats 4000000 in
theorem bX11_figures_54 {p : Program} {l : Launch} {e : Env} {s : State} {m : MethodId} {args : Array Value} {below : List Frame} {meth : Method} {c : Code} {dC : Nat → ClassId} {dI : Nat → Nat → Nat} {cyI cyB cyJ cyZ : ClassId} {A : Nat → Prop} {a0 a1 b0_world b0_image b0_before b0_taken b0_five b0_value b0_far b0_lead b0_walk b0_ends b0_manX b0_manY b0_dogX b0_dogY b0_row b0_round b0_farOne b0_leads b0_drags b0_from b0_near : Nat} {g0_thrown : Int32} {g0_hasImage : Int32} {g0_remembered : Int32} {g0_taped : Int32} {g0_deep : Int32} {g0_faultAt : Int32} {g0_steps : Int32} {g0_men : Int32} {g0_dogs : Int32} (C0 : cxM p s m meth c args wsX11_figures RX11 cX11_figures 5 (some .int)) (hK : va_K (dC, dI) vwCl (tyA cyI cyB cyJ cyZ) s) (hN : nwA s) (hA : ∀ q : Nat, s.heap.size ≤ q → A q) {post : Int32 → (Int32 × Int32) → Prop} {g0_end : Int32} {f1 : Nat → Int32} {k7 : Int32 → Int32 → Int32 → Int32 → Int32 → Int32 → Prop} {Q : State → Prop} (hQ : Q = MQ below (va_Qi post (fun u : Int32 × Int32 => wAt dC dI cyI cyB cyJ cyZ A (ceX11_figures cyI cyB cyJ cyZ a0 a1 b0_world b0_image b0_before b0_taken b0_five b0_value b0_far b0_lead b0_walk b0_ends b0_manX b0_manY b0_dogX b0_dogY b0_row b0_round b0_farOne b0_leads b0_drags b0_from b0_near g0_thrown g0_hasImage g0_remembered g0_taped g0_deep g0_faultAt g0_steps g0_men g0_dogs g0_end f1 u.1 u.2)) A) args s 0 0 A) (hk7 : ∀ (g0_point : Int32) (g0_begin : Int32) (x1 : Int32) (x2 : Int32) (x3 : Int32) (x4 : Int32), k7 g0_point g0_begin x1 x2 x3 x4 → AtW p l e rmX11_figures s m args below meth c dC dI A Q 5 0 0 (ceX11_figures cyI cyB cyJ cyZ a0 a1 b0_world b0_image b0_before b0_taken b0_five b0_value b0_far b0_lead b0_walk b0_ends b0_manX b0_manY b0_dogX b0_dogY b0_row b0_round b0_farOne b0_leads b0_drags b0_from b0_near g0_thrown g0_hasImage g0_remembered g0_taped g0_deep g0_faultAt g0_steps g0_men g0_dogs g0_end f1 g0_point g0_begin) [(0, .ref a0), (1, .int x1), (2, .int x2), (3, .int x3), (4, .int x4)] 7 []) : ∀ (g0_point : Int32) (g0_begin : Int32) (x1 : Int32) (x2 : Int32) (x3 : Int32) (s0 : Int32), wpX11_figures_54 k7 post g0_end f1 g0_point g0_begin x1 x2 x3 s0 → AtW p l e rmX11_figures s m args below meth c dC dI A Q 5 0 0 (ceX11_figures cyI cyB cyJ cyZ a0 a1 b0_world b0_image b0_before b0_taken b0_five b0_value b0_far b0_lead b0_walk b0_ends b0_manX b0_manY b0_dogX b0_dogY b0_row b0_round b0_farOne b0_leads b0_drags b0_from b0_near g0_thrown g0_hasImage g0_remembered g0_taped g0_deep g0_faultAt g0_steps g0_men g0_dogs g0_end f1 g0_point g0_begin) [(0, .ref a0), (1, .int x1), (2, .int x2), (3, .int x3)] 54 [.int s0] := by
  intro g0_point g0_begin x1 x2 x3 s0 hw H locs hP hD hS ls hl
  have C1 := C0
  obtain ⟨hx, hb, hr, hml, hown, hts, hlocks⟩ := C1
  refine lv_istore (lv' := [(4, .int s0), (0, .ref a0), (1, .int x1), (2, .int x2), (3, .int x3)]) hx hb dX11_figures_54 hl (by decide) rfl (fun ls hl => ?_)
  refine lv_aload_n hx hb dX11_figures_56 rfl (lv_at hl 1 rfl) ?_
  refine lv_dup hx hb dX11_figures_57 rfl ?_
  refine va_get (D := (dC, dI)) (ci := 11) (v := .int g0_point) (C := RX11) (T := TX11) (N := 34) hx hb hts inX11_figures_X11 hown hK hP 0 rfl rfl 9 (by decide) (hts (.fieldLink RX11 112 "LeadParkModel" "point" "I") (List.mem_of_getElem? (i := 1) rfl)) (fun _ h9 => h9) rfl dX11_figures_58 ?_
  refine lv_iconst (v := 1) hx hb dX11_figures_61 (by decide) ?_
  refine lv_iadd hx hb dX11_figures_62 ?_
  refine lv_topi (fun v1 ev1 => ?_)
  have hw := hw v1 ev1
  refine va_put (D := (dC, dI)) (ci := 11) (v := .int v1) (ty := .int) (C := RX11) (T := TX11) (N := 34) hx hb hts inX11_figures_X11 tyX11 tyX11_ok nmX11 hown hK hP hD hS 0 rfl rfl 9 (by decide) (hts (.fieldLink RX11 112 "LeadParkModel" "point" "I") (List.mem_of_getElem? (i := 1) rfl)) (fun _ h9 => h9) rfl (by decide +kernel) rfl rfl (Nat.le_of_ble_eq_true rfl) dX11_figures_63 (fun H locs hP hD hS => ?_)
  have hP : va_P (dC, dI) vwCl (ceX11_figures cyI cyB cyJ cyZ a0 a1 b0_world b0_image b0_before b0_taken b0_five b0_value b0_far b0_lead b0_walk b0_ends b0_manX b0_manY b0_dogX b0_dogY b0_row b0_round b0_farOne b0_leads b0_drags b0_from b0_near g0_thrown g0_hasImage g0_remembered g0_taped g0_deep g0_faultAt g0_steps g0_men g0_dogs g0_end f1 v1 g0_begin) H := hP
  have hD : va_D A (ceX11_figures cyI cyB cyJ cyZ a0 a1 b0_world b0_image b0_before b0_taken b0_five b0_value b0_far b0_lead b0_walk b0_ends b0_manX b0_manY b0_dogX b0_dogY b0_row b0_round b0_farOne b0_leads b0_drags b0_from b0_near g0_thrown g0_hasImage g0_remembered g0_taped g0_deep g0_faultAt g0_steps g0_men g0_dogs g0_end f1 v1 g0_begin) := hD
  refine lv_goto (tgt := 7) hx hb dX11_figures_66 (by decide) ?_
  exact hk7 v1 g0_begin x1 x2 x3 s0 hw H locs hP hD hS ls (lv_sub hl [1, 2, 3, 4, 0] rfl)
set_option maxRecDepth 100000 in
set_option maxHeartbeats 4000000 in
theorem bX11_figures_7 {p : Program} {l : Launch} {e : Env} {s : State} {m : MethodId} {args : Array Value} {below : List Frame} {meth : Method} {c : Code} {dC : Nat → ClassId} {dI : Nat → Nat → Nat} {cyI cyB cyJ cyZ : ClassId} {A : Nat → Prop} {a0 a1 b0_world b0_image b0_before b0_taken b0_five b0_value b0_far b0_lead b0_walk b0_ends b0_manX b0_manY b0_dogX b0_dogY b0_row b0_round b0_farOne b0_leads b0_drags b0_from b0_near : Nat} {g0_thrown : Int32} {g0_hasImage : Int32} {g0_remembered : Int32} {g0_taped : Int32} {g0_deep : Int32} {g0_faultAt : Int32} {g0_steps : Int32} {g0_men : Int32} {g0_dogs : Int32} (C0 : cxM p s m meth c args wsX11_figures RX11 cX11_figures 5 (some .int)) (hK : va_K (dC, dI) vwCl (tyA cyI cyB cyJ cyZ) s) (hN : nwA s) (hA : ∀ q : Nat, s.heap.size ≤ q → A q) {post : Int32 → (Int32 × Int32) → Prop} {g0_end : Int32} {f1 : Nat → Int32} {Q : State → Prop} (hQ : Q = MQ below (va_Qi post (fun u : Int32 × Int32 => wAt dC dI cyI cyB cyJ cyZ A (ceX11_figures cyI cyB cyJ cyZ a0 a1 b0_world b0_image b0_before b0_taken b0_five b0_value b0_far b0_lead b0_walk b0_ends b0_manX b0_manY b0_dogX b0_dogY b0_row b0_round b0_farOne b0_leads b0_drags b0_from b0_near g0_thrown g0_hasImage g0_remembered g0_taped g0_deep g0_faultAt g0_steps g0_men g0_dogs g0_end f1 u.1 u.2)) A) args s 0 0 A) : ∀ (n : Nat) (g0_point : Int32) (g0_begin : Int32) (x1 : Int32) (x2 : Int32) (x3 : Int32) (x4 : Int32), wpX11_figures_7 post g0_end f1 n g0_point g0_begin x1 x2 x3 x4 → AtW p l e rmX11_figures s m args below meth c dC dI A Q 5 0 0 (ceX11_figures cyI cyB cyJ cyZ a0 a1 b0_world b0_image b0_before b0_taken b0_five b0_value b0_far b0_lead b0_walk b0_ends b0_manX b0_manY b0_dogX b0_dogY b0_row b0_round b0_farOne b0_leads b0_drags b0_from b0_near g0_thrown g0_hasImage g0_remembered g0_taped g0_deep g0_faultAt g0_steps g0_men g0_dogs g0_end f1 g0_point g0_begin) [(0, .ref a0), (1, .int x1), (2, .int x2), (3, .int x3), (4, .int x4)] 7 [] := by
  intro n
  induction n with
  | zero => intro g0_point g0_begin x1 x2 x3 x4 hw; exact False.elim hw
  | succ n ih =>
    intro g0_point g0_begin x1 x2 x3 x4 hw H locs hP hD hS ls hl
    have C1 := C0
    obtain ⟨hx, hb, hr, hml, hown, hts, hlocks⟩ := C1
    refine lv_aload_n hx hb dX11_figures_7 rfl (lv_at hl 0 rfl) ?_
    refine lv_bipush (v := 48) hx hb dX11_figures_8 (by decide) ?_
    refine lv_bipush (v := 57) hx hb dX11_figures_10 (by decide) ?_
    have hPc := hP.sub (ws' := (ceX11_isAt cyI cyB cyJ cyZ a0 a1 b0_world b0_image b0_before b0_taken b0_five b0_value b0_far b0_lead b0_walk b0_ends b0_manX b0_manY b0_dogX b0_dogY b0_row b0_round b0_farOne b0_leads b0_drags b0_from b0_near g0_thrown g0_hasImage g0_remembered g0_taped g0_begin g0_deep g0_faultAt g0_steps g0_men g0_dogs g0_point g0_end f1)) [0, 1] rfl
    have hDc := hD.sub (ws' := (ceX11_isAt cyI cyB cyJ cyZ a0 a1 b0_world b0_image b0_before b0_taken b0_five b0_value b0_far b0_lead b0_walk b0_ends b0_manX b0_manY b0_dogX b0_dogY b0_row b0_round b0_farOne b0_leads b0_drags b0_from b0_near g0_thrown g0_hasImage g0_remembered g0_taped g0_begin g0_deep g0_faultAt g0_steps g0_men g0_dogs g0_point g0_end f1)) [0, 1] (by decide) rfl
    have hFc := va_free (wc := (ceX11_isAt cyI cyB cyJ cyZ a0 a1 b0_world b0_image b0_before b0_taken b0_five b0_value b0_far b0_lead b0_walk b0_ends b0_manX b0_manY b0_dogX b0_dogY b0_row b0_round b0_farOne b0_leads b0_drags b0_from b0_near g0_thrown g0_hasImage g0_remembered g0_taped g0_begin g0_deep g0_faultAt g0_steps g0_men g0_dogs g0_point g0_end f1)) hD hS hA [0, 1] rfl
    refine va_calli (va_runV (As := [.int 48, .int 57]) (rest := []) ⟨hx, hb, hml, hown, hts⟩ (ctX11_isAt l dC dI cyI cyB cyJ cyZ _ a0 a1 b0_world b0_image b0_before b0_taken b0_five b0_value b0_far b0_lead b0_walk b0_ends b0_manX b0_manY b0_dogX b0_dogY b0_row b0_round b0_farOne b0_leads b0_drags b0_from b0_near g0_thrown g0_hasImage g0_remembered g0_taped g0_begin g0_deep g0_faultAt g0_steps g0_men g0_dogs g0_point g0_end f1 48 57 _ hw) (cwV 2 hts gX11_figures_X11_isAt rfl rfl rfl (by decide +kernel) ⟨Nat.le_of_ble_eq_true rfl, Nat.le_of_ble_eq_true rfl⟩) ⟨wPre_blind, va_recv hK hPc (ci := 11) (q0 := 0) rfl rfl, fun U hU hW => wPre_of hPc hK hDc hN hU hW⟩ rfl rfl hl.1 rfl (lv_room (Nat.le_of_ble_eq_true rfl)) dX11_figures_12 ⟨(Nat.zero_le _), (Nat.zero_le _)⟩) hS (fun q _ h => hFc q h) hFc (fun r2 u1 t H1 locs ht hvm hw hB hz1 hk1 hS => ?_)
    obtain ⟨hP1, hK1, hD1⟩ := hB
    rw [ht] at hP1
    obtain ⟨hP, hD⟩ := va_join (wr := pickW (ceX11_figures cyI cyB cyJ cyZ a0 a1 b0_world b0_image b0_before b0_taken b0_five b0_value b0_far b0_lead b0_walk b0_ends b0_manX b0_manY b0_dogX b0_dogY b0_row b0_round b0_farOne b0_leads b0_drags b0_from b0_near g0_thrown g0_hasImage g0_remembered g0_taped g0_deep g0_faultAt g0_steps g0_men g0_dogs g0_end f1 g0_point g0_begin) []) (w1 := (ceX11_isAt cyI cyB cyJ cyZ a0 a1 b0_world b0_image b0_before b0_taken b0_five b0_value b0_far b0_lead b0_walk b0_ends b0_manX b0_manY b0_dogX b0_dogY b0_row b0_round b0_farOne b0_leads b0_drags b0_from b0_near g0_thrown g0_hasImage g0_remembered g0_taped g0_begin g0_deep g0_faultAt g0_steps g0_men g0_dogs g0_point g0_end f1)) hP hD [0, 1] [] rfl rfl (by decide) (by decide) hk1 hFc hP1 hD1
    have hP := hP.sub (ws' := (ceX11_figures cyI cyB cyJ cyZ a0 a1 b0_world b0_image b0_before b0_taken b0_five b0_value b0_far b0_lead b0_walk b0_ends b0_manX b0_manY b0_dogX b0_dogY b0_row b0_round b0_farOne b0_leads b0_drags b0_from b0_near g0_thrown g0_hasImage g0_remembered g0_taped g0_deep g0_faultAt g0_steps g0_men g0_dogs g0_end f1 g0_point g0_begin)) [0, 1] rfl
    have hD := hD.sub (ws' := (ceX11_figures cyI cyB cyJ cyZ a0 a1 b0_world b0_image b0_before b0_taken b0_five b0_value b0_far b0_lead b0_walk b0_ends b0_manX b0_manY b0_dogX b0_dogY b0_row b0_round b0_farOne b0_leads b0_drags b0_from b0_near g0_thrown g0_hasImage g0_remembered g0_taped g0_deep g0_faultAt g0_steps g0_men g0_dogs g0_end f1 g0_point g0_begin)) [0, 1] (by decide) rfl
    generalize H1 = H at hP hS ⊢
    refine lv_if_eq (tgt := 69) hx hb dX11_figures_15 (by decide) (fun hc => ?_) (fun hc => ?_)
    · have hw := hw.1 hc
      refine lv_aload_n hx hb dX11_figures_69 rfl (lv_at hl 0 rfl) ?_
      refine va_get (D := (dC, dI)) (ci := 11) (v := .int g0_point) (C := RX11) (T := TX11) (N := 34) hx hb hts inX11_figures_X11 hown hK hP 0 rfl rfl 9 (by decide) (hts (.fieldLink RX11 112 "LeadParkModel" "point" "I") (List.mem_of_getElem? (i := 1) rfl)) (fun _ h9 => h9) rfl dX11_figures_70 ?_
      refine lv_aload_n hx hb dX11_figures_73 rfl (lv_at hl 0 rfl) ?_
      refine va_get (D := (dC, dI)) (ci := 11) (v := .int g0_begin) (C := RX11) (T := TX11) (N := 34) hx hb hts inX11_figures_X11 hown hK hP 0 rfl rfl 11 (by decide) (hts (.fieldLink RX11 122 "LeadParkModel" "begin" "I") (List.mem_of_getElem? (i := 2) rfl)) (fun _ h9 => h9) rfl dX11_figures_74 ?_
      refine lv_icmp_eq (tgt := 105) hx hb dX11_figures_77 (by decide) (fun hc => ?_) (fun hc => ?_)
      · have hw := hw.1 hc
        refine lv_iconst (v := (-1)) hx hb dX11_figures_105 (by decide) ?_
        refine lv_goto (tgt := 111) hx hb dX11_figures_106 (by decide) ?_
        rw [hQ]
        exact W.iret (v := (-1)) hx hb hr (fun t ht hW => ⟨⟨(-1), (g0_point, g0_begin), rfl, hw, by rw [ht]; exact hP, va_K.moved hW.alike hK, hD⟩, hS.F ht⟩) hS.2.2 dX11_figures_111
      · have hw := hw.2 hc
        refine lv_aload_n hx hb dX11_figures_80 rfl (lv_at hl 0 rfl) ?_
        refine va_get (D := (dC, dI)) (ci := 11) (v := .int g0_point) (C := RX11) (T := TX11) (N := 34) hx hb hts inX11_figures_X11 hown hK hP 0 rfl rfl 9 (by decide) (hts (.fieldLink RX11 112 "LeadParkModel" "point" "I") (List.mem_of_getElem? (i := 1) rfl)) (fun _ h9 => h9) rfl dX11_figures_81 ?_
        refine lv_aload_n hx hb dX11_figures_84 rfl (lv_at hl 0 rfl) ?_
        refine va_get (D := (dC, dI)) (ci := 11) (v := .int g0_begin) (C := RX11) (T := TX11) (N := 34) hx hb hts inX11_figures_X11 hown hK hP 0 rfl rfl 11 (by decide) (hts (.fieldLink RX11 122 "LeadParkModel" "begin" "I") (List.mem_of_getElem? (i := 2) rfl)) (fun _ h9 => h9) rfl dX11_figures_85 ?_
        refine lv_isub hx hb dX11_figures_88 ?_
        refine lv_iload_n hx hb dX11_figures_89 rfl (lv_at hl 3 rfl) ?_
        refine lv_icmp_gt (tgt := 105) hx hb dX11_figures_90 (by decide) (fun hc => ?_) (fun hc => ?_)
        · have hw := hw.1 hc
          refine lv_iconst (v := (-1)) hx hb dX11_figures_105 (by decide) ?_
          refine lv_goto (tgt := 111) hx hb dX11_figures_106 (by decide) ?_
          rw [hQ]
          exact W.iret (v := (-1)) hx hb hr (fun t ht hW => ⟨⟨(-1), (g0_point, g0_begin), rfl, hw, by rw [ht]; exact hP, va_K.moved hW.alike hK, hD⟩, hS.F ht⟩) hS.2.2 dX11_figures_111
        · have hw := hw.2 hc
          refine lv_iload hx hb dX11_figures_93 (lv_at hl 4 rfl) ?_
          refine lv_iload_n hx hb dX11_figures_95 rfl (lv_at hl 1 rfl) ?_
          refine lv_icmp_lt (tgt := 105) hx hb dX11_figures_96 (by decide) (fun hc => ?_) (fun hc => ?_)
          · have hw := hw.1 hc
            refine lv_iconst (v := (-1)) hx hb dX11_figures_105 (by decide) ?_
            refine lv_goto (tgt := 111) hx hb dX11_figures_106 (by decide) ?_
            rw [hQ]
            exact W.iret (v := (-1)) hx hb hr (fun t ht hW => ⟨⟨(-1), (g0_point, g0_begin), rfl, hw, by rw [ht]; exact hP, va_K.moved hW.alike hK, hD⟩, hS.F ht⟩) hS.2.2 dX11_figures_111
          · have hw := hw.2 hc
            refine lv_iload hx hb dX11_figures_99 (lv_at hl 4 rfl) ?_
            refine lv_iload_n hx hb dX11_figures_101 rfl (lv_at hl 2 rfl) ?_
            refine lv_icmp_le (tgt := 109) hx hb dX11_figures_102 (by decide) (fun hc => ?_) (fun hc => ?_)
            · have hw := hw.1 hc
              refine lv_iload hx hb dX11_figures_109 (lv_at hl 4 rfl) ?_
              rw [hQ]
              exact W.iret (v := x4) hx hb hr (fun t ht hW => ⟨⟨x4, (g0_point, g0_begin), rfl, hw, by rw [ht]; exact hP, va_K.moved hW.alike hK, hD⟩, hS.F ht⟩) hS.2.2 dX11_figures_111
            · have hw := hw.2 hc
              refine lv_iconst (v := (-1)) hx hb dX11_figures_105 (by decide) ?_
              refine lv_goto (tgt := 111) hx hb dX11_figures_106 (by decide) ?_
              rw [hQ]
              exact W.iret (v := (-1)) hx hb hr (fun t ht hW => ⟨⟨(-1), (g0_point, g0_begin), rfl, hw, by rw [ht]; exact hP, va_K.moved hW.alike hK, hD⟩, hS.F ht⟩) hS.2.2 dX11_figures_111
    · have hw := hw.2 hc
      refine lv_aload_n hx hb dX11_figures_18 rfl (lv_at hl 0 rfl) ?_
      refine va_get (D := (dC, dI)) (ci := 11) (v := .int g0_point) (C := RX11) (T := TX11) (N := 34) hx hb hts inX11_figures_X11 hown hK hP 0 rfl rfl 9 (by decide) (hts (.fieldLink RX11 112 "LeadParkModel" "point" "I") (List.mem_of_getElem? (i := 1) rfl)) (fun _ h9 => h9) rfl dX11_figures_19 ?_
      refine lv_aload_n hx hb dX11_figures_22 rfl (lv_at hl 0 rfl) ?_
      refine va_get (D := (dC, dI)) (ci := 11) (v := .int g0_begin) (C := RX11) (T := TX11) (N := 34) hx hb hts inX11_figures_X11 hown hK hP 0 rfl rfl 11 (by decide) (hts (.fieldLink RX11 122 "LeadParkModel" "begin" "I") (List.mem_of_getElem? (i := 2) rfl)) (fun _ h9 => h9) rfl dX11_figures_23 ?_
      refine lv_isub hx hb dX11_figures_26 ?_
      refine lv_iload_n hx hb dX11_figures_27 rfl (lv_at hl 3 rfl) ?_
      refine lv_icmp_ge (tgt := 52) hx hb dX11_figures_28 (by decide) (fun hc => ?_) (fun hc => ?_)
      · have hw := hw.1 hc
        refine lv_iload hx hb dX11_figures_52 (lv_at hl 4 rfl) ?_
        exact bX11_figures_54 C0 hK hN hA hQ ih g0_point g0_begin x1 x2 x3 x4 hw _ _ hP hD hS ls (lv_sub hl [0, 1, 2, 3] rfl)
      · have hw := hw.2 hc
        refine lv_bipush (v := 10) hx hb dX11_figures_31 (by decide) ?_
        refine lv_iload hx hb dX11_figures_33 (lv_at hl 4 rfl) ?_
        refine lv_imul hx hb dX11_figures_35 ?_
        refine lv_aload_n hx hb dX11_figures_36 rfl (lv_at hl 0 rfl) ?_
        refine va_get (D := (dC, dI)) (ci := 11) (v := .ref a1) (C := RX11) (T := TX11) (N := 34) hx hb hts inX11_figures_X11 hown hK hP 0 rfl rfl 7 (by decide) (hts (.fieldLink RX11 26 "LeadParkModel" "tape" "[B") (List.mem_of_getElem? (i := 3) rfl)) (fun _ h9 => h9) rfl dX11_figures_37 ?_
        refine lv_aload_n hx hb dX11_figures_40 rfl (lv_at hl 0 rfl) ?_
        refine va_get (D := (dC, dI)) (ci := 11) (v := .int g0_point) (C := RX11) (T := TX11) (N := 34) hx hb hts inX11_figures_X11 hown hK hP 0 rfl rfl 9 (by decide) (hts (.fieldLink RX11 112 "LeadParkModel" "point" "I") (List.mem_of_getElem? (i := 1) rfl)) (fun _ h9 => h9) rfl dX11_figures_41 ?_
        obtain ⟨hi, hw⟩ := hw
        refine va_bald hx hb hK hP 1 1 rfl rfl hi dX11_figures_44 ?_
        refine lv_iadd hx hb dX11_figures_45 ?_
        refine lv_bipush (v := 48) hx hb dX11_figures_46 (by decide) ?_
        refine lv_isub hx hb dX11_figures_48 ?_
        refine lv_goto (tgt := 54) hx hb dX11_figures_49 (by decide) ?_
        exact bX11_figures_54 C0 hK hN hA hQ ih g0_point g0_begin x1 x2 x3 (((10 * x4) + (f1 g0_point.toNatClampNeg)) - 48) hw _ _ hP hD hS ls (lv_sub hl [0, 1, 2, 3] rfl)
set_option maxRecDepth 100000 in
set_option maxHeartbeats 4000000 in
theorem ctX11_figures (l : Launch) (dC : Nat → ClassId) (dI : Nat → Nat → Nat) (cyI cyB cyJ cyZ : ClassId) (sz : Nat) (a0 a1 b0_world b0_image b0_before b0_taken b0_five b0_value b0_far b0_lead b0_walk b0_ends b0_manX b0_manY b0_dogX b0_dogY b0_row b0_round b0_farOne b0_leads b0_drags b0_from b0_near : Nat) (g0_thrown : Int32) (g0_hasImage : Int32) (g0_remembered : Int32) (g0_taped : Int32) (g0_deep : Int32) (g0_faultAt : Int32) (g0_steps : Int32) (g0_men : Int32) (g0_dogs : Int32) (g0_end : Int32) (f1 : Nat → Int32) (g0_point : Int32) (g0_begin : Int32) (p0 : Int32) (p1 : Int32) (p2 : Int32) (post : Int32 → (Int32 × Int32) → Prop) (hw : wpX11_figures post g0_end f1 g0_point g0_begin p0 p1 p2) : Met l yX11_figures wsX11_figures rmX11_figures (va_Pc [.ref a0, .int p0, .int p1, .int p2] (wPre dC dI cyI cyB cyJ cyZ sz (ceX11_figures cyI cyB cyJ cyZ a0 a1 b0_world b0_image b0_before b0_taken b0_five b0_value b0_far b0_lead b0_walk b0_ends b0_manX b0_manY b0_dogX b0_dogY b0_row b0_round b0_farOne b0_leads b0_drags b0_from b0_near g0_thrown g0_hasImage g0_remembered g0_taped g0_deep g0_faultAt g0_steps g0_men g0_dogs g0_end f1 g0_point g0_begin))) (va_Qi post (fun u : Int32 × Int32 => wAt dC dI cyI cyB cyJ cyZ (va_A (ceX11_figures cyI cyB cyJ cyZ a0 a1 b0_world b0_image b0_before b0_taken b0_five b0_value b0_far b0_lead b0_walk b0_ends b0_manX b0_manY b0_dogX b0_dogY b0_row b0_round b0_farOne b0_leads b0_drags b0_from b0_near g0_thrown g0_hasImage g0_remembered g0_taped g0_deep g0_faultAt g0_steps g0_men g0_dogs g0_end f1 g0_point g0_begin) sz) (ceX11_figures cyI cyB cyJ cyZ a0 a1 b0_world b0_image b0_before b0_taken b0_five b0_value b0_far b0_lead b0_walk b0_ends b0_manX b0_manY b0_dogX b0_dogY b0_row b0_round b0_farOne b0_leads b0_drags b0_from b0_near g0_thrown g0_hasImage g0_remembered g0_taped g0_deep g0_faultAt g0_steps g0_men g0_dogs g0_end f1 u.1 u.2)) (va_A (ceX11_figures cyI cyB cyJ cyZ a0 a1 b0_world b0_image b0_before b0_taken b0_five b0_value b0_far b0_lead b0_walk b0_ends b0_manX b0_manY b0_dogX b0_dogY b0_row b0_round b0_farOne b0_leads b0_drags b0_from b0_near g0_thrown g0_hasImage g0_remembered g0_taped g0_deep g0_faultAt g0_steps g0_men g0_dogs g0_end f1 g0_point g0_begin) sz)) 0 0 (va_A (ceX11_figures cyI cyB cyJ cyZ a0 a1 b0_world b0_image b0_before b0_taken b0_five b0_value b0_far b0_lead b0_walk b0_ends b0_manX b0_manY b0_dogX b0_dogY b0_row b0_round b0_farOne b0_leads b0_drags b0_from b0_near g0_thrown g0_hasImage g0_remembered g0_taped g0_deep g0_faultAt g0_steps g0_men g0_dogs g0_end f1 g0_point g0_begin) sz) := by
  refine Met.ofW (cc := cX11_figures) (maxL := 5) (ret := (some .int)) (by decide) rfl ?_
  intro p e s m args below meth c s₁ B hml hv
  obtain ⟨rfl, hsz, hP, hK, hD0, hN⟩ := hv
  have hx := B.exec
  have hb := B.bytes
  have hr := B.returns
  have hts := atoms_spec (ws := wsX11_figures) B.pre
  have hown : s.vm.findClass RX11 = some m.cls := findClass_of_methodNamed B.named
  have hlocks := B.notSynchronized
  subst hsz
  have hD := hD0.self (sz := s.heap.size)
  generalize hAe : va_A (ceX11_figures cyI cyB cyJ cyZ a0 a1 b0_world b0_image b0_before b0_taken b0_five b0_value b0_far b0_lead b0_walk b0_ends b0_manX b0_manY b0_dogX b0_dogY b0_row b0_round b0_farOne b0_leads b0_drags b0_from b0_near g0_thrown g0_hasImage g0_remembered g0_taped g0_deep g0_faultAt g0_steps g0_men g0_dogs g0_end f1 g0_point g0_begin) s.heap.size = A at hD ⊢
  have hA : ∀ q : Nat, s.heap.size ≤ q → A q := fun q h => by rw [← hAe]; exact Or.inr h
  have hS : va_S A s.heap s.heap [] := va_S.rf
  have C0 : cxM p s m meth c _ wsX11_figures RX11 cX11_figures 5 (some .int) := ⟨hx, hb, hr, hml, hown, hts, hlocks⟩
  have hl := lv_entry ([.ref a0, .int p0, .int p1, .int p2]) (n := 5) (Nat.le_of_ble_eq_true rfl)
  rw [lg_entry_eq]
  generalize (lg_sl ([.ref a0, .int p0, .int p1, .int p2]) ++ List.replicate (5 - (lg_sl ([.ref a0, .int p0, .int p1, .int p2])).length) Slot.unset).toArray = ls at hl ⊢
  have hl : lv_has ls 5 [(0, .ref a0), (1, .int p0), (2, .int p1), (3, .int p2)] := hl
  show W p l e rmX11_figures s m _ below meth c _ _ _ _ _ _
  refine wq (fun Q hQ => ?_)
  refine lv_aload_n hx hb dX11_figures_0 rfl (lv_at hl 0 rfl) ?_
  have hPc := hP.sub (ws' := (ceX11_blanks cyI cyB cyJ cyZ a0 a1 b0_world b0_image b0_before b0_taken b0_five b0_value b0_far b0_lead b0_walk b0_ends b0_manX b0_manY b0_dogX b0_dogY b0_row b0_round b0_farOne b0_leads b0_drags b0_from b0_near g0_thrown g0_hasImage g0_remembered g0_taped g0_deep g0_faultAt g0_steps g0_men g0_dogs g0_end f1 g0_point g0_begin)) [0, 1] rfl
  have hDc := hD.sub (ws' := (ceX11_blanks cyI cyB cyJ cyZ a0 a1 b0_world b0_image b0_before b0_taken b0_five b0_value b0_far b0_lead b0_walk b0_ends b0_manX b0_manY b0_dogX b0_dogY b0_row b0_round b0_farOne b0_leads b0_drags b0_from b0_near g0_thrown g0_hasImage g0_remembered g0_taped g0_deep g0_faultAt g0_steps g0_men g0_dogs g0_end f1 g0_point g0_begin)) [0, 1] (by decide) rfl
  have hFc := va_free (wc := (ceX11_blanks cyI cyB cyJ cyZ a0 a1 b0_world b0_image b0_before b0_taken b0_five b0_value b0_far b0_lead b0_walk b0_ends b0_manX b0_manY b0_dogX b0_dogY b0_row b0_round b0_farOne b0_leads b0_drags b0_from b0_near g0_thrown g0_hasImage g0_remembered g0_taped g0_deep g0_faultAt g0_steps g0_men g0_dogs g0_end f1 g0_point g0_begin)) hD hS hA [0, 1] rfl
  refine va_callv (va_runV (As := []) (rest := []) ⟨hx, hb, hml, hown, hts⟩ (ctX11_blanks l dC dI cyI cyB cyJ cyZ _ a0 a1 b0_world b0_image b0_before b0_taken b0_five b0_value b0_far b0_lead b0_walk b0_ends b0_manX b0_manY b0_dogX b0_dogY b0_row b0_round b0_farOne b0_leads b0_drags b0_from b0_near g0_thrown g0_hasImage g0_remembered g0_taped g0_deep g0_faultAt g0_steps g0_men g0_dogs g0_end f1 g0_point g0_begin _ hw) (cwV 0 hts gX11_figures_X11_blanks rfl rfl rfl (by decide +kernel) ⟨Nat.le_of_ble_eq_true rfl, Nat.le_of_ble_eq_true rfl⟩) ⟨wPre_blind, va_recv hK hPc (ci := 11) (q0 := 0) rfl rfl, fun U hU hW => wPre_of hPc hK hDc hN hU hW⟩ rfl rfl hl.1 rfl (lv_room (Nat.le_of_ble_eq_true rfl)) dX11_figures_1 ⟨(Nat.zero_le _), (Nat.zero_le _)⟩) hS (fun q _ h => hFc q h) hFc (fun u1 t H1 locs ht hvm hw hB hz1 hk1 hS => ?_)
  obtain ⟨hP1, hK1, hD1⟩ := hB
  rw [ht] at hP1
  obtain ⟨hP, hD⟩ := va_join (wr := pickW (ceX11_figures cyI cyB cyJ cyZ a0 a1 b0_world b0_image b0_before b0_taken b0_five b0_value b0_far b0_lead b0_walk b0_ends b0_manX b0_manY b0_dogX b0_dogY b0_row b0_round b0_farOne b0_leads b0_drags b0_from b0_near g0_thrown g0_hasImage g0_remembered g0_taped g0_deep g0_faultAt g0_steps g0_men g0_dogs g0_end f1 g0_point g0_begin) []) (w1 := (ceX11_blanks cyI cyB cyJ cyZ a0 a1 b0_world b0_image b0_before b0_taken b0_five b0_value b0_far b0_lead b0_walk b0_ends b0_manX b0_manY b0_dogX b0_dogY b0_row b0_round b0_farOne b0_leads b0_drags b0_from b0_near g0_thrown g0_hasImage g0_remembered g0_taped g0_deep g0_faultAt g0_steps g0_men g0_dogs g0_end f1 u1.1 u1.2)) hP hD [0, 1] [] rfl rfl (by decide) (by decide) hk1 hFc hP1 hD1
  have hP := hP.sub (ws' := (ceX11_figures cyI cyB cyJ cyZ a0 a1 b0_world b0_image b0_before b0_taken b0_five b0_value b0_far b0_lead b0_walk b0_ends b0_manX b0_manY b0_dogX b0_dogY b0_row b0_round b0_farOne b0_leads b0_drags b0_from b0_near g0_thrown g0_hasImage g0_remembered g0_taped g0_deep g0_faultAt g0_steps g0_men g0_dogs g0_end f1 u1.1 u1.2)) [0, 1] rfl
  have hD := hD.sub (ws' := (ceX11_figures cyI cyB cyJ cyZ a0 a1 b0_world b0_image b0_before b0_taken b0_five b0_value b0_far b0_lead b0_walk b0_ends b0_manX b0_manY b0_dogX b0_dogY b0_row b0_round b0_farOne b0_leads b0_drags b0_from b0_near g0_thrown g0_hasImage g0_remembered g0_taped g0_deep g0_faultAt g0_steps g0_men g0_dogs g0_end f1 u1.1 u1.2)) [0, 1] (by decide) rfl
  generalize H1 = H at hP hS ⊢
  refine lv_iconst (v := 0) hx hb dX11_figures_4 (by decide) ?_
  refine lv_istore (lv' := [(4, .int 0), (0, .ref a0), (1, .int p0), (2, .int p1), (3, .int p2)]) hx hb dX11_figures_5 hl (by decide) rfl (fun ls hl => ?_)
  obtain ⟨nn, hw⟩ := hw
  exact bX11_figures_7 C0 hK hN hA hQ nn u1.1 u1.2 p0 p1 p2 0 hw _ _ hP hD hS ls (lv_sub hl [1, 2, 3, 4, 0] rfl)
/-! LeadParkModel.number (II)I -/
abbrev ceX11_number (cyI cyB cyJ cyZ : ClassId) (a0 a1 b0_world b0_image b0_before b0_taken b0_five b0_value b0_far b0_lead b0_walk b0_ends b0_manX b0_manY b0_dogX b0_dogY b0_row b0_round b0_farOne b0_leads b0_drags b0_from b0_near : Nat) (g0_thrown : Int32) (g0_hasImage : Int32) (g0_remembered : Int32) (g0_taped : Int32) (g0_deep : Int32) (g0_faultAt : Int32) (g0_steps : Int32) (g0_men : Int32) (g0_dogs : Int32) (g0_end : Int32) (f1 : Nat → Int32) (g0_point : Int32) (g0_begin : Int32) : va_W := [(a0, .inr (11, [.int g0_thrown, .ref b0_world, .ref b0_image, .ref b0_before, .int g0_hasImage, .ref b0_taken, .int g0_remembered, .ref a1, .int g0_taped, .int g0_point, .int g0_end, .int g0_begin, .int g0_deep, .int g0_faultAt, .ref b0_five, .int g0_steps, .ref b0_value, .ref b0_far, .int g0_men, .int g0_dogs, .ref b0_lead, .ref b0_walk, .ref b0_ends, .ref b0_manX, .ref b0_manY, .ref b0_dogX, .ref b0_dogY, .ref b0_row, .ref b0_round, .ref b0_farOne, .ref b0_leads, .ref b0_drags, .ref b0_from, .ref b0_near])), (a1, .inl (cyB, 400, .inl f1))]

abbrev rmX11_number : Room := { frames := 3, cells := 0, slots := 0, locals := 66 }
set_option maxRecDepth 100000 in
set_option maxHeartbeats 4000000 in
theorem ctX11_number (l : Launch) (dC : Nat → ClassId) (dI : Nat → Nat → Nat) (cyI cyB cyJ cyZ : ClassId) (sz : Nat) (a0 a1 b0_world b0_image b0_before b0_taken b0_five b0_value b0_far b0_lead b0_walk b0_ends b0_manX b0_manY b0_dogX b0_dogY b0_row b0_round b0_farOne b0_leads b0_drags b0_from b0_near : Nat) (g0_thrown : Int32) (g0_hasImage : Int32) (g0_remembered : Int32) (g0_taped : Int32) (g0_deep : Int32) (g0_faultAt : Int32) (g0_steps : Int32) (g0_men : Int32) (g0_dogs : Int32) (g0_end : Int32) (f1 : Nat → Int32) (g0_point : Int32) (g0_begin : Int32) (p0 : Int32) (p1 : Int32) (post : Int32 → (Int32 × Int32) → Prop) (hw : wpX11_number post g0_end f1 g0_point g0_begin p0 p1) : Met l yX11_number wsX11_number rmX11_number (va_Pc [.ref a0, .int p0, .int p1] (wPre dC dI cyI cyB cyJ cyZ sz (ceX11_number cyI cyB cyJ cyZ a0 a1 b0_world b0_image b0_before b0_taken b0_five b0_value b0_far b0_lead b0_walk b0_ends b0_manX b0_manY b0_dogX b0_dogY b0_row b0_round b0_farOne b0_leads b0_drags b0_from b0_near g0_thrown g0_hasImage g0_remembered g0_taped g0_deep g0_faultAt g0_steps g0_men g0_dogs g0_end f1 g0_point g0_begin))) (va_Qi post (fun u : Int32 × Int32 => wAt dC dI cyI cyB cyJ cyZ (va_A (ceX11_number cyI cyB cyJ cyZ a0 a1 b0_world b0_image b0_before b0_taken b0_five b0_value b0_far b0_lead b0_walk b0_ends b0_manX b0_manY b0_dogX b0_dogY b0_row b0_round b0_farOne b0_leads b0_drags b0_from b0_near g0_thrown g0_hasImage g0_remembered g0_taped g0_deep g0_faultAt g0_steps g0_men g0_dogs g0_end f1 g0_point g0_begin) sz) (ceX11_number cyI cyB cyJ cyZ a0 a1 b0_world b0_image b0_before b0_taken b0_five b0_value b0_far b0_lead b0_walk b0_ends b0_manX b0_manY b0_dogX b0_dogY b0_row b0_round b0_farOne b0_leads b0_drags b0_from b0_near g0_thrown g0_hasImage g0_remembered g0_taped g0_deep g0_faultAt g0_steps g0_men g0_dogs g0_end f1 u.1 u.2)) (va_A (ceX11_number cyI cyB cyJ cyZ a0 a1 b0_world b0_image b0_before b0_taken b0_five b0_value b0_far b0_lead b0_walk b0_ends b0_manX b0_manY b0_dogX b0_dogY b0_row b0_round b0_farOne b0_leads b0_drags b0_from b0_near g0_thrown g0_hasImage g0_remembered g0_taped g0_deep g0_faultAt g0_steps g0_men g0_dogs g0_end f1 g0_point g0_begin) sz)) 0 0 (va_A (ceX11_number cyI cyB cyJ cyZ a0 a1 b0_world b0_image b0_before b0_taken b0_five b0_value b0_far b0_lead b0_walk b0_ends b0_manX b0_manY b0_dogX b0_dogY b0_row b0_round b0_farOne b0_leads b0_drags b0_from b0_near g0_thrown g0_hasImage g0_remembered g0_taped g0_deep g0_faultAt g0_steps g0_men g0_dogs g0_end f1 g0_point g0_begin) sz) := by
  refine Met.ofW (cc := cX11_number) (maxL := 3) (ret := (some .int)) (by decide) rfl ?_
  intro p e s m args below meth c s₁ B hml hv
  obtain ⟨rfl, hsz, hP, hK, hD0, hN⟩ := hv
  have hx := B.exec
  have hb := B.bytes
  have hr := B.returns
  have hts := atoms_spec (ws := wsX11_number) B.pre
  have hown : s.vm.findClass RX11 = some m.cls := findClass_of_methodNamed B.named
  have hlocks := B.notSynchronized
  subst hsz
  have hD := hD0.self (sz := s.heap.size)
  generalize hAe : va_A (ceX11_number cyI cyB cyJ cyZ a0 a1 b0_world b0_image b0_before b0_taken b0_five b0_value b0_far b0_lead b0_walk b0_ends b0_manX b0_manY b0_dogX b0_dogY b0_row b0_round b0_farOne b0_leads b0_drags b0_from b0_near g0_thrown g0_hasImage g0_remembered g0_taped g0_deep g0_faultAt g0_steps g0_men g0_dogs g0_end f1 g0_point g0_begin) s.heap.size = A at hD ⊢
  have hA : ∀ q : Nat, s.heap.size ≤ q → A q := fun q h => by rw [← hAe]; exact Or.inr h
  have hS : va_S A s.heap s.heap [] := va_S.rf
  have C0 : cxM p s m meth c _ wsX11_number RX11 cX11_number 3 (some .int) := ⟨hx, hb, hr, hml, hown, hts, hlocks⟩
  have hl := lv_entry ([.ref a0, .int p0, .int p1]) (n := 3) (Nat.le_of_ble_eq_true rfl)
  rw [lg_entry_eq]
  generalize (lg_sl ([.ref a0, .int p0, .int p1]) ++ List.replicate (3 - (lg_sl ([.ref a0, .int p0, .int p1])).length) Slot.unset).toArray = ls at hl ⊢
  have hl : lv_has ls 3 [(0, .ref a0), (1, .int p0), (2, .int p1)] := hl
  show W p l e rmX11_number s m _ below meth c _ _ _ _ _ _
  refine wq (fun Q hQ => ?_)
  refine lv_aload_n hx hb dX11_number_0 rfl (lv_at hl 0 rfl) ?_
  refine lv_iload_n hx hb dX11_number_1 rfl (lv_at hl 1 rfl) ?_
  refine lv_iload_n hx hb dX11_number_2 rfl (lv_at hl 2 rfl) ?_
  refine lv_iconst (v := 3) hx hb dX11_number_3 (by decide) ?_
  have hPc := hP.sub (ws' := (ceX11_figures cyI cyB cyJ cyZ a0 a1 b0_world b0_image b0_before b0_taken b0_five b0_value b0_far b0_lead b0_walk b0_ends b0_manX b0_manY b0_dogX b0_dogY b0_row b0_round b0_farOne b0_leads b0_drags b0_from b0_near g0_thrown g0_hasImage g0_remembered g0_taped g0_deep g0_faultAt g0_steps g0_men g0_dogs g0_end f1 g0_point g0_begin)) [0, 1] rfl
  have hDc := hD.sub (ws' := (ceX11_figures cyI cyB cyJ cyZ a0 a1 b0_world b0_image b0_before b0_taken b0_five b0_value b0_far b0_lead b0_walk b0_ends b0_manX b0_manY b0_dogX b0_dogY b0_row b0_round b0_farOne b0_leads b0_drags b0_from b0_near g0_thrown g0_hasImage g0_remembered g0_taped g0_deep g0_faultAt g0_steps g0_men g0_dogs g0_end f1 g0_point g0_begin)) [0, 1] (by decide) rfl
  have hFc := va_free (wc := (ceX11_figures cyI cyB cyJ cyZ a0 a1 b0_world b0_image b0_before b0_taken b0_five b0_value b0_far b0_lead b0_walk b0_ends b0_manX b0_manY b0_dogX b0_dogY b0_row b0_round b0_farOne b0_leads b0_drags b0_from b0_near g0_thrown g0_hasImage g0_remembered g0_taped g0_deep g0_faultAt g0_steps g0_men g0_dogs g0_end f1 g0_point g0_begin)) hD hS hA [0, 1] rfl
  refine va_calli (va_runV (As := [.int p0, .int p1, .int 3]) (rest := []) ⟨hx, hb, hml, hown, hts⟩ (ctX11_figures l dC dI cyI cyB cyJ cyZ _ a0 a1 b0_world b0_image b0_before b0_taken b0_five b0_value b0_far b0_lead b0_walk b0_ends b0_manX b0_manY b0_dogX b0_dogY b0_row b0_round b0_farOne b0_leads b0_drags b0_from b0_near g0_thrown g0_hasImage g0_remembered g0_taped g0_deep g0_faultAt g0_steps g0_men g0_dogs g0_end f1 g0_point g0_begin p0 p1 3 _ hw) (cwV 3 hts gX11_number_X11_figures rfl rfl rfl (by decide +kernel) ⟨Nat.le_of_ble_eq_true rfl, Nat.le_of_ble_eq_true rfl⟩) ⟨wPre_blind, va_recv hK hPc (ci := 11) (q0 := 0) rfl rfl, fun U hU hW => wPre_of hPc hK hDc hN hU hW⟩ rfl rfl hl.1 rfl (lv_room (Nat.le_of_ble_eq_true rfl)) dX11_number_4 ⟨(Nat.zero_le _), (Nat.zero_le _)⟩) hS (fun q _ h => hFc q h) hFc (fun r2 u1 t H1 locs ht hvm hw hB hz1 hk1 hS => ?_)
  obtain ⟨hP1, hK1, hD1⟩ := hB
  rw [ht] at hP1
  obtain ⟨hP, hD⟩ := va_join (wr := pickW (ceX11_number cyI cyB cyJ cyZ a0 a1 b0_world b0_image b0_before b0_taken b0_five b0_value b0_far b0_lead b0_walk b0_ends b0_manX b0_manY b0_dogX b0_dogY b0_row b0_round b0_farOne b0_leads b0_drags b0_from b0_near g0_thrown g0_hasImage g0_remembered g0_taped g0_deep g0_faultAt g0_steps g0_men g0_dogs g0_end f1 g0_point g0_begin) []) (w1 := (ceX11_figures cyI cyB cyJ cyZ a0 a1 b0_world b0_image b0_before b0_taken b0_five b0_value b0_far b0_lead b0_walk b0_ends b0_manX b0_manY b0_dogX b0_dogY b0_row b0_round b0_farOne b0_leads b0_drags b0_from b0_near g0_thrown g0_hasImage g0_remembered g0_taped g0_deep g0_faultAt g0_steps g0_men g0_dogs g0_end f1 u1.1 u1.2)) hP hD [0, 1] [] rfl rfl (by decide) (by decide) hk1 hFc hP1 hD1
  have hP := hP.sub (ws' := (ceX11_number cyI cyB cyJ cyZ a0 a1 b0_world b0_image b0_before b0_taken b0_five b0_value b0_far b0_lead b0_walk b0_ends b0_manX b0_manY b0_dogX b0_dogY b0_row b0_round b0_farOne b0_leads b0_drags b0_from b0_near g0_thrown g0_hasImage g0_remembered g0_taped g0_deep g0_faultAt g0_steps g0_men g0_dogs g0_end f1 u1.1 u1.2)) [0, 1] rfl
  have hD := hD.sub (ws' := (ceX11_number cyI cyB cyJ cyZ a0 a1 b0_world b0_image b0_before b0_taken b0_five b0_value b0_far b0_lead b0_walk b0_ends b0_manX b0_manY b0_dogX b0_dogY b0_row b0_round b0_farOne b0_leads b0_drags b0_from b0_near g0_thrown g0_hasImage g0_remembered g0_taped g0_deep g0_faultAt g0_steps g0_men g0_dogs g0_end f1 u1.1 u1.2)) [0, 1] (by decide) rfl
  generalize H1 = H at hP hS ⊢
  rw [hQ]
  exact W.iret (v := r2) hx hb hr (fun t ht hW => ⟨⟨r2, (u1.1, u1.2), rfl, hw, by rw [ht]; exact hP, va_K.moved hW.alike hK, hD⟩, hS.F ht⟩) hS.2.2 dX11_number_7
/-! LeadParkModel.fault ()I -/
abbrev ceX11_fault (cyI cyB cyJ cyZ : ClassId) (a0 b0_world b0_image b0_before b0_taken b0_tape b0_five b0_value b0_far b0_lead b0_walk b0_ends b0_manX b0_manY b0_dogX b0_dogY b0_row b0_round b0_farOne b0_leads b0_drags b0_from b0_near : Nat) (g0_hasImage : Int32) (g0_remembered : Int32) (g0_taped : Int32) (g0_point : Int32) (g0_end : Int32) (g0_begin : Int32) (g0_deep : Int32) (g0_steps : Int32) (g0_men : Int32) (g0_dogs : Int32) (g0_faultAt : Int32) (g0_thrown : Int32) : va_W := [(a0, .inr (11, [.int g0_thrown, .ref b0_world, .ref b0_image, .ref b0_before, .int g0_hasImage, .ref b0_taken, .int g0_remembered, .ref b0_tape, .int g0_taped, .int g0_point, .int g0_end, .int g0_begin, .int g0_deep, .int g0_faultAt, .ref b0_five, .int g0_steps, .ref b0_value, .ref b0_far, .int g0_men, .int g0_dogs, .ref b0_lead, .ref b0_walk, .ref b0_ends, .ref b0_manX, .ref b0_manY, .ref b0_dogX, .ref b0_dogY, .ref b0_row, .ref b0_round, .ref b0_farOne, .ref b0_leads, .ref b0_drags, .ref b0_from, .ref b0_near]))]

theorem inX11_fault_X11 : ∀ w ∈ wsX110, w ∈ wsX11_fault := fun _ h => List.mem_cons_of_mem _ (List.mem_append_right _ h)
abbrev rmX11_fault : Room := { frames := 0, cells := 0, slots := 0, locals := 0 }
set_option maxRecDepth 100000 in
set_option maxHeartbeats 4000000 in
theorem ctX11_fault (l : Launch) (dC : Nat → ClassId) (dI : Nat → Nat → Nat) (cyI cyB cyJ cyZ : ClassId) (sz : Nat) (a0 b0_world b0_image b0_before b0_taken b0_tape b0_five b0_value b0_far b0_lead b0_walk b0_ends b0_manX b0_manY b0_dogX b0_dogY b0_row b0_round b0_farOne b0_leads b0_drags b0_from b0_near : Nat) (g0_hasImage : Int32) (g0_remembered : Int32) (g0_taped : Int32) (g0_point : Int32) (g0_end : Int32) (g0_begin : Int32) (g0_deep : Int32) (g0_steps : Int32) (g0_men : Int32) (g0_dogs : Int32) (g0_faultAt : Int32) (g0_thrown : Int32) (post : Int32 → Int32 → Prop) (hw : wpX11_fault post g0_faultAt g0_thrown ) : Met l yX11_fault wsX11_fault rmX11_fault (va_Pc [.ref a0] (wPre dC dI cyI cyB cyJ cyZ sz (ceX11_fault cyI cyB cyJ cyZ a0 b0_world b0_image b0_before b0_taken b0_tape b0_five b0_value b0_far b0_lead b0_walk b0_ends b0_manX b0_manY b0_dogX b0_dogY b0_row b0_round b0_farOne b0_leads b0_drags b0_from b0_near g0_hasImage g0_remembered g0_taped g0_point g0_end g0_begin g0_deep g0_steps g0_men g0_dogs g0_faultAt g0_thrown))) (va_Qi post (fun u : Int32 => wAt dC dI cyI cyB cyJ cyZ (va_A (ceX11_fault cyI cyB cyJ cyZ a0 b0_world b0_image b0_before b0_taken b0_tape b0_five b0_value b0_far b0_lead b0_walk b0_ends b0_manX b0_manY b0_dogX b0_dogY b0_row b0_round b0_farOne b0_leads b0_drags b0_from b0_near g0_hasImage g0_remembered g0_taped g0_point g0_end g0_begin g0_deep g0_steps g0_men g0_dogs g0_faultAt g0_thrown) sz) (ceX11_fault cyI cyB cyJ cyZ a0 b0_world b0_image b0_before b0_taken b0_tape b0_five b0_value b0_far b0_lead b0_walk b0_ends b0_manX b0_manY b0_dogX b0_dogY b0_row b0_round b0_farOne b0_leads b0_drags b0_from b0_near g0_hasImage g0_remembered g0_taped g0_point g0_end g0_begin g0_deep g0_steps g0_men g0_dogs g0_faultAt u)) (va_A (ceX11_fault cyI cyB cyJ cyZ a0 b0_world b0_image b0_before b0_taken b0_tape b0_five b0_value b0_far b0_lead b0_walk b0_ends b0_manX b0_manY b0_dogX b0_dogY b0_row b0_round b0_farOne b0_leads b0_drags b0_from b0_near g0_hasImage g0_remembered g0_taped g0_point g0_end g0_begin g0_deep g0_steps g0_men g0_dogs g0_faultAt g0_thrown) sz)) 0 0 (va_A (ceX11_fault cyI cyB cyJ cyZ a0 b0_world b0_image b0_before b0_taken b0_tape b0_five b0_value b0_far b0_lead b0_walk b0_ends b0_manX b0_manY b0_dogX b0_dogY b0_row b0_round b0_farOne b0_leads b0_drags b0_from b0_near g0_hasImage g0_remembered g0_taped g0_point g0_end g0_begin g0_deep g0_steps g0_men g0_dogs g0_faultAt g0_thrown) sz) := by
  refine Met.ofW (cc := cX11_fault) (maxL := 1) (ret := (some .int)) (by decide) rfl ?_
  intro p e s m args below meth c s₁ B hml hv
  obtain ⟨rfl, hsz, hP, hK, hD0, hN⟩ := hv
  have hx := B.exec
  have hb := B.bytes
  have hr := B.returns
  have hts := atoms_spec (ws := wsX11_fault) B.pre
  have hown : s.vm.findClass RX11 = some m.cls := findClass_of_methodNamed B.named
  have hlocks := B.notSynchronized
  subst hsz
  have hD := hD0.self (sz := s.heap.size)
  generalize hAe : va_A (ceX11_fault cyI cyB cyJ cyZ a0 b0_world b0_image b0_before b0_taken b0_tape b0_five b0_value b0_far b0_lead b0_walk b0_ends b0_manX b0_manY b0_dogX b0_dogY b0_row b0_round b0_farOne b0_leads b0_drags b0_from b0_near g0_hasImage g0_remembered g0_taped g0_point g0_end g0_begin g0_deep g0_steps g0_men g0_dogs g0_faultAt g0_thrown) s.heap.size = A at hD ⊢
  have hA : ∀ q : Nat, s.heap.size ≤ q → A q := fun q h => by rw [← hAe]; exact Or.inr h
  have hS : va_S A s.heap s.heap [] := va_S.rf
  have C0 : cxM p s m meth c _ wsX11_fault RX11 cX11_fault 1 (some .int) := ⟨hx, hb, hr, hml, hown, hts, hlocks⟩
  have hl := lv_entry ([.ref a0]) (n := 1) (Nat.le_of_ble_eq_true rfl)
  rw [lg_entry_eq]
  generalize (lg_sl ([.ref a0]) ++ List.replicate (1 - (lg_sl ([.ref a0])).length) Slot.unset).toArray = ls at hl ⊢
  have hl : lv_has ls 1 [(0, .ref a0)] := hl
  show W p l e rmX11_fault s m _ below meth c _ _ _ _ _ _
  refine wq (fun Q hQ => ?_)
  refine lv_aload_n hx hb dX11_fault_0 rfl (lv_at hl 0 rfl) ?_
  refine lv_iconst (v := 0) hx hb dX11_fault_1 (by decide) ?_
  refine va_put (D := (dC, dI)) (ci := 11) (v := .int 0) (ty := .int) (C := RX11) (T := TX11) (N := 34) hx hb hts inX11_fault_X11 tyX11 tyX11_ok nmX11 hown hK hP hD hS 0 rfl rfl 0 (by decide) (hts (.fieldLink RX11 3 "LeadParkModel" "thrown" "I") (List.mem_of_getElem? (i := 1) rfl)) (fun _ h9 => h9) rfl (by decide +kernel) rfl rfl (Nat.le_of_ble_eq_true rfl) dX11_fault_2 (fun H locs hP hD hS => ?_)
  have hP : va_P (dC, dI) vwCl (ceX11_fault cyI cyB cyJ cyZ a0 b0_world b0_image b0_before b0_taken b0_tape b0_five b0_value b0_far b0_lead b0_walk b0_ends b0_manX b0_manY b0_dogX b0_dogY b0_row b0_round b0_farOne b0_leads b0_drags b0_from b0_near g0_hasImage g0_remembered g0_taped g0_point g0_end g0_begin g0_deep g0_steps g0_men g0_dogs g0_faultAt 0) H := hP
  have hD : va_D A (ceX11_fault cyI cyB cyJ cyZ a0 b0_world b0_image b0_before b0_taken b0_tape b0_five b0_value b0_far b0_lead b0_walk b0_ends b0_manX b0_manY b0_dogX b0_dogY b0_row b0_round b0_farOne b0_leads b0_drags b0_from b0_near g0_hasImage g0_remembered g0_taped g0_point g0_end g0_begin g0_deep g0_steps g0_men g0_dogs g0_faultAt 0) := hD
  refine lv_aload_n hx hb dX11_fault_5 rfl (lv_at hl 0 rfl) ?_
  refine va_get (D := (dC, dI)) (ci := 11) (v := .int g0_faultAt) (C := RX11) (T := TX11) (N := 34) hx hb hts inX11_fault_X11 hown hK hP 0 rfl rfl 13 (by decide) (hts (.fieldLink RX11 30 "LeadParkModel" "faultAt" "I") (List.mem_of_getElem? (i := 2) rfl)) (fun _ h9 => h9) rfl dX11_fault_6 ?_
  rw [hQ]
  exact W.iret (v := g0_faultAt) hx hb hr (fun t ht hW => ⟨⟨g0_faultAt, (0), rfl, hw, by rw [ht]; exact hP, va_K.moved hW.alike hK, hD⟩, hS.F ht⟩) hS.2.2 dX11_fault_9
/-! LeadParkModel.uses ()V -/
abbrev ceX11_uses (cyI cyB cyJ cyZ : ClassId) (a0 b0_world b0_image b0_before b0_taken b0_tape b0_five b0_value b0_far b0_lead b0_walk b0_ends b0_manX b0_manY b0_dogX b0_dogY b0_row b0_round b0_farOne b0_leads b0_drags b0_from b0_near : Nat) (g0_hasImage : Int32) (g0_remembered : Int32) (g0_begin : Int32) (g0_deep : Int32) (g0_faultAt : Int32) (g0_steps : Int32) (g0_men : Int32) (g0_dogs : Int32) (g0_thrown : Int32) (g0_taped : Int32) (g0_point : Int32) (g0_end : Int32) : va_W := [(a0, .inr (11, [.int g0_thrown, .ref b0_world, .ref b0_image, .ref b0_before, .int g0_hasImage, .ref b0_taken, .int g0_remembered, .ref b0_tape, .int g0_taped, .int g0_point, .int g0_end, .int g0_begin, .int g0_deep, .int g0_faultAt, .ref b0_five, .int g0_steps, .ref b0_value, .ref b0_far, .int g0_men, .int g0_dogs, .ref b0_lead, .ref b0_walk, .ref b0_ends, .ref b0_manX, .ref b0_manY, .ref b0_dogX, .ref b0_dogY, .ref b0_row, .ref b0_round, .ref b0_farOne, .ref b0_leads, .ref b0_drags, .ref b0_from, .ref b0_near]))]

theorem inX11_uses_X11 : ∀ w ∈ wsX110, w ∈ wsX11_uses := fun _ h => List.mem_cons_of_mem _ (List.mem_append_right _ h)
abbrev rmX11_uses : Room := { frames := 0, cells := 0, slots := 0, locals := 0 }
set_option maxRecDepth 100000 in
set_option maxHeartbeats 4000000 in
theorem ctX11_uses (l : Launch) (dC : Nat → ClassId) (dI : Nat → Nat → Nat) (cyI cyB cyJ cyZ : ClassId) (sz : Nat) (a0 b0_world b0_image b0_before b0_taken b0_tape b0_five b0_value b0_far b0_lead b0_walk b0_ends b0_manX b0_manY b0_dogX b0_dogY b0_row b0_round b0_farOne b0_leads b0_drags b0_from b0_near : Nat) (g0_hasImage : Int32) (g0_remembered : Int32) (g0_begin : Int32) (g0_deep : Int32) (g0_faultAt : Int32) (g0_steps : Int32) (g0_men : Int32) (g0_dogs : Int32) (g0_thrown : Int32) (g0_taped : Int32) (g0_point : Int32) (g0_end : Int32) (post : (Int32 × Int32 × Int32 × Int32) → Prop) (hw : wpX11_uses post g0_thrown g0_taped g0_point g0_end ) : Met l yX11_uses wsX11_uses rmX11_uses (va_Pc [.ref a0] (wPre dC dI cyI cyB cyJ cyZ sz (ceX11_uses cyI cyB cyJ cyZ a0 b0_world b0_image b0_before b0_taken b0_tape b0_five b0_value b0_far b0_lead b0_walk b0_ends b0_manX b0_manY b0_dogX b0_dogY b0_row b0_round b0_farOne b0_leads b0_drags b0_from b0_near g0_hasImage g0_remembered g0_begin g0_deep g0_faultAt g0_steps g0_men g0_dogs g0_thrown g0_taped g0_point g0_end))) (va_Qv post (fun u : Int32 × Int32 × Int32 × Int32 => wAt dC dI cyI cyB cyJ cyZ (va_A (ceX11_uses cyI cyB cyJ cyZ a0 b0_world b0_image b0_before b0_taken b0_tape b0_five b0_value b0_far b0_lead b0_walk b0_ends b0_manX b0_manY b0_dogX b0_dogY b0_row b0_round b0_farOne b0_leads b0_drags b0_from b0_near g0_hasImage g0_remembered g0_begin g0_deep g0_faultAt g0_steps g0_men g0_dogs g0_thrown g0_taped g0_point g0_end) sz) (ceX11_uses cyI cyB cyJ cyZ a0 b0_world b0_image b0_before b0_taken b0_tape b0_five b0_value b0_far b0_lead b0_walk b0_ends b0_manX b0_manY b0_dogX b0_dogY b0_row b0_round b0_farOne b0_leads b0_drags b0_from b0_near g0_hasImage g0_remembered g0_begin g0_deep g0_faultAt g0_steps g0_men g0_dogs u.1 u.2.1 u.2.2.1 u.2.2.2)) (va_A (ceX11_uses cyI cyB cyJ cyZ a0 b0_world b0_image b0_before b0_taken b0_tape b0_five b0_value b0_far b0_lead b0_walk b0_ends b0_manX b0_manY b0_dogX b0_dogY b0_row b0_round b0_farOne b0_leads b0_drags b0_from b0_near g0_hasImage g0_remembered g0_begin g0_deep g0_faultAt g0_steps g0_men g0_dogs g0_thrown g0_taped g0_point g0_end) sz)) 0 0 (va_A (ceX11_uses cyI cyB cyJ cyZ a0 b0_world b0_image b0_before b0_taken b0_tape b0_five b0_value b0_far b0_lead b0_walk b0_ends b0_manX b0_manY b0_dogX b0_dogY b0_row b0_round b0_farOne b0_leads b0_drags b0_from b0_near g0_hasImage g0_remembered g0_begin g0_deep g0_faultAt g0_steps g0_men g0_dogs g0_thrown g0_taped g0_point g0_end) sz) := by
  refine Met.ofW (cc := cX11_uses) (maxL := 1) (ret := none) (by decide) rfl ?_
  intro p e s m args below meth c s₁ B hml hv
  obtain ⟨rfl, hsz, hP, hK, hD0, hN⟩ := hv
  have hx := B.exec
  have hb := B.bytes
  have hr := B.returns
  have hts := atoms_spec (ws := wsX11_uses) B.pre
  have hown : s.vm.findClass RX11 = some m.cls := findClass_of_methodNamed B.named
  have hlocks := B.notSynchronized
  subst hsz
  have hD := hD0.self (sz := s.heap.size)
  generalize hAe : va_A (ceX11_uses cyI cyB cyJ cyZ a0 b0_world b0_image b0_before b0_taken b0_tape b0_five b0_value b0_far b0_lead b0_walk b0_ends b0_manX b0_manY b0_dogX b0_dogY b0_row b0_round b0_farOne b0_leads b0_drags b0_from b0_near g0_hasImage g0_remembered g0_begin g0_deep g0_faultAt g0_steps g0_men g0_dogs g0_thrown g0_taped g0_point g0_end) s.heap.size = A at hD ⊢
  have hA : ∀ q : Nat, s.heap.size ≤ q → A q := fun q h => by rw [← hAe]; exact Or.inr h
  have hS : va_S A s.heap s.heap [] := va_S.rf
  have C0 : cxM p s m meth c _ wsX11_uses RX11 cX11_uses 1 none := ⟨hx, hb, hr, hml, hown, hts, hlocks⟩
  have hl := lv_entry ([.ref a0]) (n := 1) (Nat.le_of_ble_eq_true rfl)
  rw [lg_entry_eq]
  generalize (lg_sl ([.ref a0]) ++ List.replicate (1 - (lg_sl ([.ref a0])).length) Slot.unset).toArray = ls at hl ⊢
  have hl : lv_has ls 1 [(0, .ref a0)] := hl
  show W p l e rmX11_uses s m _ below meth c _ _ _ _ _ _
  refine wq (fun Q hQ => ?_)
  refine lv_aload_n hx hb dX11_uses_0 rfl (lv_at hl 0 rfl) ?_
  refine lv_iconst (v := 0) hx hb dX11_uses_1 (by decide) ?_
  refine va_put (D := (dC, dI)) (ci := 11) (v := .int 0) (ty := .int) (C := RX11) (T := TX11) (N := 34) hx hb hts inX11_uses_X11 tyX11 tyX11_ok nmX11 hown hK hP hD hS 0 rfl rfl 0 (by decide) (hts (.fieldLink RX11 3 "LeadParkModel" "thrown" "I") (List.mem_of_getElem? (i := 1) rfl)) (fun _ h9 => h9) rfl (by decide +kernel) rfl rfl (Nat.le_of_ble_eq_true rfl) dX11_uses_2 (fun H locs hP hD hS => ?_)
  have hP : va_P (dC, dI) vwCl (ceX11_uses cyI cyB cyJ cyZ a0 b0_world b0_image b0_before b0_taken b0_tape b0_five b0_value b0_far b0_lead b0_walk b0_ends b0_manX b0_manY b0_dogX b0_dogY b0_row b0_round b0_farOne b0_leads b0_drags b0_from b0_near g0_hasImage g0_remembered g0_begin g0_deep g0_faultAt g0_steps g0_men g0_dogs 0 g0_taped g0_point g0_end) H := hP
  have hD : va_D A (ceX11_uses cyI cyB cyJ cyZ a0 b0_world b0_image b0_before b0_taken b0_tape b0_five b0_value b0_far b0_lead b0_walk b0_ends b0_manX b0_manY b0_dogX b0_dogY b0_row b0_round b0_farOne b0_leads b0_drags b0_from b0_near g0_hasImage g0_remembered g0_begin g0_deep g0_faultAt g0_steps g0_men g0_dogs 0 g0_taped g0_point g0_end) := hD
  refine lv_aload_n hx hb dX11_uses_5 rfl (lv_at hl 0 rfl) ?_
  refine lv_aload_n hx hb dX11_uses_6 rfl (lv_at hl 0 rfl) ?_
  refine va_get (D := (dC, dI)) (ci := 11) (v := .int g0_taped) (C := RX11) (T := TX11) (N := 34) hx hb hts inX11_uses_X11 hown hK hP 0 rfl rfl 8 (by decide) (hts (.fieldLink RX11 109 "LeadParkModel" "taped" "I") (List.mem_of_getElem? (i := 2) rfl)) (fun _ h9 => h9) rfl dX11_uses_7 ?_
  refine va_put (D := (dC, dI)) (ci := 11) (v := .int g0_taped) (ty := .int) (C := RX11) (T := TX11) (N := 34) hx hb hts inX11_uses_X11 tyX11 tyX11_ok nmX11 hown hK hP hD hS 0 rfl rfl 10 (by decide) (hts (.fieldLink RX11 115 "LeadParkModel" "end" "I") (List.mem_of_getElem? (i := 3) rfl)) (fun _ h9 => h9) rfl (by decide +kernel) rfl rfl (Nat.le_of_ble_eq_true rfl) dX11_uses_10 (fun H locs hP hD hS => ?_)
  have hP : va_P (dC, dI) vwCl (ceX11_uses cyI cyB cyJ cyZ a0 b0_world b0_image b0_before b0_taken b0_tape b0_five b0_value b0_far b0_lead b0_walk b0_ends b0_manX b0_manY b0_dogX b0_dogY b0_row b0_round b0_farOne b0_leads b0_drags b0_from b0_near g0_hasImage g0_remembered g0_begin g0_deep g0_faultAt g0_steps g0_men g0_dogs 0 g0_taped g0_point g0_taped) H := hP
  have hD : va_D A (ceX11_uses cyI cyB cyJ cyZ a0 b0_world b0_image b0_before b0_taken b0_tape b0_five b0_value b0_far b0_lead b0_walk b0_ends b0_manX b0_manY b0_dogX b0_dogY b0_row b0_round b0_farOne b0_leads b0_drags b0_from b0_near g0_hasImage g0_remembered g0_begin g0_deep g0_faultAt g0_steps g0_men g0_dogs 0 g0_taped g0_point g0_taped) := hD
  refine lv_aload_n hx hb dX11_uses_13 rfl (lv_at hl 0 rfl) ?_
  refine lv_iconst (v := 0) hx hb dX11_uses_14 (by decide) ?_
  refine va_put (D := (dC, dI)) (ci := 11) (v := .int 0) (ty := .int) (C := RX11) (T := TX11) (N := 34) hx hb hts inX11_uses_X11 tyX11 tyX11_ok nmX11 hown hK hP hD hS 0 rfl rfl 8 (by decide) (hts (.fieldLink RX11 109 "LeadParkModel" "taped" "I") (List.mem_of_getElem? (i := 2) rfl)) (fun _ h9 => h9) rfl (by decide +kernel) rfl rfl (Nat.le_of_ble_eq_true rfl) dX11_uses_15 (fun H locs hP hD hS => ?_)
  have hP : va_P (dC, dI) vwCl (ceX11_uses cyI cyB cyJ cyZ a0 b0_world b0_image b0_before b0_taken b0_tape b0_five b0_value b0_far b0_lead b0_walk b0_ends b0_manX b0_manY b0_dogX b0_dogY b0_row b0_round b0_farOne b0_leads b0_drags b0_from b0_near g0_hasImage g0_remembered g0_begin g0_deep g0_faultAt g0_steps g0_men g0_dogs 0 0 g0_point g0_taped) H := hP
  have hD : va_D A (ceX11_uses cyI cyB cyJ cyZ a0 b0_world b0_image b0_before b0_taken b0_tape b0_five b0_value b0_far b0_lead b0_walk b0_ends b0_manX b0_manY b0_dogX b0_dogY b0_row b0_round b0_farOne b0_leads b0_drags b0_from b0_near g0_hasImage g0_remembered g0_begin g0_deep g0_faultAt g0_steps g0_men g0_dogs 0 0 g0_point g0_taped) := hD
  refine lv_aload_n hx hb dX11_uses_18 rfl (lv_at hl 0 rfl) ?_
  refine lv_iconst (v := 0) hx hb dX11_uses_19 (by decide) ?_
  refine va_put (D := (dC, dI)) (ci := 11) (v := .int 0) (ty := .int) (C := RX11) (T := TX11) (N := 34) hx hb hts inX11_uses_X11 tyX11 tyX11_ok nmX11 hown hK hP hD hS 0 rfl rfl 9 (by decide) (hts (.fieldLink RX11 112 "LeadParkModel" "point" "I") (List.mem_of_getElem? (i := 4) rfl)) (fun _ h9 => h9) rfl (by decide +kernel) rfl rfl (Nat.le_of_ble_eq_true rfl) dX11_uses_20 (fun H locs hP hD hS => ?_)
  have hP : va_P (dC, dI) vwCl (ceX11_uses cyI cyB cyJ cyZ a0 b0_world b0_image b0_before b0_taken b0_tape b0_five b0_value b0_far b0_lead b0_walk b0_ends b0_manX b0_manY b0_dogX b0_dogY b0_row b0_round b0_farOne b0_leads b0_drags b0_from b0_near g0_hasImage g0_remembered g0_begin g0_deep g0_faultAt g0_steps g0_men g0_dogs 0 0 0 g0_taped) H := hP
  have hD : va_D A (ceX11_uses cyI cyB cyJ cyZ a0 b0_world b0_image b0_before b0_taken b0_tape b0_five b0_value b0_far b0_lead b0_walk b0_ends b0_manX b0_manY b0_dogX b0_dogY b0_row b0_round b0_farOne b0_leads b0_drags b0_from b0_near g0_hasImage g0_remembered g0_begin g0_deep g0_faultAt g0_steps g0_men g0_dogs 0 0 0 g0_taped) := hD
  rw [hQ]
  exact W.vret hx hb hr (fun t ht hW => ⟨⟨(0, 0, 0, g0_taped), rfl, hw, by rw [ht]; exact hP, va_K.moved hW.alike hK, hD⟩, hS.F ht⟩) hS.2.2 dX11_uses_23
