/-! LeadParkModel.thrown ()I -/
abbrev ceX11_thrown (cyI cyB cyJ cyZ : ClassId) (a0 b0_world b0_image b0_before b0_taken b0_tape b0_five b0_value b0_far b0_lead b0_walk b0_ends b0_manX b0_manY b0_dogX b0_dogY b0_row b0_round b0_farOne b0_leads b0_drags b0_from b0_near : Nat) (g0_hasImage : Int32) (g0_remembered : Int32) (g0_taped : Int32) (g0_point : Int32) (g0_end : Int32) (g0_begin : Int32) (g0_deep : Int32) (g0_faultAt : Int32) (g0_steps : Int32) (g0_men : Int32) (g0_dogs : Int32) (g0_thrown : Int32) : va_W := [(a0, .inr (11, [.int g0_thrown, .ref b0_world, .ref b0_image, .ref b0_before, .int g0_hasImage, .ref b0_taken, .int g0_remembered, .ref b0_tape, .int g0_taped, .int g0_point, .int g0_end, .int g0_begin, .int g0_deep, .int g0_faultAt, .ref b0_five, .int g0_steps, .ref b0_value, .ref b0_far, .int g0_men, .int g0_dogs, .ref b0_lead, .ref b0_walk, .ref b0_ends, .ref b0_manX, .ref b0_manY, .ref b0_dogX, .ref b0_dogY, .ref b0_row, .ref b0_round, .ref b0_farOne, .ref b0_leads, .ref b0_drags, .ref b0_from, .ref b0_near]))]

theorem inX11_thrown_X11 : ∀ w ∈ wsX110, w ∈ wsX11_thrown := fun _ h => List.mem_cons_of_mem _ (List.mem_append_right _ h)
abbrev rmX11_thrown : Room := { frames := 0, cells := 0, slots := 0, locals := 0 }
set_option maxRecDepth 100000 in
set_option maxHeartbeats 4000000 in
theorem ctX11_thrown (l : Launch) (dC : Nat → ClassId) (dI : Nat → Nat → Nat) (cyI cyB cyJ cyZ : ClassId) (sz : Nat) (a0 b0_world b0_image b0_before b0_taken b0_tape b0_five b0_value b0_far b0_lead b0_walk b0_ends b0_manX b0_manY b0_dogX b0_dogY b0_row b0_round b0_farOne b0_leads b0_drags b0_from b0_near : Nat) (g0_hasImage : Int32) (g0_remembered : Int32) (g0_taped : Int32) (g0_point : Int32) (g0_end : Int32) (g0_begin : Int32) (g0_deep : Int32) (g0_faultAt : Int32) (g0_steps : Int32) (g0_men : Int32) (g0_dogs : Int32) (g0_thrown : Int32) (post : Int32 → Unit → Prop) (hw : wpX11_thrown post g0_thrown ) : Met l yX11_thrown wsX11_thrown rmX11_thrown (va_Pc [.ref a0] (wPre dC dI cyI cyB cyJ cyZ sz (ceX11_thrown cyI cyB cyJ cyZ a0 b0_world b0_image b0_before b0_taken b0_tape b0_five b0_value b0_far b0_lead b0_walk b0_ends b0_manX b0_manY b0_dogX b0_dogY b0_row b0_round b0_farOne b0_leads b0_drags b0_from b0_near g0_hasImage g0_remembered g0_taped g0_point g0_end g0_begin g0_deep g0_faultAt g0_steps g0_men g0_dogs g0_thrown))) (va_Qi post (fun u : Unit => wAt dC dI cyI cyB cyJ cyZ (va_A (ceX11_thrown cyI cyB cyJ cyZ a0 b0_world b0_image b0_before b0_taken b0_tape b0_five b0_value b0_far b0_lead b0_walk b0_ends b0_manX b0_manY b0_dogX b0_dogY b0_row b0_round b0_farOne b0_leads b0_drags b0_from b0_near g0_hasImage g0_remembered g0_taped g0_point g0_end g0_begin g0_deep g0_faultAt g0_steps g0_men g0_dogs g0_thrown) sz) (ceX11_thrown cyI cyB cyJ cyZ a0 b0_world b0_image b0_before b0_taken b0_tape b0_five b0_value b0_far b0_lead b0_walk b0_ends b0_manX b0_manY b0_dogX b0_dogY b0_row b0_round b0_farOne b0_leads b0_drags b0_from b0_near g0_hasImage g0_remembered g0_taped g0_point g0_end g0_begin g0_deep g0_faultAt g0_steps g0_men g0_dogs g0_thrown)) (va_A (ceX11_thrown cyI cyB cyJ cyZ a0 b0_world b0_image b0_before b0_taken b0_tape b0_five b0_value b0_far b0_lead b0_walk b0_ends b0_manX b0_manY b0_dogX b0_dogY b0_row b0_round b0_farOne b0_leads b0_drags b0_from b0_near g0_hasImage g0_remembered g0_taped g0_point g0_end g0_begin g0_deep g0_faultAt g0_steps g0_men g0_dogs g0_thrown) sz)) 0 0 (va_A (ceX11_thrown cyI cyB cyJ cyZ a0 b0_world b0_image b0_before b0_taken b0_tape b0_five b0_value b0_far b0_lead b0_walk b0_ends b0_manX b0_manY b0_dogX b0_dogY b0_row b0_round b0_farOne b0_leads b0_drags b0_from b0_near g0_hasImage g0_remembered g0_taped g0_point g0_end g0_begin g0_deep g0_faultAt g0_steps g0_men g0_dogs g0_thrown) sz) := by
  refine Met.ofW (cc := cX11_thrown) (maxL := 1) (ret := (some .int)) (by decide) rfl ?_
  intro p e s m args below meth c s₁ B hml hv
  obtain ⟨rfl, hsz, hP, hK, hD0, hN⟩ := hv
  have hx := B.exec
  have hb := B.bytes
  have hr := B.returns
  have hts := atoms_spec (ws := wsX11_thrown) B.pre
  have hown : s.vm.findClass RX11 = some m.cls := findClass_of_methodNamed B.named
  have hlocks := B.notSynchronized
  subst hsz
  have hD := hD0.self (sz := s.heap.size)
  generalize hAe : va_A (ceX11_thrown cyI cyB cyJ cyZ a0 b0_world b0_image b0_before b0_taken b0_tape b0_five b0_value b0_far b0_lead b0_walk b0_ends b0_manX b0_manY b0_dogX b0_dogY b0_row b0_round b0_farOne b0_leads b0_drags b0_from b0_near g0_hasImage g0_remembered g0_taped g0_point g0_end g0_begin g0_deep g0_faultAt g0_steps g0_men g0_dogs g0_thrown) s.heap.size = A at hD ⊢
  have hA : ∀ q : Nat, s.heap.size ≤ q → A q := fun q h => by rw [← hAe]; exact Or.inr h
  have hS : va_S A s.heap s.heap [] := va_S.rf
  have C0 : cxM p s m meth c _ wsX11_thrown RX11 cX11_thrown 1 (some .int) := ⟨hx, hb, hr, hml, hown, hts, hlocks⟩
  have hl := lv_entry ([.ref a0]) (n := 1) (Nat.le_of_ble_eq_true rfl)
  rw [lg_entry_eq]
  generalize (lg_sl ([.ref a0]) ++ List.replicate (1 - (lg_sl ([.ref a0])).length) Slot.unset).toArray = ls at hl ⊢
  have hl : lv_has ls 1 [(0, .ref a0)] := hl
  show W p l e rmX11_thrown s m _ below meth c _ _ _ _ _ _
  refine wq (fun Q hQ => ?_)
  refine lv_aload_n hx hb dX11_thrown_0 rfl (lv_at hl 0 rfl) ?_
  refine va_get (D := (dC, dI)) (ci := 11) (v := .int g0_thrown) (C := RX11) (T := TX11) (N := 34) hx hb hts inX11_thrown_X11 hown hK hP 0 rfl rfl 0 (by decide) (hts (.fieldLink RX11 3 "LeadParkModel" "thrown" "I") (List.mem_of_getElem? (i := 1) rfl)) (fun _ h9 => h9) rfl dX11_thrown_1 ?_
  rw [hQ]
  exact W.iret (v := g0_thrown) hx hb hr (fun t ht hW => ⟨⟨g0_thrown, (), rfl, hw, by rw [ht]; exact hP, va_K.moved hW.alike hK, hD⟩, hS.F ht⟩) hS.2.2 dX11_thrown_4
/-! LeadParkModel.throwsIf (ZI)Z -/
abbrev ceX11_throwsIf (cyI cyB cyJ cyZ : ClassId) (a0 b0_world b0_image b0_before b0_taken b0_tape b0_five b0_value b0_far b0_lead b0_walk b0_ends b0_manX b0_manY b0_dogX b0_dogY b0_row b0_round b0_farOne b0_leads b0_drags b0_from b0_near : Nat) (g0_hasImage : Int32) (g0_remembered : Int32) (g0_taped : Int32) (g0_point : Int32) (g0_end : Int32) (g0_begin : Int32) (g0_deep : Int32) (g0_faultAt : Int32) (g0_steps : Int32) (g0_men : Int32) (g0_dogs : Int32) (g0_thrown : Int32) : va_W := [(a0, .inr (11, [.int g0_thrown, .ref b0_world, .ref b0_image, .ref b0_before, .int g0_hasImage, .ref b0_taken, .int g0_remembered, .ref b0_tape, .int g0_taped, .int g0_point, .int g0_end, .int g0_begin, .int g0_deep, .int g0_faultAt, .ref b0_five, .int g0_steps, .ref b0_value, .ref b0_far, .int g0_men, .int g0_dogs, .ref b0_lead, .ref b0_walk, .ref b0_ends, .ref b0_manX, .ref b0_manY, .ref b0_dogX, .ref b0_dogY, .ref b0_row, .ref b0_round, .ref b0_farOne, .ref b0_leads, .ref b0_drags, .ref b0_from, .ref b0_near]))]

theorem inX11_throwsIf_X11 : ∀ w ∈ wsX110, w ∈ wsX11_throwsIf := fun _ h => List.mem_cons_of_mem _ (List.mem_append_right _ h)
abbrev rmX11_throwsIf : Room := { frames := 0, cells := 0, slots := 0, locals := 0 }
set_option maxRecDepth 100000 in
set_option maxHeartbeats 4000000 in
theorem ctX11_throwsIf (l : Launch) (dC : Nat → ClassId) (dI : Nat → Nat → Nat) (cyI cyB cyJ cyZ : ClassId) (sz : Nat) (a0 b0_world b0_image b0_before b0_taken b0_tape b0_five b0_value b0_far b0_lead b0_walk b0_ends b0_manX b0_manY b0_dogX b0_dogY b0_row b0_round b0_farOne b0_leads b0_drags b0_from b0_near : Nat) (g0_hasImage : Int32) (g0_remembered : Int32) (g0_taped : Int32) (g0_point : Int32) (g0_end : Int32) (g0_begin : Int32) (g0_deep : Int32) (g0_faultAt : Int32) (g0_steps : Int32) (g0_men : Int32) (g0_dogs : Int32) (g0_thrown : Int32) (p0 : Int32) (p1 : Int32) (post : Int32 → Int32 → Prop) (hw : wpX11_throwsIf post g0_thrown p0 p1) : Met l yX11_throwsIf wsX11_throwsIf rmX11_throwsIf (va_Pc [.ref a0, .int p0, .int p1] (wPre dC dI cyI cyB cyJ cyZ sz (ceX11_throwsIf cyI cyB cyJ cyZ a0 b0_world b0_image b0_before b0_taken b0_tape b0_five b0_value b0_far b0_lead b0_walk b0_ends b0_manX b0_manY b0_dogX b0_dogY b0_row b0_round b0_farOne b0_leads b0_drags b0_from b0_near g0_hasImage g0_remembered g0_taped g0_point g0_end g0_begin g0_deep g0_faultAt g0_steps g0_men g0_dogs g0_thrown))) (va_Qi post (fun u : Int32 => wAt dC dI cyI cyB cyJ cyZ (va_A (ceX11_throwsIf cyI cyB cyJ cyZ a0 b0_world b0_image b0_before b0_taken b0_tape b0_five b0_value b0_far b0_lead b0_walk b0_ends b0_manX b0_manY b0_dogX b0_dogY b0_row b0_round b0_farOne b0_leads b0_drags b0_from b0_near g0_hasImage g0_remembered g0_taped g0_point g0_end g0_begin g0_deep g0_faultAt g0_steps g0_men g0_dogs g0_thrown) sz) (ceX11_throwsIf cyI cyB cyJ cyZ a0 b0_world b0_image b0_before b0_taken b0_tape b0_five b0_value b0_far b0_lead b0_walk b0_ends b0_manX b0_manY b0_dogX b0_dogY b0_row b0_round b0_farOne b0_leads b0_drags b0_from b0_near g0_hasImage g0_remembered g0_taped g0_point g0_end g0_begin g0_deep g0_faultAt g0_steps g0_men g0_dogs u)) (va_A (ceX11_throwsIf cyI cyB cyJ cyZ a0 b0_world b0_image b0_before b0_taken b0_tape b0_five b0_value b0_far b0_lead b0_walk b0_ends b0_manX b0_manY b0_dogX b0_dogY b0_row b0_round b0_farOne b0_leads b0_drags b0_from b0_near g0_hasImage g0_remembered g0_taped g0_point g0_end g0_begin g0_deep g0_faultAt g0_steps g0_men g0_dogs g0_thrown) sz)) 0 0 (va_A (ceX11_throwsIf cyI cyB cyJ cyZ a0 b0_world b0_image b0_before b0_taken b0_tape b0_five b0_value b0_far b0_lead b0_walk b0_ends b0_manX b0_manY b0_dogX b0_dogY b0_row b0_round b0_farOne b0_leads b0_drags b0_from b0_near g0_hasImage g0_remembered g0_taped g0_point g0_end g0_begin g0_deep g0_faultAt g0_steps g0_men g0_dogs g0_thrown) sz) := by
  refine Met.ofW (cc := cX11_throwsIf) (maxL := 3) (ret := (some .boolean)) (by decide) rfl ?_
  intro p e s m args below meth c s₁ B hml hv
  obtain ⟨rfl, hsz, hP, hK, hD0, hN⟩ := hv
  have hx := B.exec
  have hb := B.bytes
  have hr := B.returns
  have hts := atoms_spec (ws := wsX11_throwsIf) B.pre
  have hown : s.vm.findClass RX11 = some m.cls := findClass_of_methodNamed B.named
  have hlocks := B.notSynchronized
  subst hsz
  have hD := hD0.self (sz := s.heap.size)
  generalize hAe : va_A (ceX11_throwsIf cyI cyB cyJ cyZ a0 b0_world b0_image b0_before b0_taken b0_tape b0_five b0_value b0_far b0_lead b0_walk b0_ends b0_manX b0_manY b0_dogX b0_dogY b0_row b0_round b0_farOne b0_leads b0_drags b0_from b0_near g0_hasImage g0_remembered g0_taped g0_point g0_end g0_begin g0_deep g0_faultAt g0_steps g0_men g0_dogs g0_thrown) s.heap.size = A at hD ⊢
  have hA : ∀ q : Nat, s.heap.size ≤ q → A q := fun q h => by rw [← hAe]; exact Or.inr h
  have hS : va_S A s.heap s.heap [] := va_S.rf
  have C0 : cxM p s m meth c _ wsX11_throwsIf RX11 cX11_throwsIf 3 (some .boolean) := ⟨hx, hb, hr, hml, hown, hts, hlocks⟩
  have hl := lv_entry ([.ref a0, .int p0, .int p1]) (n := 3) (Nat.le_of_ble_eq_true rfl)
  rw [lg_entry_eq]
  generalize (lg_sl ([.ref a0, .int p0, .int p1]) ++ List.replicate (3 - (lg_sl ([.ref a0, .int p0, .int p1])).length) Slot.unset).toArray = ls at hl ⊢
  have hl : lv_has ls 3 [(0, .ref a0), (1, .int p0), (2, .int p1)] := hl
  show W p l e rmX11_throwsIf s m _ below meth c _ _ _ _ _ _
  refine wq (fun Q hQ => ?_)
  refine lv_iload_n hx hb dX11_throwsIf_0 rfl (lv_at hl 1 rfl) ?_
  refine lv_if_eq (tgt := 9) hx hb dX11_throwsIf_1 (by decide) (fun hc => ?_) (fun hc => ?_)
  · have hw := hw.1 hc
    refine lv_iload_n hx hb dX11_throwsIf_9 rfl (lv_at hl 1 rfl) ?_
    rw [hQ]
    obtain ⟨hz, hw⟩ := hw
    exact W.zret (v := p0) (ty := .boolean) hx hb hr (zb_n hz) (fun t ht hW => ⟨⟨p0, (g0_thrown), rfl, hw, by rw [ht]; exact hP, va_K.moved hW.alike hK, hD⟩, hS.F ht⟩) hS.2.2 dX11_throwsIf_10
  · have hw := hw.2 hc
    refine lv_aload_n hx hb dX11_throwsIf_4 rfl (lv_at hl 0 rfl) ?_
    refine lv_iload_n hx hb dX11_throwsIf_5 rfl (lv_at hl 2 rfl) ?_
    refine va_put (D := (dC, dI)) (ci := 11) (v := .int p1) (ty := .int) (C := RX11) (T := TX11) (N := 34) hx hb hts inX11_throwsIf_X11 tyX11 tyX11_ok nmX11 hown hK hP hD hS 0 rfl rfl 0 (by decide) (hts (.fieldLink RX11 3 "LeadParkModel" "thrown" "I") (List.mem_of_getElem? (i := 1) rfl)) (fun _ h9 => h9) rfl (by decide +kernel) rfl rfl (Nat.le_of_ble_eq_true rfl) dX11_throwsIf_6 (fun H locs hP hD hS => ?_)
    have hP : va_P (dC, dI) vwCl (ceX11_throwsIf cyI cyB cyJ cyZ a0 b0_world b0_image b0_before b0_taken b0_tape b0_five b0_value b0_far b0_lead b0_walk b0_ends b0_manX b0_manY b0_dogX b0_dogY b0_row b0_round b0_farOne b0_leads b0_drags b0_from b0_near g0_hasImage g0_remembered g0_taped g0_point g0_end g0_begin g0_deep g0_faultAt g0_steps g0_men g0_dogs p1) H := hP
    have hD : va_D A (ceX11_throwsIf cyI cyB cyJ cyZ a0 b0_world b0_image b0_before b0_taken b0_tape b0_five b0_value b0_far b0_lead b0_walk b0_ends b0_manX b0_manY b0_dogX b0_dogY b0_row b0_round b0_farOne b0_leads b0_drags b0_from b0_near g0_hasImage g0_remembered g0_taped g0_point g0_end g0_begin g0_deep g0_faultAt g0_steps g0_men g0_dogs p1) := hD
    refine lv_iload_n hx hb dX11_throwsIf_9 rfl (lv_at hl 1 rfl) ?_
    rw [hQ]
    obtain ⟨hz, hw⟩ := hw
    exact W.zret (v := p0) (ty := .boolean) hx hb hr (zb_n hz) (fun t ht hW => ⟨⟨p0, (p1), rfl, hw, by rw [ht]; exact hP, va_K.moved hW.alike hK, hD⟩, hS.F ht⟩) hS.2.2 dX11_throwsIf_10
/-! LeadParkModel.in (III)Z -/

abbrev rmX11_in : Room := { frames := 0, cells := 0, slots := 0, locals := 0 }
set_option maxRecDepth 100000 in
set_option maxHeartbeats 4000000 in
theorem ctX11_in (l : Launch) (dC : Nat → ClassId) (dI : Nat → Nat → Nat) (cyI cyB cyJ cyZ : ClassId) (sz : Nat) (p0 : Int32) (p1 : Int32) (p2 : Int32) (post : Int32 → Unit → Prop) (hw : wpX11_in post p0 p1 p2) : Met l yX11_in wsX11_in rmX11_in (va_Pc [.int p0, .int p1, .int p2] (wPre dC dI cyI cyB cyJ cyZ sz ([] : va_W))) (va_Qi post (fun u : Unit => wAt dC dI cyI cyB cyJ cyZ (va_A ([] : va_W) sz) ([] : va_W)) (va_A ([] : va_W) sz)) 0 0 (va_A ([] : va_W) sz) := by
  refine Met.ofW (cc := cX11_in) (maxL := 3) (ret := (some .boolean)) (by decide) rfl ?_
  intro p e s m args below meth c s₁ B hml hv
  obtain ⟨rfl, hsz, hP, hK, hD0, hN⟩ := hv
  have hx := B.exec
  have hb := B.bytes
  have hr := B.returns
  have hts := atoms_spec (ws := wsX11_in) B.pre
  have hown : s.vm.findClass RX11 = some m.cls := findClass_of_methodNamed B.named
  have hlocks := B.notSynchronized
  subst hsz
  have hD := hD0.self (sz := s.heap.size)
  generalize hAe : va_A ([] : va_W) s.heap.size = A at hD ⊢
  have hA : ∀ q : Nat, s.heap.size ≤ q → A q := fun q h => by rw [← hAe]; exact Or.inr h
  have hS : va_S A s.heap s.heap [] := va_S.rf
  have C0 : cxM p s m meth c _ wsX11_in RX11 cX11_in 3 (some .boolean) := ⟨hx, hb, hr, hml, hown, hts, hlocks⟩
  have hl := lv_entry ([.int p0, .int p1, .int p2]) (n := 3) (Nat.le_of_ble_eq_true rfl)
  rw [lg_entry_eq]
  generalize (lg_sl ([.int p0, .int p1, .int p2]) ++ List.replicate (3 - (lg_sl ([.int p0, .int p1, .int p2])).length) Slot.unset).toArray = ls at hl ⊢
  have hl : lv_has ls 3 [(0, .int p0), (1, .int p1), (2, .int p2)] := hl
  show W p l e rmX11_in s m _ below meth c _ _ _ _ _ _
  refine wq (fun Q hQ => ?_)
  refine lv_iload_n hx hb dX11_in_0 rfl (lv_at hl 0 rfl) ?_
  refine lv_iload_n hx hb dX11_in_1 rfl (lv_at hl 1 rfl) ?_
  refine lv_icmp_lt (tgt := 14) hx hb dX11_in_2 (by decide) (fun hc => ?_) (fun hc => ?_)
  · have hw := hw.1 hc
    refine lv_iconst (v := 0) hx hb dX11_in_14 (by decide) ?_
    rw [hQ]
    exact W.zret (v := 0) (ty := .boolean) hx hb hr rfl (fun t ht hW => ⟨⟨0, (), rfl, hw, by rw [ht]; exact hP, va_K.moved hW.alike hK, hD⟩, hS.F ht⟩) hS.2.2 dX11_in_15
  · have hw := hw.2 hc
    refine lv_iload_n hx hb dX11_in_5 rfl (lv_at hl 0 rfl) ?_
    refine lv_iload_n hx hb dX11_in_6 rfl (lv_at hl 2 rfl) ?_
    refine lv_icmp_gt (tgt := 14) hx hb dX11_in_7 (by decide) (fun hc => ?_) (fun hc => ?_)
    · have hw := hw.1 hc
      refine lv_iconst (v := 0) hx hb dX11_in_14 (by decide) ?_
      rw [hQ]
      exact W.zret (v := 0) (ty := .boolean) hx hb hr rfl (fun t ht hW => ⟨⟨0, (), rfl, hw, by rw [ht]; exact hP, va_K.moved hW.alike hK, hD⟩, hS.F ht⟩) hS.2.2 dX11_in_15
    · have hw := hw.2 hc
      refine lv_iconst (v := 1) hx hb dX11_in_10 (by decide) ?_
      refine lv_goto (tgt := 15) hx hb dX11_in_11 (by decide) ?_
      rw [hQ]
      exact W.zret (v := 1) (ty := .boolean) hx hb hr rfl (fun t ht hW => ⟨⟨1, (), rfl, hw, by rw [ht]; exact hP, va_K.moved hW.alike hK, hD⟩, hS.F ht⟩) hS.2.2 dX11_in_15
/-! LeadParkModel.has (II)Z -/

abbrev rmX11_has : Room := { frames := 0, cells := 0, slots := 0, locals := 0 }
set_option maxRecDepth 100000 in
set_option maxHeartbeats 4000000 in
theorem ctX11_has (l : Launch) (dC : Nat → ClassId) (dI : Nat → Nat → Nat) (cyI cyB cyJ cyZ : ClassId) (sz : Nat) (p0 : Int32) (p1 : Int32) (post : Int32 → Unit → Prop) (hw : wpX11_has post p0 p1) : Met l yX11_has wsX11_has rmX11_has (va_Pc [.int p0, .int p1] (wPre dC dI cyI cyB cyJ cyZ sz ([] : va_W))) (va_Qi post (fun u : Unit => wAt dC dI cyI cyB cyJ cyZ (va_A ([] : va_W) sz) ([] : va_W)) (va_A ([] : va_W) sz)) 0 0 (va_A ([] : va_W) sz) := by
  refine Met.ofW (cc := cX11_has) (maxL := 2) (ret := (some .boolean)) (by decide) rfl ?_
  intro p e s m args below meth c s₁ B hml hv
  obtain ⟨rfl, hsz, hP, hK, hD0, hN⟩ := hv
  have hx := B.exec
  have hb := B.bytes
  have hr := B.returns
  have hts := atoms_spec (ws := wsX11_has) B.pre
  have hown : s.vm.findClass RX11 = some m.cls := findClass_of_methodNamed B.named
  have hlocks := B.notSynchronized
  subst hsz
  have hD := hD0.self (sz := s.heap.size)
  generalize hAe : va_A ([] : va_W) s.heap.size = A at hD ⊢
  have hA : ∀ q : Nat, s.heap.size ≤ q → A q := fun q h => by rw [← hAe]; exact Or.inr h
  have hS : va_S A s.heap s.heap [] := va_S.rf
  have C0 : cxM p s m meth c _ wsX11_has RX11 cX11_has 2 (some .boolean) := ⟨hx, hb, hr, hml, hown, hts, hlocks⟩
  have hl := lv_entry ([.int p0, .int p1]) (n := 2) (Nat.le_of_ble_eq_true rfl)
  rw [lg_entry_eq]
  generalize (lg_sl ([.int p0, .int p1]) ++ List.replicate (2 - (lg_sl ([.int p0, .int p1])).length) Slot.unset).toArray = ls at hl ⊢
  have hl : lv_has ls 2 [(0, .int p0), (1, .int p1)] := hl
  show W p l e rmX11_has s m _ below meth c _ _ _ _ _ _
  refine wq (fun Q hQ => ?_)
  refine lv_iload_n hx hb dX11_has_0 rfl (lv_at hl 0 rfl) ?_
  refine lv_iload_n hx hb dX11_has_1 rfl (lv_at hl 1 rfl) ?_
  refine lv_ishr hx hb dX11_has_2 ?_
  refine lv_iconst (v := 1) hx hb dX11_has_3 (by decide) ?_
  refine lv_iand hx hb dX11_has_4 ?_
  refine lv_iconst (v := 1) hx hb dX11_has_5 (by decide) ?_
  refine lv_icmp_ne (tgt := 13) hx hb dX11_has_6 (by decide) (fun hc => ?_) (fun hc => ?_)
  · have hw := hw.1 hc
    refine lv_iconst (v := 0) hx hb dX11_has_13 (by decide) ?_
    rw [hQ]
    exact W.zret (v := 0) (ty := .boolean) hx hb hr rfl (fun t ht hW => ⟨⟨0, (), rfl, hw, by rw [ht]; exact hP, va_K.moved hW.alike hK, hD⟩, hS.F ht⟩) hS.2.2 dX11_has_14
  · have hw := hw.2 hc
    refine lv_iconst (v := 1) hx hb dX11_has_9 (by decide) ?_
    refine lv_goto (tgt := 14) hx hb dX11_has_10 (by decide) ?_
    rw [hQ]
    exact W.zret (v := 1) (ty := .boolean) hx hb hr rfl (fun t ht hW => ⟨⟨1, (), rfl, hw, by rw [ht]; exact hP, va_K.moved hW.alike hK, hD⟩, hS.F ht⟩) hS.2.2 dX11_has_14
/-! LeadParkModel.image ()V -/
abbrev ceX11_image (cyI cyB cyJ cyZ : ClassId) (a0 a1 a2 b0_before b0_taken b0_tape b0_five b0_value b0_far b0_lead b0_walk b0_ends b0_manX b0_manY b0_dogX b0_dogY b0_row b0_round b0_farOne b0_leads b0_drags b0_from b0_near : Nat) (g0_remembered : Int32) (g0_taped : Int32) (g0_point : Int32) (g0_end : Int32) (g0_begin : Int32) (g0_deep : Int32) (g0_faultAt : Int32) (g0_steps : Int32) (g0_men : Int32) (g0_dogs : Int32) (f1 : Nat → Int32) (g0_thrown : Int32) (g0_hasImage : Int32) (f2 : Nat → Int32) : va_W := [(a0, .inr (11, [.int g0_thrown, .ref a1, .ref a2, .ref b0_before, .int g0_hasImage, .ref b0_taken, .int g0_remembered, .ref b0_tape, .int g0_taped, .int g0_point, .int g0_end, .int g0_begin, .int g0_deep, .int g0_faultAt, .ref b0_five, .int g0_steps, .ref b0_value, .ref b0_far, .int g0_men, .int g0_dogs, .ref b0_lead, .ref b0_walk, .ref b0_ends, .ref b0_manX, .ref b0_manY, .ref b0_dogX, .ref b0_dogY, .ref b0_row, .ref b0_round, .ref b0_farOne, .ref b0_leads, .ref b0_drags, .ref b0_from, .ref b0_near])), (a1, .inl (cyI, 2508, .inl f1)), (a2, .inl (cyI, 1683, .inl f2))]

theorem inX11_image_X11 : ∀ w ∈ wsX110, w ∈ wsX11_image := fun _ h => List.mem_cons_of_mem _ (List.mem_append_right _ h)
abbrev rmX11_image : Room := { frames := 0, cells := 0, slots := 0, locals := 0 }
set_option maxRecDepth 100000 in
set_option maxHeartbeats 4000000 in
theorem bX11_image_7 {p : Program} {l : Launch} {e : Env} {s : State} {m : MethodId} {args : Array Value} {below : List Frame} {meth : Method} {c : Code} {dC : Nat → ClassId} {dI : Nat → Nat → Nat} {cyI cyB cyJ cyZ : ClassId} {A : Nat → Prop} {a0 a1 a2 b0_before b0_taken b0_tape b0_five b0_value b0_far b0_lead b0_walk b0_ends b0_manX b0_manY b0_dogX b0_dogY b0_row b0_round b0_farOne b0_leads b0_drags b0_from b0_near : Nat} {g0_remembered : Int32} {g0_taped : Int32} {g0_point : Int32} {g0_end : Int32} {g0_begin : Int32} {g0_deep : Int32} {g0_faultAt : Int32} {g0_steps : Int32} {g0_men : Int32} {g0_dogs : Int32} (C0 : cxM p s m meth c args wsX11_image RX11 cX11_image 2 none) (hK : va_K (dC, dI) vwCl (tyA cyI cyB cyJ cyZ) s) (hN : nwA s) (hA : ∀ q : Nat, s.heap.size ≤ q → A q) {post : (Int32 × Int32 × (Nat → Int32)) → Prop} {f1 : Nat → Int32} {Q : State → Prop} (hQ : Q = MQ below (va_Qv post (fun u : Int32 × Int32 × (Nat → Int32) => wAt dC dI cyI cyB cyJ cyZ A (ceX11_image cyI cyB cyJ cyZ a0 a1 a2 b0_before b0_taken b0_tape b0_five b0_value b0_far b0_lead b0_walk b0_ends b0_manX b0_manY b0_dogX b0_dogY b0_row b0_round b0_farOne b0_leads b0_drags b0_from b0_near g0_remembered g0_taped g0_point g0_end g0_begin g0_deep g0_faultAt g0_steps g0_men g0_dogs f1 u.1 u.2.1 u.2.2)) A) args s 0 0 A) : ∀ (n : Nat) (g0_thrown : Int32) (g0_hasImage : Int32) (f2 : Nat → Int32) (x1 : Int32), wpX11_image_7 post f1 n g0_thrown g0_hasImage f2 x1 → AtW p l e rmX11_image s m args below meth c dC dI A Q 2 0 0 (ceX11_image cyI cyB cyJ cyZ a0 a1 a2 b0_before b0_taken b0_tape b0_five b0_value b0_far b0_lead b0_walk b0_ends b0_manX b0_manY b0_dogX b0_dogY b0_row b0_round b0_farOne b0_leads b0_drags b0_from b0_near g0_remembered g0_taped g0_point g0_end g0_begin g0_deep g0_faultAt g0_steps g0_men g0_dogs f1 g0_thrown g0_hasImage f2) [(0, .ref a0), (1, .int x1)] 7 [] := by
  intro n
  induction n with
  | zero => intro g0_thrown g0_hasImage f2 x1 hw; exact False.elim hw
  | succ n ih =>
    intro g0_thrown g0_hasImage f2 x1 hw H locs hP hD hS ls hl
    have C1 := C0
    obtain ⟨hx, hb, hr, hml, hown, hts, hlocks⟩ := C1
    refine lv_iload_n hx hb dX11_image_7 rfl (lv_at hl 1 rfl) ?_
    refine lv_sipush (v := 1683) hx hb dX11_image_8 (by decide) ?_
    refine lv_icmp_ge (tgt := 32) hx hb dX11_image_11 (by decide) (fun hc => ?_) (fun hc => ?_)
    · have hw := hw.1 hc
      refine lv_aload_n hx hb dX11_image_32 rfl (lv_at hl 0 rfl) ?_
      refine lv_iconst (v := 1) hx hb dX11_image_33 (by decide) ?_
      refine va_put (D := (dC, dI)) (ci := 11) (v := .int 1) (ty := .boolean) (C := RX11) (T := TX11) (N := 34) hx hb hts inX11_image_X11 tyX11 tyX11_ok nmX11 hown hK hP hD hS 0 rfl rfl 4 (by decide) (hts (.fieldLink RX11 86 "LeadParkModel" "hasImage" "Z") (List.mem_of_getElem? (i := 4) rfl)) (fun _ h9 => h9) rfl (by decide +kernel) rfl rfl (Nat.le_of_ble_eq_true rfl) dX11_image_34 (fun H locs hP hD hS => ?_)
      have hP : va_P (dC, dI) vwCl (ceX11_image cyI cyB cyJ cyZ a0 a1 a2 b0_before b0_taken b0_tape b0_five b0_value b0_far b0_lead b0_walk b0_ends b0_manX b0_manY b0_dogX b0_dogY b0_row b0_round b0_farOne b0_leads b0_drags b0_from b0_near g0_remembered g0_taped g0_point g0_end g0_begin g0_deep g0_faultAt g0_steps g0_men g0_dogs f1 g0_thrown 1 f2) H := hP
      have hD : va_D A (ceX11_image cyI cyB cyJ cyZ a0 a1 a2 b0_before b0_taken b0_tape b0_five b0_value b0_far b0_lead b0_walk b0_ends b0_manX b0_manY b0_dogX b0_dogY b0_row b0_round b0_farOne b0_leads b0_drags b0_from b0_near g0_remembered g0_taped g0_point g0_end g0_begin g0_deep g0_faultAt g0_steps g0_men g0_dogs f1 g0_thrown 1 f2) := hD
      rw [hQ]
      exact W.vret hx hb hr (fun t ht hW => ⟨⟨(g0_thrown, 1, f2), rfl, hw, by rw [ht]; exact hP, va_K.moved hW.alike hK, hD⟩, hS.F ht⟩) hS.2.2 dX11_image_37
    · have hw := hw.2 hc
      refine lv_aload_n hx hb dX11_image_14 rfl (lv_at hl 0 rfl) ?_
      refine va_get (D := (dC, dI)) (ci := 11) (v := .ref a2) (C := RX11) (T := TX11) (N := 34) hx hb hts inX11_image_X11 hown hK hP 0 rfl rfl 2 (by decide) (hts (.fieldLink RX11 17 "LeadParkModel" "image" "[I") (List.mem_of_getElem? (i := 2) rfl)) (fun _ h9 => h9) rfl dX11_image_15 ?_
      refine lv_iload_n hx hb dX11_image_18 rfl (lv_at hl 1 rfl) ?_
      refine lv_aload_n hx hb dX11_image_19 rfl (lv_at hl 0 rfl) ?_
      refine va_get (D := (dC, dI)) (ci := 11) (v := .ref a1) (C := RX11) (T := TX11) (N := 34) hx hb hts inX11_image_X11 hown hK hP 0 rfl rfl 1 (by decide) (hts (.fieldLink RX11 13 "LeadParkModel" "world" "[I") (List.mem_of_getElem? (i := 3) rfl)) (fun _ h9 => h9) rfl dX11_image_20 ?_
      refine lv_iload_n hx hb dX11_image_23 rfl (lv_at hl 1 rfl) ?_
      obtain ⟨hi, hw⟩ := hw
      refine va_iald hx hb hK hP 1 0 rfl rfl hi dX11_image_24 ?_
      obtain ⟨hi, hw⟩ := hw
      refine va_iast hx hb hK hP hD hS 2 0 rfl rfl hi dX11_image_25 (fun H locs hP hD hS => ?_)
      have hP : va_P (dC, dI) vwCl (ceX11_image cyI cyB cyJ cyZ a0 a1 a2 b0_before b0_taken b0_tape b0_five b0_value b0_far b0_lead b0_walk b0_ends b0_manX b0_manY b0_dogX b0_dogY b0_row b0_round b0_farOne b0_leads b0_drags b0_from b0_near g0_remembered g0_taped g0_point g0_end g0_begin g0_deep g0_faultAt g0_steps g0_men g0_dogs f1 g0_thrown g0_hasImage (upd f2 x1.toNatClampNeg (f1 x1.toNatClampNeg))) H := hP
      have hD : va_D A (ceX11_image cyI cyB cyJ cyZ a0 a1 a2 b0_before b0_taken b0_tape b0_five b0_value b0_far b0_lead b0_walk b0_ends b0_manX b0_manY b0_dogX b0_dogY b0_row b0_round b0_farOne b0_leads b0_drags b0_from b0_near g0_remembered g0_taped g0_point g0_end g0_begin g0_deep g0_faultAt g0_steps g0_men g0_dogs f1 g0_thrown g0_hasImage (upd f2 x1.toNatClampNeg (f1 x1.toNatClampNeg))) := hD
      obtain ⟨v1, ev1⟩ : ∃ y : Int32, y = x1 + 1 := ⟨_, rfl⟩
      have hw := hw v1 ev1
      refine lv_iinc (v := v1) (lv' := [(1, .int v1), (0, .ref a0)]) hx hb dX11_image_26 hl (k := 1) rfl (by rw [ev1]; rfl) (by decide) rfl (fun ls hl => ?_)
      refine lv_goto (tgt := 7) hx hb dX11_image_29 (by decide) ?_
      exact ih g0_thrown g0_hasImage (upd f2 x1.toNatClampNeg (f1 x1.toNatClampNeg)) v1 hw H locs hP hD hS ls (lv_sub hl [1, 0] rfl)
set_option maxRecDepth 100000 in
set_option maxHeartbeats 4000000 in
theorem ctX11_image (l : Launch) (dC : Nat → ClassId) (dI : Nat → Nat → Nat) (cyI cyB cyJ cyZ : ClassId) (sz : Nat) (a0 a1 a2 b0_before b0_taken b0_tape b0_five b0_value b0_far b0_lead b0_walk b0_ends b0_manX b0_manY b0_dogX b0_dogY b0_row b0_round b0_farOne b0_leads b0_drags b0_from b0_near : Nat) (g0_remembered : Int32) (g0_taped : Int32) (g0_point : Int32) (g0_end : Int32) (g0_begin : Int32) (g0_deep : Int32) (g0_faultAt : Int32) (g0_steps : Int32) (g0_men : Int32) (g0_dogs : Int32) (f1 : Nat → Int32) (g0_thrown : Int32) (g0_hasImage : Int32) (f2 : Nat → Int32) (post : (Int32 × Int32 × (Nat → Int32)) → Prop) (hw : wpX11_image post f1 g0_thrown g0_hasImage f2 ) : Met l yX11_image wsX11_image rmX11_image (va_Pc [.ref a0] (wPre dC dI cyI cyB cyJ cyZ sz (ceX11_image cyI cyB cyJ cyZ a0 a1 a2 b0_before b0_taken b0_tape b0_five b0_value b0_far b0_lead b0_walk b0_ends b0_manX b0_manY b0_dogX b0_dogY b0_row b0_round b0_farOne b0_leads b0_drags b0_from b0_near g0_remembered g0_taped g0_point g0_end g0_begin g0_deep g0_faultAt g0_steps g0_men g0_dogs f1 g0_thrown g0_hasImage f2))) (va_Qv post (fun u : Int32 × Int32 × (Nat → Int32) => wAt dC dI cyI cyB cyJ cyZ (va_A (ceX11_image cyI cyB cyJ cyZ a0 a1 a2 b0_before b0_taken b0_tape b0_five b0_value b0_far b0_lead b0_walk b0_ends b0_manX b0_manY b0_dogX b0_dogY b0_row b0_round b0_farOne b0_leads b0_drags b0_from b0_near g0_remembered g0_taped g0_point g0_end g0_begin g0_deep g0_faultAt g0_steps g0_men g0_dogs f1 g0_thrown g0_hasImage f2) sz) (ceX11_image cyI cyB cyJ cyZ a0 a1 a2 b0_before b0_taken b0_tape b0_five b0_value b0_far b0_lead b0_walk b0_ends b0_manX b0_manY b0_dogX b0_dogY b0_row b0_round b0_farOne b0_leads b0_drags b0_from b0_near g0_remembered g0_taped g0_point g0_end g0_begin g0_deep g0_faultAt g0_steps g0_men g0_dogs f1 u.1 u.2.1 u.2.2)) (va_A (ceX11_image cyI cyB cyJ cyZ a0 a1 a2 b0_before b0_taken b0_tape b0_five b0_value b0_far b0_lead b0_walk b0_ends b0_manX b0_manY b0_dogX b0_dogY b0_row b0_round b0_farOne b0_leads b0_drags b0_from b0_near g0_remembered g0_taped g0_point g0_end g0_begin g0_deep g0_faultAt g0_steps g0_men g0_dogs f1 g0_thrown g0_hasImage f2) sz)) 0 0 (va_A (ceX11_image cyI cyB cyJ cyZ a0 a1 a2 b0_before b0_taken b0_tape b0_five b0_value b0_far b0_lead b0_walk b0_ends b0_manX b0_manY b0_dogX b0_dogY b0_row b0_round b0_farOne b0_leads b0_drags b0_from b0_near g0_remembered g0_taped g0_point g0_end g0_begin g0_deep g0_faultAt g0_steps g0_men g0_dogs f1 g0_thrown g0_hasImage f2) sz) := by
  refine Met.ofW (cc := cX11_image) (maxL := 2) (ret := none) (by decide) rfl ?_
  intro p e s m args below meth c s₁ B hml hv
  obtain ⟨rfl, hsz, hP, hK, hD0, hN⟩ := hv
  have hx := B.exec
  have hb := B.bytes
  have hr := B.returns
  have hts := atoms_spec (ws := wsX11_image) B.pre
  have hown : s.vm.findClass RX11 = some m.cls := findClass_of_methodNamed B.named
  have hlocks := B.notSynchronized
  subst hsz
  have hD := hD0.self (sz := s.heap.size)
  generalize hAe : va_A (ceX11_image cyI cyB cyJ cyZ a0 a1 a2 b0_before b0_taken b0_tape b0_five b0_value b0_far b0_lead b0_walk b0_ends b0_manX b0_manY b0_dogX b0_dogY b0_row b0_round b0_farOne b0_leads b0_drags b0_from b0_near g0_remembered g0_taped g0_point g0_end g0_begin g0_deep g0_faultAt g0_steps g0_men g0_dogs f1 g0_thrown g0_hasImage f2) s.heap.size = A at hD ⊢
  have hA : ∀ q : Nat, s.heap.size ≤ q → A q := fun q h => by rw [← hAe]; exact Or.inr h
  have hS : va_S A s.heap s.heap [] := va_S.rf
  have C0 : cxM p s m meth c _ wsX11_image RX11 cX11_image 2 none := ⟨hx, hb, hr, hml, hown, hts, hlocks⟩
  have hl := lv_entry ([.ref a0]) (n := 2) (Nat.le_of_ble_eq_true rfl)
  rw [lg_entry_eq]
  generalize (lg_sl ([.ref a0]) ++ List.replicate (2 - (lg_sl ([.ref a0])).length) Slot.unset).toArray = ls at hl ⊢
  have hl : lv_has ls 2 [(0, .ref a0)] := hl
  show W p l e rmX11_image s m _ below meth c _ _ _ _ _ _
  refine wq (fun Q hQ => ?_)
  refine lv_aload_n hx hb dX11_image_0 rfl (lv_at hl 0 rfl) ?_
  refine lv_iconst (v := 0) hx hb dX11_image_1 (by decide) ?_
  refine va_put (D := (dC, dI)) (ci := 11) (v := .int 0) (ty := .int) (C := RX11) (T := TX11) (N := 34) hx hb hts inX11_image_X11 tyX11 tyX11_ok nmX11 hown hK hP hD hS 0 rfl rfl 0 (by decide) (hts (.fieldLink RX11 3 "LeadParkModel" "thrown" "I") (List.mem_of_getElem? (i := 1) rfl)) (fun _ h9 => h9) rfl (by decide +kernel) rfl rfl (Nat.le_of_ble_eq_true rfl) dX11_image_2 (fun H locs hP hD hS => ?_)
  have hP : va_P (dC, dI) vwCl (ceX11_image cyI cyB cyJ cyZ a0 a1 a2 b0_before b0_taken b0_tape b0_five b0_value b0_far b0_lead b0_walk b0_ends b0_manX b0_manY b0_dogX b0_dogY b0_row b0_round b0_farOne b0_leads b0_drags b0_from b0_near g0_remembered g0_taped g0_point g0_end g0_begin g0_deep g0_faultAt g0_steps g0_men g0_dogs f1 0 g0_hasImage f2) H := hP
  have hD : va_D A (ceX11_image cyI cyB cyJ cyZ a0 a1 a2 b0_before b0_taken b0_tape b0_five b0_value b0_far b0_lead b0_walk b0_ends b0_manX b0_manY b0_dogX b0_dogY b0_row b0_round b0_farOne b0_leads b0_drags b0_from b0_near g0_remembered g0_taped g0_point g0_end g0_begin g0_deep g0_faultAt g0_steps g0_men g0_dogs f1 0 g0_hasImage f2) := hD
  refine lv_iconst (v := 0) hx hb dX11_image_5 (by decide) ?_
  refine lv_istore_n (lv' := [(1, .int 0), (0, .ref a0)]) hx hb dX11_image_6 rfl hl (by decide) rfl (fun ls hl => ?_)
  obtain ⟨nn, hw⟩ := hw
  exact bX11_image_7 C0 hK hN hA hQ nn 0 g0_hasImage f2 0 hw _ _ hP hD hS ls (lv_sub hl [1, 0] rfl)
/-! LeadParkModel.again ()Z -/
abbrev ceX11_again (cyI cyB cyJ cyZ : ClassId) (a0 a1 a2 b0_before b0_taken b0_tape b0_five b0_value b0_far b0_lead b0_walk b0_ends b0_manX b0_manY b0_dogX b0_dogY b0_row b0_round b0_farOne b0_leads b0_drags b0_from b0_near : Nat) (g0_taped : Int32) (g0_point : Int32) (g0_end : Int32) (g0_begin : Int32) (g0_deep : Int32) (g0_faultAt : Int32) (g0_steps : Int32) (g0_men : Int32) (g0_dogs : Int32) (g0_hasImage : Int32) (f1 : Nat → Int32) (g0_thrown : Int32) (g0_remembered : Int32) (f2 : Nat → Int32) : va_W := [(a0, .inr (11, [.int g0_thrown, .ref a2, .ref a1, .ref b0_before, .int g0_hasImage, .ref b0_taken, .int g0_remembered, .ref b0_tape, .int g0_taped, .int g0_point, .int g0_end, .int g0_begin, .int g0_deep, .int g0_faultAt, .ref b0_five, .int g0_steps, .ref b0_value, .ref b0_far, .int g0_men, .int g0_dogs, .ref b0_lead, .ref b0_walk, .ref b0_ends, .ref b0_manX, .ref b0_manY, .ref b0_dogX, .ref b0_dogY, .ref b0_row, .ref b0_round, .ref b0_farOne, .ref b0_leads, .ref b0_drags, .ref b0_from, .ref b0_near])), (a1, .inl (cyI, 1683, .inl f1)), (a2, .inl (cyI, 2508, .inl f2))]

theorem inX11_again_X11 : ∀ w ∈ wsX110, w ∈ wsX11_again := fun _ h => List.mem_cons_of_mem _ (List.mem_append_right _ h)
abbrev rmX11_again : Room := { frames := 0, cells := 0, slots := 0, locals := 0 }
set_option maxRecDepth 100000 in
set_option maxHeartbeats 4000000 in
theorem bX11_again_16 {p : Program} {l : Launch} {e : Env} {s : State} {m : MethodId} {args : Array Value} {below : List Frame} {meth : Method} {c : Code} {dC : Nat → ClassId} {dI : Nat → Nat → Nat} {cyI cyB cyJ cyZ : ClassId} {A : Nat → Prop} {a0 a1 a2 b0_before b0_taken b0_tape b0_five b0_value b0_far b0_lead b0_walk b0_ends b0_manX b0_manY b0_dogX b0_dogY b0_row b0_round b0_farOne b0_leads b0_drags b0_from b0_near : Nat} {g0_taped : Int32} {g0_point : Int32} {g0_end : Int32} {g0_begin : Int32} {g0_deep : Int32} {g0_faultAt : Int32} {g0_steps : Int32} {g0_men : Int32} {g0_dogs : Int32} (C0 : cxM p s m meth c args wsX11_again RX11 cX11_again 2 (some .boolean)) (hK : va_K (dC, dI) vwCl (tyA cyI cyB cyJ cyZ) s) (hN : nwA s) (hA : ∀ q : Nat, s.heap.size ≤ q → A q) {post : Int32 → (Int32 × Int32 × (Nat → Int32)) → Prop} {g0_hasImage : Int32} {f1 : Nat → Int32} {Q : State → Prop} (hQ : Q = MQ below (va_Qi post (fun u : Int32 × Int32 × (Nat → Int32) => wAt dC dI cyI cyB cyJ cyZ A (ceX11_again cyI cyB cyJ cyZ a0 a1 a2 b0_before b0_taken b0_tape b0_five b0_value b0_far b0_lead b0_walk b0_ends b0_manX b0_manY b0_dogX b0_dogY b0_row b0_round b0_farOne b0_leads b0_drags b0_from b0_near g0_taped g0_point g0_end g0_begin g0_deep g0_faultAt g0_steps g0_men g0_dogs g0_hasImage f1 u.1 u.2.1 u.2.2)) A) args s 0 0 A) : ∀ (n : Nat) (g0_thrown : Int32) (g0_remembered : Int32) (f2 : Nat → Int32) (x1 : Int32), wpX11_again_16 post g0_hasImage f1 n g0_thrown g0_remembered f2 x1 → AtW p l e rmX11_again s m args below meth c dC dI A Q 2 0 0 (ceX11_again cyI cyB cyJ cyZ a0 a1 a2 b0_before b0_taken b0_tape b0_five b0_value b0_far b0_lead b0_walk b0_ends b0_manX b0_manY b0_dogX b0_dogY b0_row b0_round b0_farOne b0_leads b0_drags b0_from b0_near g0_taped g0_point g0_end g0_begin g0_deep g0_faultAt g0_steps g0_men g0_dogs g0_hasImage f1 g0_thrown g0_remembered f2) [(0, .ref a0), (1, .int x1)] 16 [] := by
  intro n
  induction n with
  | zero => intro g0_thrown g0_remembered f2 x1 hw; exact False.elim hw
  | succ n ih =>
    intro g0_thrown g0_remembered f2 x1 hw H locs hP hD hS ls hl
    have C1 := C0
    obtain ⟨hx, hb, hr, hml, hown, hts, hlocks⟩ := C1
    refine lv_iload_n hx hb dX11_again_16 rfl (lv_at hl 1 rfl) ?_
    refine lv_sipush (v := 1683) hx hb dX11_again_17 (by decide) ?_
    refine lv_icmp_ge (tgt := 41) hx hb dX11_again_20 (by decide) (fun hc => ?_) (fun hc => ?_)
    · have hw := hw.1 hc
      refine lv_aload_n hx hb dX11_again_41 rfl (lv_at hl 0 rfl) ?_
      refine lv_iconst (v := 0) hx hb dX11_again_42 (by decide) ?_
      refine va_put (D := (dC, dI)) (ci := 11) (v := .int 0) (ty := .int) (C := RX11) (T := TX11) (N := 34) hx hb hts inX11_again_X11 tyX11 tyX11_ok nmX11 hown hK hP hD hS 0 rfl rfl 6 (by decide) (hts (.fieldLink RX11 90 "LeadParkModel" "remembered" "I") (List.mem_of_getElem? (i := 5) rfl)) (fun _ h9 => h9) rfl (by decide +kernel) rfl rfl (Nat.le_of_ble_eq_true rfl) dX11_again_43 (fun H locs hP hD hS => ?_)
      have hP : va_P (dC, dI) vwCl (ceX11_again cyI cyB cyJ cyZ a0 a1 a2 b0_before b0_taken b0_tape b0_five b0_value b0_far b0_lead b0_walk b0_ends b0_manX b0_manY b0_dogX b0_dogY b0_row b0_round b0_farOne b0_leads b0_drags b0_from b0_near g0_taped g0_point g0_end g0_begin g0_deep g0_faultAt g0_steps g0_men g0_dogs g0_hasImage f1 g0_thrown 0 f2) H := hP
      have hD : va_D A (ceX11_again cyI cyB cyJ cyZ a0 a1 a2 b0_before b0_taken b0_tape b0_five b0_value b0_far b0_lead b0_walk b0_ends b0_manX b0_manY b0_dogX b0_dogY b0_row b0_round b0_farOne b0_leads b0_drags b0_from b0_near g0_taped g0_point g0_end g0_begin g0_deep g0_faultAt g0_steps g0_men g0_dogs g0_hasImage f1 g0_thrown 0 f2) := hD
      refine lv_iconst (v := 1) hx hb dX11_again_46 (by decide) ?_
      rw [hQ]
      exact W.zret (v := 1) (ty := .boolean) hx hb hr rfl (fun t ht hW => ⟨⟨1, (g0_thrown, 0, f2), rfl, hw, by rw [ht]; exact hP, va_K.moved hW.alike hK, hD⟩, hS.F ht⟩) hS.2.2 dX11_again_47
    · have hw := hw.2 hc
      refine lv_aload_n hx hb dX11_again_23 rfl (lv_at hl 0 rfl) ?_
      refine va_get (D := (dC, dI)) (ci := 11) (v := .ref a2) (C := RX11) (T := TX11) (N := 34) hx hb hts inX11_again_X11 hown hK hP 0 rfl rfl 1 (by decide) (hts (.fieldLink RX11 13 "LeadParkModel" "world" "[I") (List.mem_of_getElem? (i := 3) rfl)) (fun _ h9 => h9) rfl dX11_again_24 ?_
      refine lv_iload_n hx hb dX11_again_27 rfl (lv_at hl 1 rfl) ?_
      refine lv_aload_n hx hb dX11_again_28 rfl (lv_at hl 0 rfl) ?_
      refine va_get (D := (dC, dI)) (ci := 11) (v := .ref a1) (C := RX11) (T := TX11) (N := 34) hx hb hts inX11_again_X11 hown hK hP 0 rfl rfl 2 (by decide) (hts (.fieldLink RX11 17 "LeadParkModel" "image" "[I") (List.mem_of_getElem? (i := 4) rfl)) (fun _ h9 => h9) rfl dX11_again_29 ?_
      refine lv_iload_n hx hb dX11_again_32 rfl (lv_at hl 1 rfl) ?_
      obtain ⟨hi, hw⟩ := hw
      refine va_iald hx hb hK hP 1 0 rfl rfl hi dX11_again_33 ?_
      obtain ⟨hi, hw⟩ := hw
      refine va_iast hx hb hK hP hD hS 2 0 rfl rfl hi dX11_again_34 (fun H locs hP hD hS => ?_)
      have hP : va_P (dC, dI) vwCl (ceX11_again cyI cyB cyJ cyZ a0 a1 a2 b0_before b0_taken b0_tape b0_five b0_value b0_far b0_lead b0_walk b0_ends b0_manX b0_manY b0_dogX b0_dogY b0_row b0_round b0_farOne b0_leads b0_drags b0_from b0_near g0_taped g0_point g0_end g0_begin g0_deep g0_faultAt g0_steps g0_men g0_dogs g0_hasImage f1 g0_thrown g0_remembered (upd f2 x1.toNatClampNeg (f1 x1.toNatClampNeg))) H := hP
      have hD : va_D A (ceX11_again cyI cyB cyJ cyZ a0 a1 a2 b0_before b0_taken b0_tape b0_five b0_value b0_far b0_lead b0_walk b0_ends b0_manX b0_manY b0_dogX b0_dogY b0_row b0_round b0_farOne b0_leads b0_drags b0_from b0_near g0_taped g0_point g0_end g0_begin g0_deep g0_faultAt g0_steps g0_men g0_dogs g0_hasImage f1 g0_thrown g0_remembered (upd f2 x1.toNatClampNeg (f1 x1.toNatClampNeg))) := hD
      obtain ⟨v1, ev1⟩ : ∃ y : Int32, y = x1 + 1 := ⟨_, rfl⟩
      have hw := hw v1 ev1
      refine lv_iinc (v := v1) (lv' := [(1, .int v1), (0, .ref a0)]) hx hb dX11_again_35 hl (k := 1) rfl (by rw [ev1]; rfl) (by decide) rfl (fun ls hl => ?_)
      refine lv_goto (tgt := 16) hx hb dX11_again_38 (by decide) ?_
      exact ih g0_thrown g0_remembered (upd f2 x1.toNatClampNeg (f1 x1.toNatClampNeg)) v1 hw H locs hP hD hS ls (lv_sub hl [1, 0] rfl)
set_option maxRecDepth 100000 in
set_option maxHeartbeats 4000000 in
theorem ctX11_again (l : Launch) (dC : Nat → ClassId) (dI : Nat → Nat → Nat) (cyI cyB cyJ cyZ : ClassId) (sz : Nat) (a0 a1 a2 b0_before b0_taken b0_tape b0_five b0_value b0_far b0_lead b0_walk b0_ends b0_manX b0_manY b0_dogX b0_dogY b0_row b0_round b0_farOne b0_leads b0_drags b0_from b0_near : Nat) (g0_taped : Int32) (g0_point : Int32) (g0_end : Int32) (g0_begin : Int32) (g0_deep : Int32) (g0_faultAt : Int32) (g0_steps : Int32) (g0_men : Int32) (g0_dogs : Int32) (g0_hasImage : Int32) (f1 : Nat → Int32) (g0_thrown : Int32) (g0_remembered : Int32) (f2 : Nat → Int32) (post : Int32 → (Int32 × Int32 × (Nat → Int32)) → Prop) (hw : wpX11_again post g0_hasImage f1 g0_thrown g0_remembered f2 ) : Met l yX11_again wsX11_again rmX11_again (va_Pc [.ref a0] (wPre dC dI cyI cyB cyJ cyZ sz (ceX11_again cyI cyB cyJ cyZ a0 a1 a2 b0_before b0_taken b0_tape b0_five b0_value b0_far b0_lead b0_walk b0_ends b0_manX b0_manY b0_dogX b0_dogY b0_row b0_round b0_farOne b0_leads b0_drags b0_from b0_near g0_taped g0_point g0_end g0_begin g0_deep g0_faultAt g0_steps g0_men g0_dogs g0_hasImage f1 g0_thrown g0_remembered f2))) (va_Qi post (fun u : Int32 × Int32 × (Nat → Int32) => wAt dC dI cyI cyB cyJ cyZ (va_A (ceX11_again cyI cyB cyJ cyZ a0 a1 a2 b0_before b0_taken b0_tape b0_five b0_value b0_far b0_lead b0_walk b0_ends b0_manX b0_manY b0_dogX b0_dogY b0_row b0_round b0_farOne b0_leads b0_drags b0_from b0_near g0_taped g0_point g0_end g0_begin g0_deep g0_faultAt g0_steps g0_men g0_dogs g0_hasImage f1 g0_thrown g0_remembered f2) sz) (ceX11_again cyI cyB cyJ cyZ a0 a1 a2 b0_before b0_taken b0_tape b0_five b0_value b0_far b0_lead b0_walk b0_ends b0_manX b0_manY b0_dogX b0_dogY b0_row b0_round b0_farOne b0_leads b0_drags b0_from b0_near g0_taped g0_point g0_end g0_begin g0_deep g0_faultAt g0_steps g0_men g0_dogs g0_hasImage f1 u.1 u.2.1 u.2.2)) (va_A (ceX11_again cyI cyB cyJ cyZ a0 a1 a2 b0_before b0_taken b0_tape b0_five b0_value b0_far b0_lead b0_walk b0_ends b0_manX b0_manY b0_dogX b0_dogY b0_row b0_round b0_farOne b0_leads b0_drags b0_from b0_near g0_taped g0_point g0_end g0_begin g0_deep g0_faultAt g0_steps g0_men g0_dogs g0_hasImage f1 g0_thrown g0_remembered f2) sz)) 0 0 (va_A (ceX11_again cyI cyB cyJ cyZ a0 a1 a2 b0_before b0_taken b0_tape b0_five b0_value b0_far b0_lead b0_walk b0_ends b0_manX b0_manY b0_dogX b0_dogY b0_row b0_round b0_farOne b0_leads b0_drags b0_from b0_near g0_taped g0_point g0_end g0_begin g0_deep g0_faultAt g0_steps g0_men g0_dogs g0_hasImage f1 g0_thrown g0_remembered f2) sz) := by
  refine Met.ofW (cc := cX11_again) (maxL := 2) (ret := (some .boolean)) (by decide) rfl ?_
  intro p e s m args below meth c s₁ B hml hv
  obtain ⟨rfl, hsz, hP, hK, hD0, hN⟩ := hv
  have hx := B.exec
  have hb := B.bytes
  have hr := B.returns
  have hts := atoms_spec (ws := wsX11_again) B.pre
  have hown : s.vm.findClass RX11 = some m.cls := findClass_of_methodNamed B.named
  have hlocks := B.notSynchronized
  subst hsz
  have hD := hD0.self (sz := s.heap.size)
  generalize hAe : va_A (ceX11_again cyI cyB cyJ cyZ a0 a1 a2 b0_before b0_taken b0_tape b0_five b0_value b0_far b0_lead b0_walk b0_ends b0_manX b0_manY b0_dogX b0_dogY b0_row b0_round b0_farOne b0_leads b0_drags b0_from b0_near g0_taped g0_point g0_end g0_begin g0_deep g0_faultAt g0_steps g0_men g0_dogs g0_hasImage f1 g0_thrown g0_remembered f2) s.heap.size = A at hD ⊢
  have hA : ∀ q : Nat, s.heap.size ≤ q → A q := fun q h => by rw [← hAe]; exact Or.inr h
  have hS : va_S A s.heap s.heap [] := va_S.rf
  have C0 : cxM p s m meth c _ wsX11_again RX11 cX11_again 2 (some .boolean) := ⟨hx, hb, hr, hml, hown, hts, hlocks⟩
  have hl := lv_entry ([.ref a0]) (n := 2) (Nat.le_of_ble_eq_true rfl)
  rw [lg_entry_eq]
  generalize (lg_sl ([.ref a0]) ++ List.replicate (2 - (lg_sl ([.ref a0])).length) Slot.unset).toArray = ls at hl ⊢
  have hl : lv_has ls 2 [(0, .ref a0)] := hl
  show W p l e rmX11_again s m _ below meth c _ _ _ _ _ _
  refine wq (fun Q hQ => ?_)
  refine lv_aload_n hx hb dX11_again_0 rfl (lv_at hl 0 rfl) ?_
  refine lv_iconst (v := 0) hx hb dX11_again_1 (by decide) ?_
  refine va_put (D := (dC, dI)) (ci := 11) (v := .int 0) (ty := .int) (C := RX11) (T := TX11) (N := 34) hx hb hts inX11_again_X11 tyX11 tyX11_ok nmX11 hown hK hP hD hS 0 rfl rfl 0 (by decide) (hts (.fieldLink RX11 3 "LeadParkModel" "thrown" "I") (List.mem_of_getElem? (i := 1) rfl)) (fun _ h9 => h9) rfl (by decide +kernel) rfl rfl (Nat.le_of_ble_eq_true rfl) dX11_again_2 (fun H locs hP hD hS => ?_)
  have hP : va_P (dC, dI) vwCl (ceX11_again cyI cyB cyJ cyZ a0 a1 a2 b0_before b0_taken b0_tape b0_five b0_value b0_far b0_lead b0_walk b0_ends b0_manX b0_manY b0_dogX b0_dogY b0_row b0_round b0_farOne b0_leads b0_drags b0_from b0_near g0_taped g0_point g0_end g0_begin g0_deep g0_faultAt g0_steps g0_men g0_dogs g0_hasImage f1 0 g0_remembered f2) H := hP
  have hD : va_D A (ceX11_again cyI cyB cyJ cyZ a0 a1 a2 b0_before b0_taken b0_tape b0_five b0_value b0_far b0_lead b0_walk b0_ends b0_manX b0_manY b0_dogX b0_dogY b0_row b0_round b0_farOne b0_leads b0_drags b0_from b0_near g0_taped g0_point g0_end g0_begin g0_deep g0_faultAt g0_steps g0_men g0_dogs g0_hasImage f1 0 g0_remembered f2) := hD
  refine lv_aload_n hx hb dX11_again_5 rfl (lv_at hl 0 rfl) ?_
  refine va_get (D := (dC, dI)) (ci := 11) (v := .int g0_hasImage) (C := RX11) (T := TX11) (N := 34) hx hb hts inX11_again_X11 hown hK hP 0 rfl rfl 4 (by decide) (hts (.fieldLink RX11 86 "LeadParkModel" "hasImage" "Z") (List.mem_of_getElem? (i := 2) rfl)) (fun _ h9 => h9) rfl dX11_again_6 ?_
  refine lv_if_ne (tgt := 14) hx hb dX11_again_9 (by decide) (fun hc => ?_) (fun hc => ?_)
  · have hw := hw.1 hc
    refine lv_iconst (v := 0) hx hb dX11_again_14 (by decide) ?_
    refine lv_istore_n (lv' := [(1, .int 0), (0, .ref a0)]) hx hb dX11_again_15 rfl hl (by decide) rfl (fun ls hl => ?_)
    obtain ⟨nn, hw⟩ := hw
    exact bX11_again_16 C0 hK hN hA hQ nn 0 g0_remembered f2 0 hw _ _ hP hD hS ls (lv_sub hl [1, 0] rfl)
  · have hw := hw.2 hc
    refine lv_iconst (v := 0) hx hb dX11_again_12 (by decide) ?_
    rw [hQ]
    exact W.zret (v := 0) (ty := .boolean) hx hb hr rfl (fun t ht hW => ⟨⟨0, (0, g0_remembered, f2), rfl, hw, by rw [ht]; exact hP, va_K.moved hW.alike hK, hD⟩, hS.F ht⟩) hS.2.2 dX11_again_13
/-! LeadParkModel.ways ()I -/
abbrev ceX11_ways (cyI cyB cyJ cyZ : ClassId) (a0 a1 b0_image b0_before b0_taken b0_tape b0_five b0_value b0_far b0_lead b0_walk b0_ends b0_manX b0_manY b0_dogX b0_dogY b0_row b0_round b0_farOne b0_leads b0_drags b0_from b0_near : Nat) (g0_thrown : Int32) (g0_hasImage : Int32) (g0_remembered : Int32) (g0_taped : Int32) (g0_point : Int32) (g0_end : Int32) (g0_begin : Int32) (g0_deep : Int32) (g0_faultAt : Int32) (g0_steps : Int32) (g0_men : Int32) (g0_dogs : Int32) (f1 : Nat → Int32) : va_W := [(a0, .inr (11, [.int g0_thrown, .ref a1, .ref b0_image, .ref b0_before, .int g0_hasImage, .ref b0_taken, .int g0_remembered, .ref b0_tape, .int g0_taped, .int g0_point, .int g0_end, .int g0_begin, .int g0_deep, .int g0_faultAt, .ref b0_five, .int g0_steps, .ref b0_value, .ref b0_far, .int g0_men, .int g0_dogs, .ref b0_lead, .ref b0_walk, .ref b0_ends, .ref b0_manX, .ref b0_manY, .ref b0_dogX, .ref b0_dogY, .ref b0_row, .ref b0_round, .ref b0_farOne, .ref b0_leads, .ref b0_drags, .ref b0_from, .ref b0_near])), (a1, .inl (cyI, 2508, .inl f1))]

theorem inX11_ways_X11 : ∀ w ∈ wsX110, w ∈ wsX11_ways := fun _ h => List.mem_cons_of_mem _ (List.mem_append_right _ h)
abbrev rmX11_ways : Room := { frames := 0, cells := 0, slots := 0, locals := 0 }
set_option maxRecDepth 100000 in
set_option maxHeartbeats 4000000 in
theorem ctX11_ways (l : Launch) (dC : Nat → ClassId) (dI : Nat → Nat → Nat) (cyI cyB cyJ cyZ : ClassId) (sz : Nat) (a0 a1 b0_image b0_before b0_taken b0_tape b0_five b0_value b0_far b0_lead b0_walk b0_ends b0_manX b0_manY b0_dogX b0_dogY b0_row b0_round b0_farOne b0_leads b0_drags b0_from b0_near : Nat) (g0_thrown : Int32) (g0_hasImage : Int32) (g0_remembered : Int32) (g0_taped : Int32) (g0_point : Int32) (g0_end : Int32) (g0_begin : Int32) (g0_deep : Int32) (g0_faultAt : Int32) (g0_steps : Int32) (g0_men : Int32) (g0_dogs : Int32) (f1 : Nat → Int32) (post : Int32 → Unit → Prop) (hw : wpX11_ways post f1 ) : Met l yX11_ways wsX11_ways rmX11_ways (va_Pc [.ref a0] (wPre dC dI cyI cyB cyJ cyZ sz (ceX11_ways cyI cyB cyJ cyZ a0 a1 b0_image b0_before b0_taken b0_tape b0_five b0_value b0_far b0_lead b0_walk b0_ends b0_manX b0_manY b0_dogX b0_dogY b0_row b0_round b0_farOne b0_leads b0_drags b0_from b0_near g0_thrown g0_hasImage g0_remembered g0_taped g0_point g0_end g0_begin g0_deep g0_faultAt g0_steps g0_men g0_dogs f1))) (va_Qi post (fun u : Unit => wAt dC dI cyI cyB cyJ cyZ (va_A (ceX11_ways cyI cyB cyJ cyZ a0 a1 b0_image b0_before b0_taken b0_tape b0_five b0_value b0_far b0_lead b0_walk b0_ends b0_manX b0_manY b0_dogX b0_dogY b0_row b0_round b0_farOne b0_leads b0_drags b0_from b0_near g0_thrown g0_hasImage g0_remembered g0_taped g0_point g0_end g0_begin g0_deep g0_faultAt g0_steps g0_men g0_dogs f1) sz) (ceX11_ways cyI cyB cyJ cyZ a0 a1 b0_image b0_before b0_taken b0_tape b0_five b0_value b0_far b0_lead b0_walk b0_ends b0_manX b0_manY b0_dogX b0_dogY b0_row b0_round b0_farOne b0_leads b0_drags b0_from b0_near g0_thrown g0_hasImage g0_remembered g0_taped g0_point g0_end g0_begin g0_deep g0_faultAt g0_steps g0_men g0_dogs f1)) (va_A (ceX11_ways cyI cyB cyJ cyZ a0 a1 b0_image b0_before b0_taken b0_tape b0_five b0_value b0_far b0_lead b0_walk b0_ends b0_manX b0_manY b0_dogX b0_dogY b0_row b0_round b0_farOne b0_leads b0_drags b0_from b0_near g0_thrown g0_hasImage g0_remembered g0_taped g0_point g0_end g0_begin g0_deep g0_faultAt g0_steps g0_men g0_dogs f1) sz)) 0 0 (va_A (ceX11_ways cyI cyB cyJ cyZ a0 a1 b0_image b0_before b0_taken b0_tape b0_five b0_value b0_far b0_lead b0_walk b0_ends b0_manX b0_manY b0_dogX b0_dogY b0_row b0_round b0_farOne b0_leads b0_drags b0_from b0_near g0_thrown g0_hasImage g0_remembered g0_taped g0_point g0_end g0_begin g0_deep g0_faultAt g0_steps g0_men g0_dogs f1) sz) := by
  refine Met.ofW (cc := cX11_ways) (maxL := 1) (ret := (some .int)) (by decide) rfl ?_
  intro p e s m args below meth c s₁ B hml hv
  obtain ⟨rfl, hsz, hP, hK, hD0, hN⟩ := hv
  have hx := B.exec
  have hb := B.bytes
  have hr := B.returns
  have hts := atoms_spec (ws := wsX11_ways) B.pre
  have hown : s.vm.findClass RX11 = some m.cls := findClass_of_methodNamed B.named
  have hlocks := B.notSynchronized
  subst hsz
  have hD := hD0.self (sz := s.heap.size)
  generalize hAe : va_A (ceX11_ways cyI cyB cyJ cyZ a0 a1 b0_image b0_before b0_taken b0_tape b0_five b0_value b0_far b0_lead b0_walk b0_ends b0_manX b0_manY b0_dogX b0_dogY b0_row b0_round b0_farOne b0_leads b0_drags b0_from b0_near g0_thrown g0_hasImage g0_remembered g0_taped g0_point g0_end g0_begin g0_deep g0_faultAt g0_steps g0_men g0_dogs f1) s.heap.size = A at hD ⊢
  have hA : ∀ q : Nat, s.heap.size ≤ q → A q := fun q h => by rw [← hAe]; exact Or.inr h
  have hS : va_S A s.heap s.heap [] := va_S.rf
  have C0 : cxM p s m meth c _ wsX11_ways RX11 cX11_ways 1 (some .int) := ⟨hx, hb, hr, hml, hown, hts, hlocks⟩
  have hl := lv_entry ([.ref a0]) (n := 1) (Nat.le_of_ble_eq_true rfl)
  rw [lg_entry_eq]
  generalize (lg_sl ([.ref a0]) ++ List.replicate (1 - (lg_sl ([.ref a0])).length) Slot.unset).toArray = ls at hl ⊢
  have hl : lv_has ls 1 [(0, .ref a0)] := hl
  show W p l e rmX11_ways s m _ below meth c _ _ _ _ _ _
  refine wq (fun Q hQ => ?_)
  refine lv_aload_n hx hb dX11_ways_0 rfl (lv_at hl 0 rfl) ?_
  refine va_get (D := (dC, dI)) (ci := 11) (v := .ref a1) (C := RX11) (T := TX11) (N := 34) hx hb hts inX11_ways_X11 hown hK hP 0 rfl rfl 1 (by decide) (hts (.fieldLink RX11 13 "LeadParkModel" "world" "[I") (List.mem_of_getElem? (i := 1) rfl)) (fun _ h9 => h9) rfl dX11_ways_1 ?_
  refine lv_iconst (v := 0) hx hb dX11_ways_4 (by decide) ?_
  obtain ⟨hi, hw⟩ := hw
  refine va_iald hx hb hK hP 1 0 rfl rfl hi dX11_ways_5 ?_
  rw [hQ]
  exact W.iret (v := f1 (0 : Int32).toNatClampNeg) hx hb hr (fun t ht hW => ⟨⟨f1 (0 : Int32).toNatClampNeg, (), rfl, hw, by rw [ht]; exact hP, va_K.moved hW.alike hK, hD⟩, hS.F ht⟩) hS.2.2 dX11_ways_6
/-! LeadParkModel.cornersOf (I)I -/
abbrev ceX11_cornersOf (cyI cyB cyJ cyZ : ClassId) (a0 a1 b0_image b0_before b0_taken b0_tape b0_five b0_value b0_far b0_lead b0_walk b0_ends b0_manX b0_manY b0_dogX b0_dogY b0_row b0_round b0_farOne b0_leads b0_drags b0_from b0_near : Nat) (g0_thrown : Int32) (g0_hasImage : Int32) (g0_remembered : Int32) (g0_taped : Int32) (g0_point : Int32) (g0_end : Int32) (g0_begin : Int32) (g0_deep : Int32) (g0_faultAt : Int32) (g0_steps : Int32) (g0_men : Int32) (g0_dogs : Int32) (f1 : Nat → Int32) : va_W := [(a0, .inr (11, [.int g0_thrown, .ref a1, .ref b0_image, .ref b0_before, .int g0_hasImage, .ref b0_taken, .int g0_remembered, .ref b0_tape, .int g0_taped, .int g0_point, .int g0_end, .int g0_begin, .int g0_deep, .int g0_faultAt, .ref b0_five, .int g0_steps, .ref b0_value, .ref b0_far, .int g0_men, .int g0_dogs, .ref b0_lead, .ref b0_walk, .ref b0_ends, .ref b0_manX, .ref b0_manY, .ref b0_dogX, .ref b0_dogY, .ref b0_row, .ref b0_round, .ref b0_farOne, .ref b0_leads, .ref b0_drags, .ref b0_from, .ref b0_near])), (a1, .inl (cyI, 2508, .inl f1))]

theorem inX11_cornersOf_X11 : ∀ w ∈ wsX110, w ∈ wsX11_cornersOf := fun _ h => List.mem_cons_of_mem _ (List.mem_append_right _ h)
abbrev rmX11_cornersOf : Room := { frames := 0, cells := 0, slots := 0, locals := 0 }
set_option maxRecDepth 100000 in
set_option maxHeartbeats 4000000 in
theorem ctX11_cornersOf (l : Launch) (dC : Nat → ClassId) (dI : Nat → Nat → Nat) (cyI cyB cyJ cyZ : ClassId) (sz : Nat) (a0 a1 b0_image b0_before b0_taken b0_tape b0_five b0_value b0_far b0_lead b0_walk b0_ends b0_manX b0_manY b0_dogX b0_dogY b0_row b0_round b0_farOne b0_leads b0_drags b0_from b0_near : Nat) (g0_thrown : Int32) (g0_hasImage : Int32) (g0_remembered : Int32) (g0_taped : Int32) (g0_point : Int32) (g0_end : Int32) (g0_begin : Int32) (g0_deep : Int32) (g0_faultAt : Int32) (g0_steps : Int32) (g0_men : Int32) (g0_dogs : Int32) (f1 : Nat → Int32) (p0 : Int32) (post : Int32 → Unit → Prop) (hw : wpX11_cornersOf post f1 p0) : Met l yX11_cornersOf wsX11_cornersOf rmX11_cornersOf (va_Pc [.ref a0, .int p0] (wPre dC dI cyI cyB cyJ cyZ sz (ceX11_cornersOf cyI cyB cyJ cyZ a0 a1 b0_image b0_before b0_taken b0_tape b0_five b0_value b0_far b0_lead b0_walk b0_ends b0_manX b0_manY b0_dogX b0_dogY b0_row b0_round b0_farOne b0_leads b0_drags b0_from b0_near g0_thrown g0_hasImage g0_remembered g0_taped g0_point g0_end g0_begin g0_deep g0_faultAt g0_steps g0_men g0_dogs f1))) (va_Qi post (fun u : Unit => wAt dC dI cyI cyB cyJ cyZ (va_A (ceX11_cornersOf cyI cyB cyJ cyZ a0 a1 b0_image b0_before b0_taken b0_tape b0_five b0_value b0_far b0_lead b0_walk b0_ends b0_manX b0_manY b0_dogX b0_dogY b0_row b0_round b0_farOne b0_leads b0_drags b0_from b0_near g0_thrown g0_hasImage g0_remembered g0_taped g0_point g0_end g0_begin g0_deep g0_faultAt g0_steps g0_men g0_dogs f1) sz) (ceX11_cornersOf cyI cyB cyJ cyZ a0 a1 b0_image b0_before b0_taken b0_tape b0_five b0_value b0_far b0_lead b0_walk b0_ends b0_manX b0_manY b0_dogX b0_dogY b0_row b0_round b0_farOne b0_leads b0_drags b0_from b0_near g0_thrown g0_hasImage g0_remembered g0_taped g0_point g0_end g0_begin g0_deep g0_faultAt g0_steps g0_men g0_dogs f1)) (va_A (ceX11_cornersOf cyI cyB cyJ cyZ a0 a1 b0_image b0_before b0_taken b0_tape b0_five b0_value b0_far b0_lead b0_walk b0_ends b0_manX b0_manY b0_dogX b0_dogY b0_row b0_round b0_farOne b0_leads b0_drags b0_from b0_near g0_thrown g0_hasImage g0_remembered g0_taped g0_point g0_end g0_begin g0_deep g0_faultAt g0_steps g0_men g0_dogs f1) sz)) 0 0 (va_A (ceX11_cornersOf cyI cyB cyJ cyZ a0 a1 b0_image b0_before b0_taken b0_tape b0_five b0_value b0_far b0_lead b0_walk b0_ends b0_manX b0_manY b0_dogX b0_dogY b0_row b0_round b0_farOne b0_leads b0_drags b0_from b0_near g0_thrown g0_hasImage g0_remembered g0_taped g0_point g0_end g0_begin g0_deep g0_faultAt g0_steps g0_men g0_dogs f1) sz) := by
  refine Met.ofW (cc := cX11_cornersOf) (maxL := 2) (ret := (some .int)) (by decide) rfl ?_
  intro p e s m args below meth c s₁ B hml hv
  obtain ⟨rfl, hsz, hP, hK, hD0, hN⟩ := hv
  have hx := B.exec
  have hb := B.bytes
  have hr := B.returns
  have hts := atoms_spec (ws := wsX11_cornersOf) B.pre
  have hown : s.vm.findClass RX11 = some m.cls := findClass_of_methodNamed B.named
  have hlocks := B.notSynchronized
  subst hsz
  have hD := hD0.self (sz := s.heap.size)
  generalize hAe : va_A (ceX11_cornersOf cyI cyB cyJ cyZ a0 a1 b0_image b0_before b0_taken b0_tape b0_five b0_value b0_far b0_lead b0_walk b0_ends b0_manX b0_manY b0_dogX b0_dogY b0_row b0_round b0_farOne b0_leads b0_drags b0_from b0_near g0_thrown g0_hasImage g0_remembered g0_taped g0_point g0_end g0_begin g0_deep g0_faultAt g0_steps g0_men g0_dogs f1) s.heap.size = A at hD ⊢
  have hA : ∀ q : Nat, s.heap.size ≤ q → A q := fun q h => by rw [← hAe]; exact Or.inr h
  have hS : va_S A s.heap s.heap [] := va_S.rf
  have C0 : cxM p s m meth c _ wsX11_cornersOf RX11 cX11_cornersOf 2 (some .int) := ⟨hx, hb, hr, hml, hown, hts, hlocks⟩
  have hl := lv_entry ([.ref a0, .int p0]) (n := 2) (Nat.le_of_ble_eq_true rfl)
  rw [lg_entry_eq]
  generalize (lg_sl ([.ref a0, .int p0]) ++ List.replicate (2 - (lg_sl ([.ref a0, .int p0])).length) Slot.unset).toArray = ls at hl ⊢
  have hl : lv_has ls 2 [(0, .ref a0), (1, .int p0)] := hl
  show W p l e rmX11_cornersOf s m _ below meth c _ _ _ _ _ _
  refine wq (fun Q hQ => ?_)
  refine lv_aload_n hx hb dX11_cornersOf_0 rfl (lv_at hl 0 rfl) ?_
  refine va_get (D := (dC, dI)) (ci := 11) (v := .ref a1) (C := RX11) (T := TX11) (N := 34) hx hb hts inX11_cornersOf_X11 hown hK hP 0 rfl rfl 1 (by decide) (hts (.fieldLink RX11 13 "LeadParkModel" "world" "[I") (List.mem_of_getElem? (i := 1) rfl)) (fun _ h9 => h9) rfl dX11_cornersOf_1 ?_
  refine lv_bipush (v := 14) hx hb dX11_cornersOf_4 (by decide) ?_
  refine lv_bipush (v := 61) hx hb dX11_cornersOf_6 (by decide) ?_
  refine lv_iload_n hx hb dX11_cornersOf_8 rfl (lv_at hl 1 rfl) ?_
  refine lv_imul hx hb dX11_cornersOf_9 ?_
  refine lv_iadd hx hb dX11_cornersOf_10 ?_
  obtain ⟨hi, hw⟩ := hw
  refine va_iald hx hb hK hP 1 0 rfl rfl hi dX11_cornersOf_11 ?_
  rw [hQ]
  exact W.iret (v := f1 (14 + (61 * p0)).toNatClampNeg) hx hb hr (fun t ht hW => ⟨⟨f1 (14 + (61 * p0)).toNatClampNeg, (), rfl, hw, by rw [ht]; exact hP, va_K.moved hW.alike hK, hD⟩, hS.F ht⟩) hS.2.2 dX11_cornersOf_12
/-! LeadParkModel.xOf (II)I -/
abbrev ceX11_xOf (cyI cyB cyJ cyZ : ClassId) (a0 a1 b0_image b0_before b0_taken b0_tape b0_five b0_value b0_far b0_lead b0_walk b0_ends b0_manX b0_manY b0_dogX b0_dogY b0_row b0_round b0_farOne b0_leads b0_drags b0_from b0_near : Nat) (g0_thrown : Int32) (g0_hasImage : Int32) (g0_remembered : Int32) (g0_taped : Int32) (g0_point : Int32) (g0_end : Int32) (g0_begin : Int32) (g0_deep : Int32) (g0_faultAt : Int32) (g0_steps : Int32) (g0_men : Int32) (g0_dogs : Int32) (f1 : Nat → Int32) : va_W := [(a0, .inr (11, [.int g0_thrown, .ref a1, .ref b0_image, .ref b0_before, .int g0_hasImage, .ref b0_taken, .int g0_remembered, .ref b0_tape, .int g0_taped, .int g0_point, .int g0_end, .int g0_begin, .int g0_deep, .int g0_faultAt, .ref b0_five, .int g0_steps, .ref b0_value, .ref b0_far, .int g0_men, .int g0_dogs, .ref b0_lead, .ref b0_walk, .ref b0_ends, .ref b0_manX, .ref b0_manY, .ref b0_dogX, .ref b0_dogY, .ref b0_row, .ref b0_round, .ref b0_farOne, .ref b0_leads, .ref b0_drags, .ref b0_from, .ref b0_near])), (a1, .inl (cyI, 2508, .inl f1))]

theorem inX11_xOf_X11 : ∀ w ∈ wsX110, w ∈ wsX11_xOf := fun _ h => List.mem_cons_of_mem _ (List.mem_append_right _ h)
abbrev rmX11_xOf : Room := { frames := 0, cells := 0, slots := 0, locals := 0 }
set_option maxRecDepth 100000 in
set_option maxHeartbeats 4000000 in
theorem ctX11_xOf (l : Launch) (dC : Nat → ClassId) (dI : Nat → Nat → Nat) (cyI cyB cyJ cyZ : ClassId) (sz : Nat) (a0 a1 b0_image b0_before b0_taken b0_tape b0_five b0_value b0_far b0_lead b0_walk b0_ends b0_manX b0_manY b0_dogX b0_dogY b0_row b0_round b0_farOne b0_leads b0_drags b0_from b0_near : Nat) (g0_thrown : Int32) (g0_hasImage : Int32) (g0_remembered : Int32) (g0_taped : Int32) (g0_point : Int32) (g0_end : Int32) (g0_begin : Int32) (g0_deep : Int32) (g0_faultAt : Int32) (g0_steps : Int32) (g0_men : Int32) (g0_dogs : Int32) (f1 : Nat → Int32) (p0 : Int32) (p1 : Int32) (post : Int32 → Unit → Prop) (hw : wpX11_xOf post f1 p0 p1) : Met l yX11_xOf wsX11_xOf rmX11_xOf (va_Pc [.ref a0, .int p0, .int p1] (wPre dC dI cyI cyB cyJ cyZ sz (ceX11_xOf cyI cyB cyJ cyZ a0 a1 b0_image b0_before b0_taken b0_tape b0_five b0_value b0_far b0_lead b0_walk b0_ends b0_manX b0_manY b0_dogX b0_dogY b0_row b0_round b0_farOne b0_leads b0_drags b0_from b0_near g0_thrown g0_hasImage g0_remembered g0_taped g0_point g0_end g0_begin g0_deep g0_faultAt g0_steps g0_men g0_dogs f1))) (va_Qi post (fun u : Unit => wAt dC dI cyI cyB cyJ cyZ (va_A (ceX11_xOf cyI cyB cyJ cyZ a0 a1 b0_image b0_before b0_taken b0_tape b0_five b0_value b0_far b0_lead b0_walk b0_ends b0_manX b0_manY b0_dogX b0_dogY b0_row b0_round b0_farOne b0_leads b0_drags b0_from b0_near g0_thrown g0_hasImage g0_remembered g0_taped g0_point g0_end g0_begin g0_deep g0_faultAt g0_steps g0_men g0_dogs f1) sz) (ceX11_xOf cyI cyB cyJ cyZ a0 a1 b0_image b0_before b0_taken b0_tape b0_five b0_value b0_far b0_lead b0_walk b0_ends b0_manX b0_manY b0_dogX b0_dogY b0_row b0_round b0_farOne b0_leads b0_drags b0_from b0_near g0_thrown g0_hasImage g0_remembered g0_taped g0_point g0_end g0_begin g0_deep g0_faultAt g0_steps g0_men g0_dogs f1)) (va_A (ceX11_xOf cyI cyB cyJ cyZ a0 a1 b0_image b0_before b0_taken b0_tape b0_five b0_value b0_far b0_lead b0_walk b0_ends b0_manX b0_manY b0_dogX b0_dogY b0_row b0_round b0_farOne b0_leads b0_drags b0_from b0_near g0_thrown g0_hasImage g0_remembered g0_taped g0_point g0_end g0_begin g0_deep g0_faultAt g0_steps g0_men g0_dogs f1) sz)) 0 0 (va_A (ceX11_xOf cyI cyB cyJ cyZ a0 a1 b0_image b0_before b0_taken b0_tape b0_five b0_value b0_far b0_lead b0_walk b0_ends b0_manX b0_manY b0_dogX b0_dogY b0_row b0_round b0_farOne b0_leads b0_drags b0_from b0_near g0_thrown g0_hasImage g0_remembered g0_taped g0_point g0_end g0_begin g0_deep g0_faultAt g0_steps g0_men g0_dogs f1) sz) := by
  refine Met.ofW (cc := cX11_xOf) (maxL := 3) (ret := (some .int)) (by decide) rfl ?_
  intro p e s m args below meth c s₁ B hml hv
  obtain ⟨rfl, hsz, hP, hK, hD0, hN⟩ := hv
  have hx := B.exec
  have hb := B.bytes
  have hr := B.returns
  have hts := atoms_spec (ws := wsX11_xOf) B.pre
  have hown : s.vm.findClass RX11 = some m.cls := findClass_of_methodNamed B.named
  have hlocks := B.notSynchronized
  subst hsz
  have hD := hD0.self (sz := s.heap.size)
  generalize hAe : va_A (ceX11_xOf cyI cyB cyJ cyZ a0 a1 b0_image b0_before b0_taken b0_tape b0_five b0_value b0_far b0_lead b0_walk b0_ends b0_manX b0_manY b0_dogX b0_dogY b0_row b0_round b0_farOne b0_leads b0_drags b0_from b0_near g0_thrown g0_hasImage g0_remembered g0_taped g0_point g0_end g0_begin g0_deep g0_faultAt g0_steps g0_men g0_dogs f1) s.heap.size = A at hD ⊢
  have hA : ∀ q : Nat, s.heap.size ≤ q → A q := fun q h => by rw [← hAe]; exact Or.inr h
  have hS : va_S A s.heap s.heap [] := va_S.rf
  have C0 : cxM p s m meth c _ wsX11_xOf RX11 cX11_xOf 3 (some .int) := ⟨hx, hb, hr, hml, hown, hts, hlocks⟩
  have hl := lv_entry ([.ref a0, .int p0, .int p1]) (n := 3) (Nat.le_of_ble_eq_true rfl)
  rw [lg_entry_eq]
  generalize (lg_sl ([.ref a0, .int p0, .int p1]) ++ List.replicate (3 - (lg_sl ([.ref a0, .int p0, .int p1])).length) Slot.unset).toArray = ls at hl ⊢
  have hl : lv_has ls 3 [(0, .ref a0), (1, .int p0), (2, .int p1)] := hl
  show W p l e rmX11_xOf s m _ below meth c _ _ _ _ _ _
  refine wq (fun Q hQ => ?_)
  refine lv_aload_n hx hb dX11_xOf_0 rfl (lv_at hl 0 rfl) ?_
  refine va_get (D := (dC, dI)) (ci := 11) (v := .ref a1) (C := RX11) (T := TX11) (N := 34) hx hb hts inX11_xOf_X11 hown hK hP 0 rfl rfl 1 (by decide) (hts (.fieldLink RX11 13 "LeadParkModel" "world" "[I") (List.mem_of_getElem? (i := 1) rfl)) (fun _ h9 => h9) rfl dX11_xOf_1 ?_
  refine lv_bipush (v := 14) hx hb dX11_xOf_4 (by decide) ?_
  refine lv_bipush (v := 61) hx hb dX11_xOf_6 (by decide) ?_
  refine lv_iload_n hx hb dX11_xOf_8 rfl (lv_at hl 1 rfl) ?_
  refine lv_imul hx hb dX11_xOf_9 ?_
  refine lv_iadd hx hb dX11_xOf_10 ?_
  refine lv_iconst (v := 1) hx hb dX11_xOf_11 (by decide) ?_
  refine lv_iadd hx hb dX11_xOf_12 ?_
  refine lv_iconst (v := 2) hx hb dX11_xOf_13 (by decide) ?_
  refine lv_iload_n hx hb dX11_xOf_14 rfl (lv_at hl 2 rfl) ?_
  refine lv_imul hx hb dX11_xOf_15 ?_
  refine lv_iadd hx hb dX11_xOf_16 ?_
  obtain ⟨hi, hw⟩ := hw
  refine va_iald hx hb hK hP 1 0 rfl rfl hi dX11_xOf_17 ?_
  rw [hQ]
  exact W.iret (v := f1 (((14 + (61 * p0)) + 1) + (2 * p1)).toNatClampNeg) hx hb hr (fun t ht hW => ⟨⟨f1 (((14 + (61 * p0)) + 1) + (2 * p1)).toNatClampNeg, (), rfl, hw, by rw [ht]; exact hP, va_K.moved hW.alike hK, hD⟩, hS.F ht⟩) hS.2.2 dX11_xOf_18
/-! LeadParkModel.yOf (II)I -/
abbrev ceX11_yOf (cyI cyB cyJ cyZ : ClassId) (a0 a1 b0_image b0_before b0_taken b0_tape b0_five b0_value b0_far b0_lead b0_walk b0_ends b0_manX b0_manY b0_dogX b0_dogY b0_row b0_round b0_farOne b0_leads b0_drags b0_from b0_near : Nat) (g0_thrown : Int32) (g0_hasImage : Int32) (g0_remembered : Int32) (g0_taped : Int32) (g0_point : Int32) (g0_end : Int32) (g0_begin : Int32) (g0_deep : Int32) (g0_faultAt : Int32) (g0_steps : Int32) (g0_men : Int32) (g0_dogs : Int32) (f1 : Nat → Int32) : va_W := [(a0, .inr (11, [.int g0_thrown, .ref a1, .ref b0_image, .ref b0_before, .int g0_hasImage, .ref b0_taken, .int g0_remembered, .ref b0_tape, .int g0_taped, .int g0_point, .int g0_end, .int g0_begin, .int g0_deep, .int g0_faultAt, .ref b0_five, .int g0_steps, .ref b0_value, .ref b0_far, .int g0_men, .int g0_dogs, .ref b0_lead, .ref b0_walk, .ref b0_ends, .ref b0_manX, .ref b0_manY, .ref b0_dogX, .ref b0_dogY, .ref b0_row, .ref b0_round, .ref b0_farOne, .ref b0_leads, .ref b0_drags, .ref b0_from, .ref b0_near])), (a1, .inl (cyI, 2508, .inl f1))]

theorem inX11_yOf_X11 : ∀ w ∈ wsX110, w ∈ wsX11_yOf := fun _ h => List.mem_cons_of_mem _ (List.mem_append_right _ h)
abbrev rmX11_yOf : Room := { frames := 0, cells := 0, slots := 0, locals := 0 }
set_option maxRecDepth 100000 in
set_option maxHeartbeats 4000000 in
theorem ctX11_yOf (l : Launch) (dC : Nat → ClassId) (dI : Nat → Nat → Nat) (cyI cyB cyJ cyZ : ClassId) (sz : Nat) (a0 a1 b0_image b0_before b0_taken b0_tape b0_five b0_value b0_far b0_lead b0_walk b0_ends b0_manX b0_manY b0_dogX b0_dogY b0_row b0_round b0_farOne b0_leads b0_drags b0_from b0_near : Nat) (g0_thrown : Int32) (g0_hasImage : Int32) (g0_remembered : Int32) (g0_taped : Int32) (g0_point : Int32) (g0_end : Int32) (g0_begin : Int32) (g0_deep : Int32) (g0_faultAt : Int32) (g0_steps : Int32) (g0_men : Int32) (g0_dogs : Int32) (f1 : Nat → Int32) (p0 : Int32) (p1 : Int32) (post : Int32 → Unit → Prop) (hw : wpX11_yOf post f1 p0 p1) : Met l yX11_yOf wsX11_yOf rmX11_yOf (va_Pc [.ref a0, .int p0, .int p1] (wPre dC dI cyI cyB cyJ cyZ sz (ceX11_yOf cyI cyB cyJ cyZ a0 a1 b0_image b0_before b0_taken b0_tape b0_five b0_value b0_far b0_lead b0_walk b0_ends b0_manX b0_manY b0_dogX b0_dogY b0_row b0_round b0_farOne b0_leads b0_drags b0_from b0_near g0_thrown g0_hasImage g0_remembered g0_taped g0_point g0_end g0_begin g0_deep g0_faultAt g0_steps g0_men g0_dogs f1))) (va_Qi post (fun u : Unit => wAt dC dI cyI cyB cyJ cyZ (va_A (ceX11_yOf cyI cyB cyJ cyZ a0 a1 b0_image b0_before b0_taken b0_tape b0_five b0_value b0_far b0_lead b0_walk b0_ends b0_manX b0_manY b0_dogX b0_dogY b0_row b0_round b0_farOne b0_leads b0_drags b0_from b0_near g0_thrown g0_hasImage g0_remembered g0_taped g0_point g0_end g0_begin g0_deep g0_faultAt g0_steps g0_men g0_dogs f1) sz) (ceX11_yOf cyI cyB cyJ cyZ a0 a1 b0_image b0_before b0_taken b0_tape b0_five b0_value b0_far b0_lead b0_walk b0_ends b0_manX b0_manY b0_dogX b0_dogY b0_row b0_round b0_farOne b0_leads b0_drags b0_from b0_near g0_thrown g0_hasImage g0_remembered g0_taped g0_point g0_end g0_begin g0_deep g0_faultAt g0_steps g0_men g0_dogs f1)) (va_A (ceX11_yOf cyI cyB cyJ cyZ a0 a1 b0_image b0_before b0_taken b0_tape b0_five b0_value b0_far b0_lead b0_walk b0_ends b0_manX b0_manY b0_dogX b0_dogY b0_row b0_round b0_farOne b0_leads b0_drags b0_from b0_near g0_thrown g0_hasImage g0_remembered g0_taped g0_point g0_end g0_begin g0_deep g0_faultAt g0_steps g0_men g0_dogs f1) sz)) 0 0 (va_A (ceX11_yOf cyI cyB cyJ cyZ a0 a1 b0_image b0_before b0_taken b0_tape b0_five b0_value b0_far b0_lead b0_walk b0_ends b0_manX b0_manY b0_dogX b0_dogY b0_row b0_round b0_farOne b0_leads b0_drags b0_from b0_near g0_thrown g0_hasImage g0_remembered g0_taped g0_point g0_end g0_begin g0_deep g0_faultAt g0_steps g0_men g0_dogs f1) sz) := by
  refine Met.ofW (cc := cX11_yOf) (maxL := 3) (ret := (some .int)) (by decide) rfl ?_
  intro p e s m args below meth c s₁ B hml hv
  obtain ⟨rfl, hsz, hP, hK, hD0, hN⟩ := hv
  have hx := B.exec
  have hb := B.bytes
  have hr := B.returns
  have hts := atoms_spec (ws := wsX11_yOf) B.pre
  have hown : s.vm.findClass RX11 = some m.cls := findClass_of_methodNamed B.named
  have hlocks := B.notSynchronized
  subst hsz
  have hD := hD0.self (sz := s.heap.size)
  generalize hAe : va_A (ceX11_yOf cyI cyB cyJ cyZ a0 a1 b0_image b0_before b0_taken b0_tape b0_five b0_value b0_far b0_lead b0_walk b0_ends b0_manX b0_manY b0_dogX b0_dogY b0_row b0_round b0_farOne b0_leads b0_drags b0_from b0_near g0_thrown g0_hasImage g0_remembered g0_taped g0_point g0_end g0_begin g0_deep g0_faultAt g0_steps g0_men g0_dogs f1) s.heap.size = A at hD ⊢
  have hA : ∀ q : Nat, s.heap.size ≤ q → A q := fun q h => by rw [← hAe]; exact Or.inr h
  have hS : va_S A s.heap s.heap [] := va_S.rf
  have C0 : cxM p s m meth c _ wsX11_yOf RX11 cX11_yOf 3 (some .int) := ⟨hx, hb, hr, hml, hown, hts, hlocks⟩
  have hl := lv_entry ([.ref a0, .int p0, .int p1]) (n := 3) (Nat.le_of_ble_eq_true rfl)
  rw [lg_entry_eq]
  generalize (lg_sl ([.ref a0, .int p0, .int p1]) ++ List.replicate (3 - (lg_sl ([.ref a0, .int p0, .int p1])).length) Slot.unset).toArray = ls at hl ⊢
  have hl : lv_has ls 3 [(0, .ref a0), (1, .int p0), (2, .int p1)] := hl
  show W p l e rmX11_yOf s m _ below meth c _ _ _ _ _ _
  refine wq (fun Q hQ => ?_)
  refine lv_aload_n hx hb dX11_yOf_0 rfl (lv_at hl 0 rfl) ?_
  refine va_get (D := (dC, dI)) (ci := 11) (v := .ref a1) (C := RX11) (T := TX11) (N := 34) hx hb hts inX11_yOf_X11 hown hK hP 0 rfl rfl 1 (by decide) (hts (.fieldLink RX11 13 "LeadParkModel" "world" "[I") (List.mem_of_getElem? (i := 1) rfl)) (fun _ h9 => h9) rfl dX11_yOf_1 ?_
  refine lv_bipush (v := 14) hx hb dX11_yOf_4 (by decide) ?_
  refine lv_bipush (v := 61) hx hb dX11_yOf_6 (by decide) ?_
  refine lv_iload_n hx hb dX11_yOf_8 rfl (lv_at hl 1 rfl) ?_
  refine lv_imul hx hb dX11_yOf_9 ?_
  refine lv_iadd hx hb dX11_yOf_10 ?_
  refine lv_iconst (v := 2) hx hb dX11_yOf_11 (by decide) ?_
  refine lv_iadd hx hb dX11_yOf_12 ?_
  refine lv_iconst (v := 2) hx hb dX11_yOf_13 (by decide) ?_
  refine lv_iload_n hx hb dX11_yOf_14 rfl (lv_at hl 2 rfl) ?_
  refine lv_imul hx hb dX11_yOf_15 ?_
  refine lv_iadd hx hb dX11_yOf_16 ?_
  obtain ⟨hi, hw⟩ := hw
  refine va_iald hx hb hK hP 1 0 rfl rfl hi dX11_yOf_17 ?_
  rw [hQ]
  exact W.iret (v := f1 (((14 + (61 * p0)) + 2) + (2 * p1)).toNatClampNeg) hx hb hr (fun t ht hW => ⟨⟨f1 (((14 + (61 * p0)) + 2) + (2 * p1)).toNatClampNeg, (), rfl, hw, by rw [ht]; exact hP, va_K.moved hW.alike hK, hD⟩, hS.F ht⟩) hS.2.2 dX11_yOf_18
/-! LeadParkModel.noWay (I)Z -/
abbrev ceX11_noWay (cyI cyB cyJ cyZ : ClassId) (a0 a1 b0_image b0_before b0_taken b0_tape b0_five b0_value b0_far b0_lead b0_walk b0_ends b0_manX b0_manY b0_dogX b0_dogY b0_row b0_round b0_farOne b0_leads b0_drags b0_from b0_near : Nat) (g0_thrown : Int32) (g0_hasImage : Int32) (g0_remembered : Int32) (g0_taped : Int32) (g0_point : Int32) (g0_end : Int32) (g0_begin : Int32) (g0_deep : Int32) (g0_faultAt : Int32) (g0_steps : Int32) (g0_men : Int32) (g0_dogs : Int32) (f1 : Nat → Int32) : va_W := [(a0, .inr (11, [.int g0_thrown, .ref a1, .ref b0_image, .ref b0_before, .int g0_hasImage, .ref b0_taken, .int g0_remembered, .ref b0_tape, .int g0_taped, .int g0_point, .int g0_end, .int g0_begin, .int g0_deep, .int g0_faultAt, .ref b0_five, .int g0_steps, .ref b0_value, .ref b0_far, .int g0_men, .int g0_dogs, .ref b0_lead, .ref b0_walk, .ref b0_ends, .ref b0_manX, .ref b0_manY, .ref b0_dogX, .ref b0_dogY, .ref b0_row, .ref b0_round, .ref b0_farOne, .ref b0_leads, .ref b0_drags, .ref b0_from, .ref b0_near])), (a1, .inl (cyI, 2508, .inl f1))]

abbrev rmX11_noWay : Room := { frames := 1, cells := 0, slots := 0, locals := 22 }
set_option maxRecDepth 100000 in
set_option maxHeartbeats 4000000 in
theorem ctX11_noWay (l : Launch) (dC : Nat → ClassId) (dI : Nat → Nat → Nat) (cyI cyB cyJ cyZ : ClassId) (sz : Nat) (a0 a1 b0_image b0_before b0_taken b0_tape b0_five b0_value b0_far b0_lead b0_walk b0_ends b0_manX b0_manY b0_dogX b0_dogY b0_row b0_round b0_farOne b0_leads b0_drags b0_from b0_near : Nat) (g0_thrown : Int32) (g0_hasImage : Int32) (g0_remembered : Int32) (g0_taped : Int32) (g0_point : Int32) (g0_end : Int32) (g0_begin : Int32) (g0_deep : Int32) (g0_faultAt : Int32) (g0_steps : Int32) (g0_men : Int32) (g0_dogs : Int32) (f1 : Nat → Int32) (p0 : Int32) (post : Int32 → Unit → Prop) (hw : wpX11_noWay post f1 p0) : Met l yX11_noWay wsX11_noWay rmX11_noWay (va_Pc [.ref a0, .int p0] (wPre dC dI cyI cyB cyJ cyZ sz (ceX11_noWay cyI cyB cyJ cyZ a0 a1 b0_image b0_before b0_taken b0_tape b0_five b0_value b0_far b0_lead b0_walk b0_ends b0_manX b0_manY b0_dogX b0_dogY b0_row b0_round b0_farOne b0_leads b0_drags b0_from b0_near g0_thrown g0_hasImage g0_remembered g0_taped g0_point g0_end g0_begin g0_deep g0_faultAt g0_steps g0_men g0_dogs f1))) (va_Qi post (fun u : Unit => wAt dC dI cyI cyB cyJ cyZ (va_A (ceX11_noWay cyI cyB cyJ cyZ a0 a1 b0_image b0_before b0_taken b0_tape b0_five b0_value b0_far b0_lead b0_walk b0_ends b0_manX b0_manY b0_dogX b0_dogY b0_row b0_round b0_farOne b0_leads b0_drags b0_from b0_near g0_thrown g0_hasImage g0_remembered g0_taped g0_point g0_end g0_begin g0_deep g0_faultAt g0_steps g0_men g0_dogs f1) sz) (ceX11_noWay cyI cyB cyJ cyZ a0 a1 b0_image b0_before b0_taken b0_tape b0_five b0_value b0_far b0_lead b0_walk b0_ends b0_manX b0_manY b0_dogX b0_dogY b0_row b0_round b0_farOne b0_leads b0_drags b0_from b0_near g0_thrown g0_hasImage g0_remembered g0_taped g0_point g0_end g0_begin g0_deep g0_faultAt g0_steps g0_men g0_dogs f1)) (va_A (ceX11_noWay cyI cyB cyJ cyZ a0 a1 b0_image b0_before b0_taken b0_tape b0_five b0_value b0_far b0_lead b0_walk b0_ends b0_manX b0_manY b0_dogX b0_dogY b0_row b0_round b0_farOne b0_leads b0_drags b0_from b0_near g0_thrown g0_hasImage g0_remembered g0_taped g0_point g0_end g0_begin g0_deep g0_faultAt g0_steps g0_men g0_dogs f1) sz)) 0 0 (va_A (ceX11_noWay cyI cyB cyJ cyZ a0 a1 b0_image b0_before b0_taken b0_tape b0_five b0_value b0_far b0_lead b0_walk b0_ends b0_manX b0_manY b0_dogX b0_dogY b0_row b0_round b0_farOne b0_leads b0_drags b0_from b0_near g0_thrown g0_hasImage g0_remembered g0_taped g0_point g0_end g0_begin g0_deep g0_faultAt g0_steps g0_men g0_dogs f1) sz) := by
  refine Met.ofW (cc := cX11_noWay) (maxL := 2) (ret := (some .boolean)) (by decide) rfl ?_
  intro p e s m args below meth c s₁ B hml hv
  obtain ⟨rfl, hsz, hP, hK, hD0, hN⟩ := hv
  have hx := B.exec
  have hb := B.bytes
  have hr := B.returns
  have hts := atoms_spec (ws := wsX11_noWay) B.pre
  have hown : s.vm.findClass RX11 = some m.cls := findClass_of_methodNamed B.named
  have hlocks := B.notSynchronized
  subst hsz
  have hD := hD0.self (sz := s.heap.size)
  generalize hAe : va_A (ceX11_noWay cyI cyB cyJ cyZ a0 a1 b0_image b0_before b0_taken b0_tape b0_five b0_value b0_far b0_lead b0_walk b0_ends b0_manX b0_manY b0_dogX b0_dogY b0_row b0_round b0_farOne b0_leads b0_drags b0_from b0_near g0_thrown g0_hasImage g0_remembered g0_taped g0_point g0_end g0_begin g0_deep g0_faultAt g0_steps g0_men g0_dogs f1) s.heap.size = A at hD ⊢
  have hA : ∀ q : Nat, s.heap.size ≤ q → A q := fun q h => by rw [← hAe]; exact Or.inr h
  have hS : va_S A s.heap s.heap [] := va_S.rf
  have C0 : cxM p s m meth c _ wsX11_noWay RX11 cX11_noWay 2 (some .boolean) := ⟨hx, hb, hr, hml, hown, hts, hlocks⟩
  have hl := lv_entry ([.ref a0, .int p0]) (n := 2) (Nat.le_of_ble_eq_true rfl)
  rw [lg_entry_eq]
  generalize (lg_sl ([.ref a0, .int p0]) ++ List.replicate (2 - (lg_sl ([.ref a0, .int p0])).length) Slot.unset).toArray = ls at hl ⊢
  have hl : lv_has ls 2 [(0, .ref a0), (1, .int p0)] := hl
  show W p l e rmX11_noWay s m _ below meth c _ _ _ _ _ _
  refine wq (fun Q hQ => ?_)
  refine lv_iload_n hx hb dX11_noWay_0 rfl (lv_at hl 1 rfl) ?_
  refine lv_iconst (v := 0) hx hb dX11_noWay_1 (by decide) ?_
  refine lv_aload_n hx hb dX11_noWay_2 rfl (lv_at hl 0 rfl) ?_
  have hPc := hP.sub (ws' := (ceX11_ways cyI cyB cyJ cyZ a0 a1 b0_image b0_before b0_taken b0_tape b0_five b0_value b0_far b0_lead b0_walk b0_ends b0_manX b0_manY b0_dogX b0_dogY b0_row b0_round b0_farOne b0_leads b0_drags b0_from b0_near g0_thrown g0_hasImage g0_remembered g0_taped g0_point g0_end g0_begin g0_deep g0_faultAt g0_steps g0_men g0_dogs f1)) [0, 1] rfl
  have hDc := hD.sub (ws' := (ceX11_ways cyI cyB cyJ cyZ a0 a1 b0_image b0_before b0_taken b0_tape b0_five b0_value b0_far b0_lead b0_walk b0_ends b0_manX b0_manY b0_dogX b0_dogY b0_row b0_round b0_farOne b0_leads b0_drags b0_from b0_near g0_thrown g0_hasImage g0_remembered g0_taped g0_point g0_end g0_begin g0_deep g0_faultAt g0_steps g0_men g0_dogs f1)) [0, 1] (by decide) rfl
  have hFc := va_free (wc := (ceX11_ways cyI cyB cyJ cyZ a0 a1 b0_image b0_before b0_taken b0_tape b0_five b0_value b0_far b0_lead b0_walk b0_ends b0_manX b0_manY b0_dogX b0_dogY b0_row b0_round b0_farOne b0_leads b0_drags b0_from b0_near g0_thrown g0_hasImage g0_remembered g0_taped g0_point g0_end g0_begin g0_deep g0_faultAt g0_steps g0_men g0_dogs f1)) hD hS hA [0, 1] rfl
  refine va_calli (va_runV (As := []) (rest := [.int 0, .int p0]) ⟨hx, hb, hml, hown, hts⟩ (ctX11_ways l dC dI cyI cyB cyJ cyZ _ a0 a1 b0_image b0_before b0_taken b0_tape b0_five b0_value b0_far b0_lead b0_walk b0_ends b0_manX b0_manY b0_dogX b0_dogY b0_row b0_round b0_farOne b0_leads b0_drags b0_from b0_near g0_thrown g0_hasImage g0_remembered g0_taped g0_point g0_end g0_begin g0_deep g0_faultAt g0_steps g0_men g0_dogs f1 _ hw) (cwV 0 hts gX11_noWay_X11_ways rfl rfl rfl (by decide +kernel) ⟨Nat.le_of_ble_eq_true rfl, Nat.le_of_ble_eq_true rfl⟩) ⟨wPre_blind, va_recv hK hPc (ci := 11) (q0 := 0) rfl rfl, fun U hU hW => wPre_of hPc hK hDc hN hU hW⟩ rfl rfl hl.1 rfl (lv_room (Nat.le_of_ble_eq_true rfl)) dX11_noWay_3 ⟨(Nat.zero_le _), (Nat.zero_le _)⟩) hS (fun q _ h => hFc q h) hFc (fun r2 u1 t H1 locs ht hvm hw hB hz1 hk1 hS => ?_)
  obtain ⟨hP1, hK1, hD1⟩ := hB
  rw [ht] at hP1
  obtain ⟨hP, hD⟩ := va_join (wr := pickW (ceX11_noWay cyI cyB cyJ cyZ a0 a1 b0_image b0_before b0_taken b0_tape b0_five b0_value b0_far b0_lead b0_walk b0_ends b0_manX b0_manY b0_dogX b0_dogY b0_row b0_round b0_farOne b0_leads b0_drags b0_from b0_near g0_thrown g0_hasImage g0_remembered g0_taped g0_point g0_end g0_begin g0_deep g0_faultAt g0_steps g0_men g0_dogs f1) []) (w1 := (ceX11_ways cyI cyB cyJ cyZ a0 a1 b0_image b0_before b0_taken b0_tape b0_five b0_value b0_far b0_lead b0_walk b0_ends b0_manX b0_manY b0_dogX b0_dogY b0_row b0_round b0_farOne b0_leads b0_drags b0_from b0_near g0_thrown g0_hasImage g0_remembered g0_taped g0_point g0_end g0_begin g0_deep g0_faultAt g0_steps g0_men g0_dogs f1)) hP hD [0, 1] [] rfl rfl (by decide) (by decide) hk1 hFc hP1 hD1
  have hP := hP.sub (ws' := (ceX11_noWay cyI cyB cyJ cyZ a0 a1 b0_image b0_before b0_taken b0_tape b0_five b0_value b0_far b0_lead b0_walk b0_ends b0_manX b0_manY b0_dogX b0_dogY b0_row b0_round b0_farOne b0_leads b0_drags b0_from b0_near g0_thrown g0_hasImage g0_remembered g0_taped g0_point g0_end g0_begin g0_deep g0_faultAt g0_steps g0_men g0_dogs f1)) [0, 1] rfl
  have hD := hD.sub (ws' := (ceX11_noWay cyI cyB cyJ cyZ a0 a1 b0_image b0_before b0_taken b0_tape b0_five b0_value b0_far b0_lead b0_walk b0_ends b0_manX b0_manY b0_dogX b0_dogY b0_row b0_round b0_farOne b0_leads b0_drags b0_from b0_near g0_thrown g0_hasImage g0_remembered g0_taped g0_point g0_end g0_begin g0_deep g0_faultAt g0_steps g0_men g0_dogs f1)) [0, 1] (by decide) rfl
  generalize H1 = H at hP hS ⊢
  refine lv_iconst (v := 1) hx hb dX11_noWay_6 (by decide) ?_
  refine lv_isub hx hb dX11_noWay_7 ?_
  have hPc := hP.sub (ws' := ([] : va_W)) [] rfl
  have hDc := hD.sub (ws' := ([] : va_W)) [] (by decide) rfl
  have hFc := va_free (wc := ([] : va_W)) hD hS hA [] rfl
  refine va_calli (va_runS (As := [.int p0, .int 0, .int (r2 - 1)]) (rest := []) ⟨hx, hb, hml, hown, hts⟩ (ctX11_in l dC dI cyI cyB cyJ cyZ _ p0 0 (r2 - 1) _ hw) (va_cwS 3 hts gX11_noWay_X11_in rfl rfl rfl (by decide +kernel) ⟨Nat.le_of_ble_eq_true rfl, Nat.le_of_ble_eq_true rfl⟩) ⟨wPre_blind, fun U hU hW => wPre_of hPc hK hDc hN hU hW⟩ rfl rfl hl.1 rfl (lv_room (Nat.le_of_ble_eq_true rfl)) dX11_noWay_8 ⟨(Nat.zero_le _), (Nat.zero_le _)⟩) hS (fun q _ h => hFc q h) hFc (fun r4 u3 t H1 locs ht hvm hw hB hz1 hk1 hS => ?_)
  obtain ⟨hP1, hK1, hD1⟩ := hB
  rw [ht] at hP1
  obtain ⟨hP, hD⟩ := va_join (wr := pickW (ceX11_noWay cyI cyB cyJ cyZ a0 a1 b0_image b0_before b0_taken b0_tape b0_five b0_value b0_far b0_lead b0_walk b0_ends b0_manX b0_manY b0_dogX b0_dogY b0_row b0_round b0_farOne b0_leads b0_drags b0_from b0_near g0_thrown g0_hasImage g0_remembered g0_taped g0_point g0_end g0_begin g0_deep g0_faultAt g0_steps g0_men g0_dogs f1) [0, 1]) (w1 := ([] : va_W)) hP hD [] [0, 1] rfl rfl (by decide) (by decide) hk1 hFc hP1 hD1
  have hP := hP.sub (ws' := (ceX11_noWay cyI cyB cyJ cyZ a0 a1 b0_image b0_before b0_taken b0_tape b0_five b0_value b0_far b0_lead b0_walk b0_ends b0_manX b0_manY b0_dogX b0_dogY b0_row b0_round b0_farOne b0_leads b0_drags b0_from b0_near g0_thrown g0_hasImage g0_remembered g0_taped g0_point g0_end g0_begin g0_deep g0_faultAt g0_steps g0_men g0_dogs f1)) [0, 1] rfl
  have hD := hD.sub (ws' := (ceX11_noWay cyI cyB cyJ cyZ a0 a1 b0_image b0_before b0_taken b0_tape b0_five b0_value b0_far b0_lead b0_walk b0_ends b0_manX b0_manY b0_dogX b0_dogY b0_row b0_round b0_farOne b0_leads b0_drags b0_from b0_near g0_thrown g0_hasImage g0_remembered g0_taped g0_point g0_end g0_begin g0_deep g0_faultAt g0_steps g0_men g0_dogs f1)) [0, 1] (by decide) rfl
  generalize H1 = H at hP hS ⊢
  refine lv_if_ne (tgt := 18) hx hb dX11_noWay_11 (by decide) (fun hc => ?_) (fun hc => ?_)
  · have hw := hw.1 hc
    refine lv_iconst (v := 0) hx hb dX11_noWay_18 (by decide) ?_
    rw [hQ]
    exact W.zret (v := 0) (ty := .boolean) hx hb hr rfl (fun t ht hW => ⟨⟨0, (), rfl, hw, by rw [ht]; exact hP, va_K.moved hW.alike hK, hD⟩, hS.F ht⟩) hS.2.2 dX11_noWay_19
  · have hw := hw.2 hc
    refine lv_iconst (v := 1) hx hb dX11_noWay_14 (by decide) ?_
    refine lv_goto (tgt := 19) hx hb dX11_noWay_15 (by decide) ?_
    rw [hQ]
    exact W.zret (v := 1) (ty := .boolean) hx hb hr rfl (fun t ht hW => ⟨⟨1, (), rfl, hw, by rw [ht]; exact hP, va_K.moved hW.alike hK, hD⟩, hS.F ht⟩) hS.2.2 dX11_noWay_19
/-! LeadParkModel.noCorner (II)Z -/
abbrev ceX11_noCorner (cyI cyB cyJ cyZ : ClassId) (a0 a1 b0_image b0_before b0_taken b0_tape b0_five b0_value b0_far b0_lead b0_walk b0_ends b0_manX b0_manY b0_dogX b0_dogY b0_row b0_round b0_farOne b0_leads b0_drags b0_from b0_near : Nat) (g0_thrown : Int32) (g0_hasImage : Int32) (g0_remembered : Int32) (g0_taped : Int32) (g0_point : Int32) (g0_end : Int32) (g0_begin : Int32) (g0_deep : Int32) (g0_faultAt : Int32) (g0_steps : Int32) (g0_men : Int32) (g0_dogs : Int32) (f1 : Nat → Int32) : va_W := [(a0, .inr (11, [.int g0_thrown, .ref a1, .ref b0_image, .ref b0_before, .int g0_hasImage, .ref b0_taken, .int g0_remembered, .ref b0_tape, .int g0_taped, .int g0_point, .int g0_end, .int g0_begin, .int g0_deep, .int g0_faultAt, .ref b0_five, .int g0_steps, .ref b0_value, .ref b0_far, .int g0_men, .int g0_dogs, .ref b0_lead, .ref b0_walk, .ref b0_ends, .ref b0_manX, .ref b0_manY, .ref b0_dogX, .ref b0_dogY, .ref b0_row, .ref b0_round, .ref b0_farOne, .ref b0_leads, .ref b0_drags, .ref b0_from, .ref b0_near])), (a1, .inl (cyI, 2508, .inl f1))]

abbrev rmX11_noCorner : Room := { frames := 2, cells := 0, slots := 0, locals := 43 }
set_option maxRecDepth 100000 in
set_option maxHeartbeats 4000000 in
theorem ctX11_noCorner (l : Launch) (dC : Nat → ClassId) (dI : Nat → Nat → Nat) (cyI cyB cyJ cyZ : ClassId) (sz : Nat) (a0 a1 b0_image b0_before b0_taken b0_tape b0_five b0_value b0_far b0_lead b0_walk b0_ends b0_manX b0_manY b0_dogX b0_dogY b0_row b0_round b0_farOne b0_leads b0_drags b0_from b0_near : Nat) (g0_thrown : Int32) (g0_hasImage : Int32) (g0_remembered : Int32) (g0_taped : Int32) (g0_point : Int32) (g0_end : Int32) (g0_begin : Int32) (g0_deep : Int32) (g0_faultAt : Int32) (g0_steps : Int32) (g0_men : Int32) (g0_dogs : Int32) (f1 : Nat → Int32) (p0 : Int32) (p1 : Int32) (post : Int32 → Unit → Prop) (hw : wpX11_noCorner post f1 p0 p1) : Met l yX11_noCorner wsX11_noCorner rmX11_noCorner (va_Pc [.ref a0, .int p0, .int p1] (wPre dC dI cyI cyB cyJ cyZ sz (ceX11_noCorner cyI cyB cyJ cyZ a0 a1 b0_image b0_before b0_taken b0_tape b0_five b0_value b0_far b0_lead b0_walk b0_ends b0_manX b0_manY b0_dogX b0_dogY b0_row b0_round b0_farOne b0_leads b0_drags b0_from b0_near g0_thrown g0_hasImage g0_remembered g0_taped g0_point g0_end g0_begin g0_deep g0_faultAt g0_steps g0_men g0_dogs f1))) (va_Qi post (fun u : Unit => wAt dC dI cyI cyB cyJ cyZ (va_A (ceX11_noCorner cyI cyB cyJ cyZ a0 a1 b0_image b0_before b0_taken b0_tape b0_five b0_value b0_far b0_lead b0_walk b0_ends b0_manX b0_manY b0_dogX b0_dogY b0_row b0_round b0_farOne b0_leads b0_drags b0_from b0_near g0_thrown g0_hasImage g0_remembered g0_taped g0_point g0_end g0_begin g0_deep g0_faultAt g0_steps g0_men g0_dogs f1) sz) (ceX11_noCorner cyI cyB cyJ cyZ a0 a1 b0_image b0_before b0_taken b0_tape b0_five b0_value b0_far b0_lead b0_walk b0_ends b0_manX b0_manY b0_dogX b0_dogY b0_row b0_round b0_farOne b0_leads b0_drags b0_from b0_near g0_thrown g0_hasImage g0_remembered g0_taped g0_point g0_end g0_begin g0_deep g0_faultAt g0_steps g0_men g0_dogs f1)) (va_A (ceX11_noCorner cyI cyB cyJ cyZ a0 a1 b0_image b0_before b0_taken b0_tape b0_five b0_value b0_far b0_lead b0_walk b0_ends b0_manX b0_manY b0_dogX b0_dogY b0_row b0_round b0_farOne b0_leads b0_drags b0_from b0_near g0_thrown g0_hasImage g0_remembered g0_taped g0_point g0_end g0_begin g0_deep g0_faultAt g0_steps g0_men g0_dogs f1) sz)) 0 0 (va_A (ceX11_noCorner cyI cyB cyJ cyZ a0 a1 b0_image b0_before b0_taken b0_tape b0_five b0_value b0_far b0_lead b0_walk b0_ends b0_manX b0_manY b0_dogX b0_dogY b0_row b0_round b0_farOne b0_leads b0_drags b0_from b0_near g0_thrown g0_hasImage g0_remembered g0_taped g0_point g0_end g0_begin g0_deep g0_faultAt g0_steps g0_men g0_dogs f1) sz) := by
  refine Met.ofW (cc := cX11_noCorner) (maxL := 3) (ret := (some .boolean)) (by decide) rfl ?_
  intro p e s m args below meth c s₁ B hml hv
  obtain ⟨rfl, hsz, hP, hK, hD0, hN⟩ := hv
  have hx := B.exec
  have hb := B.bytes
  have hr := B.returns
  have hts := atoms_spec (ws := wsX11_noCorner) B.pre
  have hown : s.vm.findClass RX11 = some m.cls := findClass_of_methodNamed B.named
  have hlocks := B.notSynchronized
  subst hsz
  have hD := hD0.self (sz := s.heap.size)
  generalize hAe : va_A (ceX11_noCorner cyI cyB cyJ cyZ a0 a1 b0_image b0_before b0_taken b0_tape b0_five b0_value b0_far b0_lead b0_walk b0_ends b0_manX b0_manY b0_dogX b0_dogY b0_row b0_round b0_farOne b0_leads b0_drags b0_from b0_near g0_thrown g0_hasImage g0_remembered g0_taped g0_point g0_end g0_begin g0_deep g0_faultAt g0_steps g0_men g0_dogs f1) s.heap.size = A at hD ⊢
  have hA : ∀ q : Nat, s.heap.size ≤ q → A q := fun q h => by rw [← hAe]; exact Or.inr h
  have hS : va_S A s.heap s.heap [] := va_S.rf
  have C0 : cxM p s m meth c _ wsX11_noCorner RX11 cX11_noCorner 3 (some .boolean) := ⟨hx, hb, hr, hml, hown, hts, hlocks⟩
  have hl := lv_entry ([.ref a0, .int p0, .int p1]) (n := 3) (Nat.le_of_ble_eq_true rfl)
  rw [lg_entry_eq]
  generalize (lg_sl ([.ref a0, .int p0, .int p1]) ++ List.replicate (3 - (lg_sl ([.ref a0, .int p0, .int p1])).length) Slot.unset).toArray = ls at hl ⊢
  have hl : lv_has ls 3 [(0, .ref a0), (1, .int p0), (2, .int p1)] := hl
  show W p l e rmX11_noCorner s m _ below meth c _ _ _ _ _ _
  refine wq (fun Q hQ => ?_)
  refine lv_aload_n hx hb dX11_noCorner_0 rfl (lv_at hl 0 rfl) ?_
  refine lv_iload_n hx hb dX11_noCorner_1 rfl (lv_at hl 1 rfl) ?_
  have hPc := hP.sub (ws' := (ceX11_noWay cyI cyB cyJ cyZ a0 a1 b0_image b0_before b0_taken b0_tape b0_five b0_value b0_far b0_lead b0_walk b0_ends b0_manX b0_manY b0_dogX b0_dogY b0_row b0_round b0_farOne b0_leads b0_drags b0_from b0_near g0_thrown g0_hasImage g0_remembered g0_taped g0_point g0_end g0_begin g0_deep g0_faultAt g0_steps g0_men g0_dogs f1)) [0, 1] rfl
  have hDc := hD.sub (ws' := (ceX11_noWay cyI cyB cyJ cyZ a0 a1 b0_image b0_before b0_taken b0_tape b0_five b0_value b0_far b0_lead b0_walk b0_ends b0_manX b0_manY b0_dogX b0_dogY b0_row b0_round b0_farOne b0_leads b0_drags b0_from b0_near g0_thrown g0_hasImage g0_remembered g0_taped g0_point g0_end g0_begin g0_deep g0_faultAt g0_steps g0_men g0_dogs f1)) [0, 1] (by decide) rfl
  have hFc := va_free (wc := (ceX11_noWay cyI cyB cyJ cyZ a0 a1 b0_image b0_before b0_taken b0_tape b0_five b0_value b0_far b0_lead b0_walk b0_ends b0_manX b0_manY b0_dogX b0_dogY b0_row b0_round b0_farOne b0_leads b0_drags b0_from b0_near g0_thrown g0_hasImage g0_remembered g0_taped g0_point g0_end g0_begin g0_deep g0_faultAt g0_steps g0_men g0_dogs f1)) hD hS hA [0, 1] rfl
  refine va_calli (va_runV (As := [.int p0]) (rest := []) ⟨hx, hb, hml, hown, hts⟩ (ctX11_noWay l dC dI cyI cyB cyJ cyZ _ a0 a1 b0_image b0_before b0_taken b0_tape b0_five b0_value b0_far b0_lead b0_walk b0_ends b0_manX b0_manY b0_dogX b0_dogY b0_row b0_round b0_farOne b0_leads b0_drags b0_from b0_near g0_thrown g0_hasImage g0_remembered g0_taped g0_point g0_end g0_begin g0_deep g0_faultAt g0_steps g0_men g0_dogs f1 p0 _ hw) (cwV 1 hts gX11_noCorner_X11_noWay rfl rfl rfl (by decide +kernel) ⟨Nat.le_of_ble_eq_true rfl, Nat.le_of_ble_eq_true rfl⟩) ⟨wPre_blind, va_recv hK hPc (ci := 11) (q0 := 0) rfl rfl, fun U hU hW => wPre_of hPc hK hDc hN hU hW⟩ rfl rfl hl.1 rfl (lv_room (Nat.le_of_ble_eq_true rfl)) dX11_noCorner_2 ⟨(Nat.zero_le _), (Nat.zero_le _)⟩) hS (fun q _ h => hFc q h) hFc (fun r2 u1 t H1 locs ht hvm hw hB hz1 hk1 hS => ?_)
  obtain ⟨hP1, hK1, hD1⟩ := hB
  rw [ht] at hP1
  obtain ⟨hP, hD⟩ := va_join (wr := pickW (ceX11_noCorner cyI cyB cyJ cyZ a0 a1 b0_image b0_before b0_taken b0_tape b0_five b0_value b0_far b0_lead b0_walk b0_ends b0_manX b0_manY b0_dogX b0_dogY b0_row b0_round b0_farOne b0_leads b0_drags b0_from b0_near g0_thrown g0_hasImage g0_remembered g0_taped g0_point g0_end g0_begin g0_deep g0_faultAt g0_steps g0_men g0_dogs f1) []) (w1 := (ceX11_noWay cyI cyB cyJ cyZ a0 a1 b0_image b0_before b0_taken b0_tape b0_five b0_value b0_far b0_lead b0_walk b0_ends b0_manX b0_manY b0_dogX b0_dogY b0_row b0_round b0_farOne b0_leads b0_drags b0_from b0_near g0_thrown g0_hasImage g0_remembered g0_taped g0_point g0_end g0_begin g0_deep g0_faultAt g0_steps g0_men g0_dogs f1)) hP hD [0, 1] [] rfl rfl (by decide) (by decide) hk1 hFc hP1 hD1
  have hP := hP.sub (ws' := (ceX11_noCorner cyI cyB cyJ cyZ a0 a1 b0_image b0_before b0_taken b0_tape b0_five b0_value b0_far b0_lead b0_walk b0_ends b0_manX b0_manY b0_dogX b0_dogY b0_row b0_round b0_farOne b0_leads b0_drags b0_from b0_near g0_thrown g0_hasImage g0_remembered g0_taped g0_point g0_end g0_begin g0_deep g0_faultAt g0_steps g0_men g0_dogs f1)) [0, 1] rfl
  have hD := hD.sub (ws' := (ceX11_noCorner cyI cyB cyJ cyZ a0 a1 b0_image b0_before b0_taken b0_tape b0_five b0_value b0_far b0_lead b0_walk b0_ends b0_manX b0_manY b0_dogX b0_dogY b0_row b0_round b0_farOne b0_leads b0_drags b0_from b0_near g0_thrown g0_hasImage g0_remembered g0_taped g0_point g0_end g0_begin g0_deep g0_faultAt g0_steps g0_men g0_dogs f1)) [0, 1] (by decide) rfl
  generalize H1 = H at hP hS ⊢
  refine lv_if_ne (tgt := 23) hx hb dX11_noCorner_5 (by decide) (fun hc => ?_) (fun hc => ?_)
  · have hw := hw.1 hc
    refine lv_iconst (v := 1) hx hb dX11_noCorner_23 (by decide) ?_
    refine lv_goto (tgt := 28) hx hb dX11_noCorner_24 (by decide) ?_
    rw [hQ]
    exact W.zret (v := 1) (ty := .boolean) hx hb hr rfl (fun t ht hW => ⟨⟨1, (), rfl, hw, by rw [ht]; exact hP, va_K.moved hW.alike hK, hD⟩, hS.F ht⟩) hS.2.2 dX11_noCorner_28
  · have hw := hw.2 hc
    refine lv_iload_n hx hb dX11_noCorner_8 rfl (lv_at hl 2 rfl) ?_
    refine lv_iconst (v := 0) hx hb dX11_noCorner_9 (by decide) ?_
    refine lv_aload_n hx hb dX11_noCorner_10 rfl (lv_at hl 0 rfl) ?_
    refine lv_iload_n hx hb dX11_noCorner_11 rfl (lv_at hl 1 rfl) ?_
    have hPc := hP.sub (ws' := (ceX11_cornersOf cyI cyB cyJ cyZ a0 a1 b0_image b0_before b0_taken b0_tape b0_five b0_value b0_far b0_lead b0_walk b0_ends b0_manX b0_manY b0_dogX b0_dogY b0_row b0_round b0_farOne b0_leads b0_drags b0_from b0_near g0_thrown g0_hasImage g0_remembered g0_taped g0_point g0_end g0_begin g0_deep g0_faultAt g0_steps g0_men g0_dogs f1)) [0, 1] rfl
    have hDc := hD.sub (ws' := (ceX11_cornersOf cyI cyB cyJ cyZ a0 a1 b0_image b0_before b0_taken b0_tape b0_five b0_value b0_far b0_lead b0_walk b0_ends b0_manX b0_manY b0_dogX b0_dogY b0_row b0_round b0_farOne b0_leads b0_drags b0_from b0_near g0_thrown g0_hasImage g0_remembered g0_taped g0_point g0_end g0_begin g0_deep g0_faultAt g0_steps g0_men g0_dogs f1)) [0, 1] (by decide) rfl
    have hFc := va_free (wc := (ceX11_cornersOf cyI cyB cyJ cyZ a0 a1 b0_image b0_before b0_taken b0_tape b0_five b0_value b0_far b0_lead b0_walk b0_ends b0_manX b0_manY b0_dogX b0_dogY b0_row b0_round b0_farOne b0_leads b0_drags b0_from b0_near g0_thrown g0_hasImage g0_remembered g0_taped g0_point g0_end g0_begin g0_deep g0_faultAt g0_steps g0_men g0_dogs f1)) hD hS hA [0, 1] rfl
    refine va_calli (va_runV (As := [.int p0]) (rest := [.int 0, .int p1]) ⟨hx, hb, hml, hown, hts⟩ (ctX11_cornersOf l dC dI cyI cyB cyJ cyZ _ a0 a1 b0_image b0_before b0_taken b0_tape b0_five b0_value b0_far b0_lead b0_walk b0_ends b0_manX b0_manY b0_dogX b0_dogY b0_row b0_round b0_farOne b0_leads b0_drags b0_from b0_near g0_thrown g0_hasImage g0_remembered g0_taped g0_point g0_end g0_begin g0_deep g0_faultAt g0_steps g0_men g0_dogs f1 p0 _ hw) (cwV 1 hts gX11_noCorner_X11_cornersOf rfl rfl rfl (by decide +kernel) ⟨Nat.le_of_ble_eq_true rfl, Nat.le_of_ble_eq_true rfl⟩) ⟨wPre_blind, va_recv hK hPc (ci := 11) (q0 := 0) rfl rfl, fun U hU hW => wPre_of hPc hK hDc hN hU hW⟩ rfl rfl hl.1 rfl (lv_room (Nat.le_of_ble_eq_true rfl)) dX11_noCorner_12 ⟨(Nat.zero_le _), (Nat.zero_le _)⟩) hS (fun q _ h => hFc q h) hFc (fun r4 u3 t H1 locs ht hvm hw hB hz1 hk1 hS => ?_)
    obtain ⟨hP1, hK1, hD1⟩ := hB
    rw [ht] at hP1
    obtain ⟨hP, hD⟩ := va_join (wr := pickW (ceX11_noCorner cyI cyB cyJ cyZ a0 a1 b0_image b0_before b0_taken b0_tape b0_five b0_value b0_far b0_lead b0_walk b0_ends b0_manX b0_manY b0_dogX b0_dogY b0_row b0_round b0_farOne b0_leads b0_drags b0_from b0_near g0_thrown g0_hasImage g0_remembered g0_taped g0_point g0_end g0_begin g0_deep g0_faultAt g0_steps g0_men g0_dogs f1) []) (w1 := (ceX11_cornersOf cyI cyB cyJ cyZ a0 a1 b0_image b0_before b0_taken b0_tape b0_five b0_value b0_far b0_lead b0_walk b0_ends b0_manX b0_manY b0_dogX b0_dogY b0_row b0_round b0_farOne b0_leads b0_drags b0_from b0_near g0_thrown g0_hasImage g0_remembered g0_taped g0_point g0_end g0_begin g0_deep g0_faultAt g0_steps g0_men g0_dogs f1)) hP hD [0, 1] [] rfl rfl (by decide) (by decide) hk1 hFc hP1 hD1
    have hP := hP.sub (ws' := (ceX11_noCorner cyI cyB cyJ cyZ a0 a1 b0_image b0_before b0_taken b0_tape b0_five b0_value b0_far b0_lead b0_walk b0_ends b0_manX b0_manY b0_dogX b0_dogY b0_row b0_round b0_farOne b0_leads b0_drags b0_from b0_near g0_thrown g0_hasImage g0_remembered g0_taped g0_point g0_end g0_begin g0_deep g0_faultAt g0_steps g0_men g0_dogs f1)) [0, 1] rfl
    have hD := hD.sub (ws' := (ceX11_noCorner cyI cyB cyJ cyZ a0 a1 b0_image b0_before b0_taken b0_tape b0_five b0_value b0_far b0_lead b0_walk b0_ends b0_manX b0_manY b0_dogX b0_dogY b0_row b0_round b0_farOne b0_leads b0_drags b0_from b0_near g0_thrown g0_hasImage g0_remembered g0_taped g0_point g0_end g0_begin g0_deep g0_faultAt g0_steps g0_men g0_dogs f1)) [0, 1] (by decide) rfl
    generalize H1 = H at hP hS ⊢
    refine lv_iconst (v := 1) hx hb dX11_noCorner_15 (by decide) ?_
    refine lv_isub hx hb dX11_noCorner_16 ?_
    have hPc := hP.sub (ws' := ([] : va_W)) [] rfl
    have hDc := hD.sub (ws' := ([] : va_W)) [] (by decide) rfl
    have hFc := va_free (wc := ([] : va_W)) hD hS hA [] rfl
    refine va_calli (va_runS (As := [.int p1, .int 0, .int (r4 - 1)]) (rest := []) ⟨hx, hb, hml, hown, hts⟩ (ctX11_in l dC dI cyI cyB cyJ cyZ _ p1 0 (r4 - 1) _ hw) (va_cwS 3 hts gX11_noCorner_X11_in rfl rfl rfl (by decide +kernel) ⟨Nat.le_of_ble_eq_true rfl, Nat.le_of_ble_eq_true rfl⟩) ⟨wPre_blind, fun U hU hW => wPre_of hPc hK hDc hN hU hW⟩ rfl rfl hl.1 rfl (lv_room (Nat.le_of_ble_eq_true rfl)) dX11_noCorner_17 ⟨(Nat.zero_le _), (Nat.zero_le _)⟩) hS (fun q _ h => hFc q h) hFc (fun r6 u5 t H1 locs ht hvm hw hB hz1 hk1 hS => ?_)
    obtain ⟨hP1, hK1, hD1⟩ := hB
    rw [ht] at hP1
    obtain ⟨hP, hD⟩ := va_join (wr := pickW (ceX11_noCorner cyI cyB cyJ cyZ a0 a1 b0_image b0_before b0_taken b0_tape b0_five b0_value b0_far b0_lead b0_walk b0_ends b0_manX b0_manY b0_dogX b0_dogY b0_row b0_round b0_farOne b0_leads b0_drags b0_from b0_near g0_thrown g0_hasImage g0_remembered g0_taped g0_point g0_end g0_begin g0_deep g0_faultAt g0_steps g0_men g0_dogs f1) [0, 1]) (w1 := ([] : va_W)) hP hD [] [0, 1] rfl rfl (by decide) (by decide) hk1 hFc hP1 hD1
    have hP := hP.sub (ws' := (ceX11_noCorner cyI cyB cyJ cyZ a0 a1 b0_image b0_before b0_taken b0_tape b0_five b0_value b0_far b0_lead b0_walk b0_ends b0_manX b0_manY b0_dogX b0_dogY b0_row b0_round b0_farOne b0_leads b0_drags b0_from b0_near g0_thrown g0_hasImage g0_remembered g0_taped g0_point g0_end g0_begin g0_deep g0_faultAt g0_steps g0_men g0_dogs f1)) [0, 1] rfl
    have hD := hD.sub (ws' := (ceX11_noCorner cyI cyB cyJ cyZ a0 a1 b0_image b0_before b0_taken b0_tape b0_five b0_value b0_far b0_lead b0_walk b0_ends b0_manX b0_manY b0_dogX b0_dogY b0_row b0_round b0_farOne b0_leads b0_drags b0_from b0_near g0_thrown g0_hasImage g0_remembered g0_taped g0_point g0_end g0_begin g0_deep g0_faultAt g0_steps g0_men g0_dogs f1)) [0, 1] (by decide) rfl
    generalize H1 = H at hP hS ⊢
    refine lv_if_ne (tgt := 27) hx hb dX11_noCorner_20 (by decide) (fun hc => ?_) (fun hc => ?_)
    · have hw := hw.1 hc
      refine lv_iconst (v := 0) hx hb dX11_noCorner_27 (by decide) ?_
      rw [hQ]
      exact W.zret (v := 0) (ty := .boolean) hx hb hr rfl (fun t ht hW => ⟨⟨0, (), rfl, hw, by rw [ht]; exact hP, va_K.moved hW.alike hK, hD⟩, hS.F ht⟩) hS.2.2 dX11_noCorner_28
    · have hw := hw.2 hc
      refine lv_iconst (v := 1) hx hb dX11_noCorner_23 (by decide) ?_
      refine lv_goto (tgt := 28) hx hb dX11_noCorner_24 (by decide) ?_
      rw [hQ]
      exact W.zret (v := 1) (ty := .boolean) hx hb hr rfl (fun t ht hW => ⟨⟨1, (), rfl, hw, by rw [ht]; exact hP, va_K.moved hW.alike hK, hD⟩, hS.F ht⟩) hS.2.2 dX11_noCorner_28
/-! LeadParkModel.ofMark (II)I -/
abbrev ceX11_ofMark (cyI cyB cyJ cyZ : ClassId) (a0 a1 b0_image b0_before b0_taken b0_tape b0_five b0_value b0_far b0_lead b0_walk b0_ends b0_manX b0_manY b0_dogX b0_dogY b0_row b0_round b0_farOne b0_leads b0_drags b0_from b0_near : Nat) (g0_thrown : Int32) (g0_hasImage : Int32) (g0_remembered : Int32) (g0_taped : Int32) (g0_point : Int32) (g0_end : Int32) (g0_begin : Int32) (g0_deep : Int32) (g0_faultAt : Int32) (g0_steps : Int32) (g0_men : Int32) (g0_dogs : Int32) (f1 : Nat → Int32) : va_W := [(a0, .inr (11, [.int g0_thrown, .ref a1, .ref b0_image, .ref b0_before, .int g0_hasImage, .ref b0_taken, .int g0_remembered, .ref b0_tape, .int g0_taped, .int g0_point, .int g0_end, .int g0_begin, .int g0_deep, .int g0_faultAt, .ref b0_five, .int g0_steps, .ref b0_value, .ref b0_far, .int g0_men, .int g0_dogs, .ref b0_lead, .ref b0_walk, .ref b0_ends, .ref b0_manX, .ref b0_manY, .ref b0_dogX, .ref b0_dogY, .ref b0_row, .ref b0_round, .ref b0_farOne, .ref b0_leads, .ref b0_drags, .ref b0_from, .ref b0_near])), (a1, .inl (cyI, 2508, .inl f1))]

theorem inX11_ofMark_X11 : ∀ w ∈ wsX110, w ∈ wsX11_ofMark := fun _ h => List.mem_cons_of_mem _ (List.mem_append_right _ h)
abbrev rmX11_ofMark : Room := { frames := 0, cells := 0, slots := 0, locals := 0 }
set_option maxRecDepth 100000 in
set_option maxHeartbeats 4000000 in
theorem ctX11_ofMark (l : Launch) (dC : Nat → ClassId) (dI : Nat → Nat → Nat) (cyI cyB cyJ cyZ : ClassId) (sz : Nat) (a0 a1 b0_image b0_before b0_taken b0_tape b0_five b0_value b0_far b0_lead b0_walk b0_ends b0_manX b0_manY b0_dogX b0_dogY b0_row b0_round b0_farOne b0_leads b0_drags b0_from b0_near : Nat) (g0_thrown : Int32) (g0_hasImage : Int32) (g0_remembered : Int32) (g0_taped : Int32) (g0_point : Int32) (g0_end : Int32) (g0_begin : Int32) (g0_deep : Int32) (g0_faultAt : Int32) (g0_steps : Int32) (g0_men : Int32) (g0_dogs : Int32) (f1 : Nat → Int32) (p0 : Int32) (p1 : Int32) (post : Int32 → Unit → Prop) (hw : wpX11_ofMark post f1 p0 p1) : Met l yX11_ofMark wsX11_ofMark rmX11_ofMark (va_Pc [.ref a0, .int p0, .int p1] (wPre dC dI cyI cyB cyJ cyZ sz (ceX11_ofMark cyI cyB cyJ cyZ a0 a1 b0_image b0_before b0_taken b0_tape b0_five b0_value b0_far b0_lead b0_walk b0_ends b0_manX b0_manY b0_dogX b0_dogY b0_row b0_round b0_farOne b0_leads b0_drags b0_from b0_near g0_thrown g0_hasImage g0_remembered g0_taped g0_point g0_end g0_begin g0_deep g0_faultAt g0_steps g0_men g0_dogs f1))) (va_Qi post (fun u : Unit => wAt dC dI cyI cyB cyJ cyZ (va_A (ceX11_ofMark cyI cyB cyJ cyZ a0 a1 b0_image b0_before b0_taken b0_tape b0_five b0_value b0_far b0_lead b0_walk b0_ends b0_manX b0_manY b0_dogX b0_dogY b0_row b0_round b0_farOne b0_leads b0_drags b0_from b0_near g0_thrown g0_hasImage g0_remembered g0_taped g0_point g0_end g0_begin g0_deep g0_faultAt g0_steps g0_men g0_dogs f1) sz) (ceX11_ofMark cyI cyB cyJ cyZ a0 a1 b0_image b0_before b0_taken b0_tape b0_five b0_value b0_far b0_lead b0_walk b0_ends b0_manX b0_manY b0_dogX b0_dogY b0_row b0_round b0_farOne b0_leads b0_drags b0_from b0_near g0_thrown g0_hasImage g0_remembered g0_taped g0_point g0_end g0_begin g0_deep g0_faultAt g0_steps g0_men g0_dogs f1)) (va_A (ceX11_ofMark cyI cyB cyJ cyZ a0 a1 b0_image b0_before b0_taken b0_tape b0_five b0_value b0_far b0_lead b0_walk b0_ends b0_manX b0_manY b0_dogX b0_dogY b0_row b0_round b0_farOne b0_leads b0_drags b0_from b0_near g0_thrown g0_hasImage g0_remembered g0_taped g0_point g0_end g0_begin g0_deep g0_faultAt g0_steps g0_men g0_dogs f1) sz)) 0 0 (va_A (ceX11_ofMark cyI cyB cyJ cyZ a0 a1 b0_image b0_before b0_taken b0_tape b0_five b0_value b0_far b0_lead b0_walk b0_ends b0_manX b0_manY b0_dogX b0_dogY b0_row b0_round b0_farOne b0_leads b0_drags b0_from b0_near g0_thrown g0_hasImage g0_remembered g0_taped g0_point g0_end g0_begin g0_deep g0_faultAt g0_steps g0_men g0_dogs f1) sz) := by
  refine Met.ofW (cc := cX11_ofMark) (maxL := 3) (ret := (some .int)) (by decide) rfl ?_
  intro p e s m args below meth c s₁ B hml hv
  obtain ⟨rfl, hsz, hP, hK, hD0, hN⟩ := hv
  have hx := B.exec
  have hb := B.bytes
  have hr := B.returns
  have hts := atoms_spec (ws := wsX11_ofMark) B.pre
  have hown : s.vm.findClass RX11 = some m.cls := findClass_of_methodNamed B.named
  have hlocks := B.notSynchronized
  subst hsz
  have hD := hD0.self (sz := s.heap.size)
  generalize hAe : va_A (ceX11_ofMark cyI cyB cyJ cyZ a0 a1 b0_image b0_before b0_taken b0_tape b0_five b0_value b0_far b0_lead b0_walk b0_ends b0_manX b0_manY b0_dogX b0_dogY b0_row b0_round b0_farOne b0_leads b0_drags b0_from b0_near g0_thrown g0_hasImage g0_remembered g0_taped g0_point g0_end g0_begin g0_deep g0_faultAt g0_steps g0_men g0_dogs f1) s.heap.size = A at hD ⊢
  have hA : ∀ q : Nat, s.heap.size ≤ q → A q := fun q h => by rw [← hAe]; exact Or.inr h
  have hS : va_S A s.heap s.heap [] := va_S.rf
  have C0 : cxM p s m meth c _ wsX11_ofMark RX11 cX11_ofMark 3 (some .int) := ⟨hx, hb, hr, hml, hown, hts, hlocks⟩
  have hl := lv_entry ([.ref a0, .int p0, .int p1]) (n := 3) (Nat.le_of_ble_eq_true rfl)
  rw [lg_entry_eq]
  generalize (lg_sl ([.ref a0, .int p0, .int p1]) ++ List.replicate (3 - (lg_sl ([.ref a0, .int p0, .int p1])).length) Slot.unset).toArray = ls at hl ⊢
  have hl : lv_has ls 3 [(0, .ref a0), (1, .int p0), (2, .int p1)] := hl
  show W p l e rmX11_ofMark s m _ below meth c _ _ _ _ _ _
  refine wq (fun Q hQ => ?_)
  refine lv_aload_n hx hb dX11_ofMark_0 rfl (lv_at hl 0 rfl) ?_
  refine va_get (D := (dC, dI)) (ci := 11) (v := .ref a1) (C := RX11) (T := TX11) (N := 34) hx hb hts inX11_ofMark_X11 hown hK hP 0 rfl rfl 1 (by decide) (hts (.fieldLink RX11 13 "LeadParkModel" "world" "[I") (List.mem_of_getElem? (i := 1) rfl)) (fun _ h9 => h9) rfl dX11_ofMark_1 ?_
  refine lv_sipush (v := 778) hx hb dX11_ofMark_4 (by decide) ?_
  refine lv_iconst (v := 4) hx hb dX11_ofMark_7 (by decide) ?_
  refine lv_iload_n hx hb dX11_ofMark_8 rfl (lv_at hl 1 rfl) ?_
  refine lv_imul hx hb dX11_ofMark_9 ?_
  refine lv_iadd hx hb dX11_ofMark_10 ?_
  refine lv_iload_n hx hb dX11_ofMark_11 rfl (lv_at hl 2 rfl) ?_
  refine lv_iadd hx hb dX11_ofMark_12 ?_
  obtain ⟨hi, hw⟩ := hw
  refine va_iald hx hb hK hP 1 0 rfl rfl hi dX11_ofMark_13 ?_
  rw [hQ]
  exact W.iret (v := f1 ((778 + (4 * p0)) + p1).toNatClampNeg) hx hb hr (fun t ht hW => ⟨⟨f1 ((778 + (4 * p0)) + p1).toNatClampNeg, (), rfl, hw, by rw [ht]; exact hP, va_K.moved hW.alike hK, hD⟩, hS.F ht⟩) hS.2.2 dX11_ofMark_14
/-! LeadParkModel.endsWalk ()V -/
abbrev ceX11_endsWalk (cyI cyB cyJ cyZ : ClassId) (a0 a1 b0_image b0_before b0_taken b0_tape b0_five b0_value b0_far b0_lead b0_walk b0_ends b0_manX b0_manY b0_dogX b0_dogY b0_row b0_round b0_farOne b0_leads b0_drags b0_from b0_near : Nat) (g0_thrown : Int32) (g0_hasImage : Int32) (g0_taped : Int32) (g0_point : Int32) (g0_end : Int32) (g0_begin : Int32) (g0_deep : Int32) (g0_faultAt : Int32) (g0_steps : Int32) (g0_men : Int32) (g0_dogs : Int32) (g0_remembered : Int32) (f1 : Nat → Int32) : va_W := [(a0, .inr (11, [.int g0_thrown, .ref a1, .ref b0_image, .ref b0_before, .int g0_hasImage, .ref b0_taken, .int g0_remembered, .ref b0_tape, .int g0_taped, .int g0_point, .int g0_end, .int g0_begin, .int g0_deep, .int g0_faultAt, .ref b0_five, .int g0_steps, .ref b0_value, .ref b0_far, .int g0_men, .int g0_dogs, .ref b0_lead, .ref b0_walk, .ref b0_ends, .ref b0_manX, .ref b0_manY, .ref b0_dogX, .ref b0_dogY, .ref b0_row, .ref b0_round, .ref b0_farOne, .ref b0_leads, .ref b0_drags, .ref b0_from, .ref b0_near])), (a1, .inl (cyI, 2508, .inl f1))]

theorem inX11_endsWalk_X11 : ∀ w ∈ wsX110, w ∈ wsX11_endsWalk := fun _ h => List.mem_cons_of_mem _ (List.mem_append_right _ h)
abbrev rmX11_endsWalk : Room := { frames := 0, cells := 0, slots := 0, locals := 0 }
set_option maxRecDepth 100000 in
set_option maxHeartbeats 4000000 in
theorem ctX11_endsWalk (l : Launch) (dC : Nat → ClassId) (dI : Nat → Nat → Nat) (cyI cyB cyJ cyZ : ClassId) (sz : Nat) (a0 a1 b0_image b0_before b0_taken b0_tape b0_five b0_value b0_far b0_lead b0_walk b0_ends b0_manX b0_manY b0_dogX b0_dogY b0_row b0_round b0_farOne b0_leads b0_drags b0_from b0_near : Nat) (g0_thrown : Int32) (g0_hasImage : Int32) (g0_taped : Int32) (g0_point : Int32) (g0_end : Int32) (g0_begin : Int32) (g0_deep : Int32) (g0_faultAt : Int32) (g0_steps : Int32) (g0_men : Int32) (g0_dogs : Int32) (g0_remembered : Int32) (f1 : Nat → Int32) (post : (Int32 × (Nat → Int32)) → Prop) (hw : wpX11_endsWalk post g0_remembered f1 ) : Met l yX11_endsWalk wsX11_endsWalk rmX11_endsWalk (va_Pc [.ref a0] (wPre dC dI cyI cyB cyJ cyZ sz (ceX11_endsWalk cyI cyB cyJ cyZ a0 a1 b0_image b0_before b0_taken b0_tape b0_five b0_value b0_far b0_lead b0_walk b0_ends b0_manX b0_manY b0_dogX b0_dogY b0_row b0_round b0_farOne b0_leads b0_drags b0_from b0_near g0_thrown g0_hasImage g0_taped g0_point g0_end g0_begin g0_deep g0_faultAt g0_steps g0_men g0_dogs g0_remembered f1))) (va_Qv post (fun u : Int32 × (Nat → Int32) => wAt dC dI cyI cyB cyJ cyZ (va_A (ceX11_endsWalk cyI cyB cyJ cyZ a0 a1 b0_image b0_before b0_taken b0_tape b0_five b0_value b0_far b0_lead b0_walk b0_ends b0_manX b0_manY b0_dogX b0_dogY b0_row b0_round b0_farOne b0_leads b0_drags b0_from b0_near g0_thrown g0_hasImage g0_taped g0_point g0_end g0_begin g0_deep g0_faultAt g0_steps g0_men g0_dogs g0_remembered f1) sz) (ceX11_endsWalk cyI cyB cyJ cyZ a0 a1 b0_image b0_before b0_taken b0_tape b0_five b0_value b0_far b0_lead b0_walk b0_ends b0_manX b0_manY b0_dogX b0_dogY b0_row b0_round b0_farOne b0_leads b0_drags b0_from b0_near g0_thrown g0_hasImage g0_taped g0_point g0_end g0_begin g0_deep g0_faultAt g0_steps g0_men g0_dogs u.1 u.2)) (va_A (ceX11_endsWalk cyI cyB cyJ cyZ a0 a1 b0_image b0_before b0_taken b0_tape b0_five b0_value b0_far b0_lead b0_walk b0_ends b0_manX b0_manY b0_dogX b0_dogY b0_row b0_round b0_farOne b0_leads b0_drags b0_from b0_near g0_thrown g0_hasImage g0_taped g0_point g0_end g0_begin g0_deep g0_faultAt g0_steps g0_men g0_dogs g0_remembered f1) sz)) 0 0 (va_A (ceX11_endsWalk cyI cyB cyJ cyZ a0 a1 b0_image b0_before b0_taken b0_tape b0_five b0_value b0_far b0_lead b0_walk b0_ends b0_manX b0_manY b0_dogX b0_dogY b0_row b0_round b0_farOne b0_leads b0_drags b0_from b0_near g0_thrown g0_hasImage g0_taped g0_point g0_end g0_begin g0_deep g0_faultAt g0_steps g0_men g0_dogs g0_remembered f1) sz) := by
  refine Met.ofW (cc := cX11_endsWalk) (maxL := 1) (ret := none) (by decide) rfl ?_
  intro p e s m args below meth c s₁ B hml hv
  obtain ⟨rfl, hsz, hP, hK, hD0, hN⟩ := hv
  have hx := B.exec
  have hb := B.bytes
  have hr := B.returns
  have hts := atoms_spec (ws := wsX11_endsWalk) B.pre
  have hown : s.vm.findClass RX11 = some m.cls := findClass_of_methodNamed B.named
  have hlocks := B.notSynchronized
  subst hsz
  have hD := hD0.self (sz := s.heap.size)
  generalize hAe : va_A (ceX11_endsWalk cyI cyB cyJ cyZ a0 a1 b0_image b0_before b0_taken b0_tape b0_five b0_value b0_far b0_lead b0_walk b0_ends b0_manX b0_manY b0_dogX b0_dogY b0_row b0_round b0_farOne b0_leads b0_drags b0_from b0_near g0_thrown g0_hasImage g0_taped g0_point g0_end g0_begin g0_deep g0_faultAt g0_steps g0_men g0_dogs g0_remembered f1) s.heap.size = A at hD ⊢
  have hA : ∀ q : Nat, s.heap.size ≤ q → A q := fun q h => by rw [← hAe]; exact Or.inr h
  have hS : va_S A s.heap s.heap [] := va_S.rf
  have C0 : cxM p s m meth c _ wsX11_endsWalk RX11 cX11_endsWalk 1 none := ⟨hx, hb, hr, hml, hown, hts, hlocks⟩
  have hl := lv_entry ([.ref a0]) (n := 1) (Nat.le_of_ble_eq_true rfl)
  rw [lg_entry_eq]
  generalize (lg_sl ([.ref a0]) ++ List.replicate (1 - (lg_sl ([.ref a0])).length) Slot.unset).toArray = ls at hl ⊢
  have hl : lv_has ls 1 [(0, .ref a0)] := hl
  show W p l e rmX11_endsWalk s m _ below meth c _ _ _ _ _ _
  refine wq (fun Q hQ => ?_)
  refine lv_aload_n hx hb dX11_endsWalk_0 rfl (lv_at hl 0 rfl) ?_
  refine va_get (D := (dC, dI)) (ci := 11) (v := .ref a1) (C := RX11) (T := TX11) (N := 34) hx hb hts inX11_endsWalk_X11 hown hK hP 0 rfl rfl 1 (by decide) (hts (.fieldLink RX11 13 "LeadParkModel" "world" "[I") (List.mem_of_getElem? (i := 1) rfl)) (fun _ h9 => h9) rfl dX11_endsWalk_1 ?_
  refine lv_bipush (v := 6) hx hb dX11_endsWalk_4 (by decide) ?_
  refine lv_iconst (v := 0) hx hb dX11_endsWalk_6 (by decide) ?_
  obtain ⟨hi, hw⟩ := hw
  refine va_iast hx hb hK hP hD hS 1 0 rfl rfl hi dX11_endsWalk_7 (fun H locs hP hD hS => ?_)
  have hP : va_P (dC, dI) vwCl (ceX11_endsWalk cyI cyB cyJ cyZ a0 a1 b0_image b0_before b0_taken b0_tape b0_five b0_value b0_far b0_lead b0_walk b0_ends b0_manX b0_manY b0_dogX b0_dogY b0_row b0_round b0_farOne b0_leads b0_drags b0_from b0_near g0_thrown g0_hasImage g0_taped g0_point g0_end g0_begin g0_deep g0_faultAt g0_steps g0_men g0_dogs g0_remembered (upd f1 (6 : Int32).toNatClampNeg 0)) H := hP
  have hD : va_D A (ceX11_endsWalk cyI cyB cyJ cyZ a0 a1 b0_image b0_before b0_taken b0_tape b0_five b0_value b0_far b0_lead b0_walk b0_ends b0_manX b0_manY b0_dogX b0_dogY b0_row b0_round b0_farOne b0_leads b0_drags b0_from b0_near g0_thrown g0_hasImage g0_taped g0_point g0_end g0_begin g0_deep g0_faultAt g0_steps g0_men g0_dogs g0_remembered (upd f1 (6 : Int32).toNatClampNeg 0)) := hD
  refine lv_aload_n hx hb dX11_endsWalk_8 rfl (lv_at hl 0 rfl) ?_
  refine lv_iconst (v := 0) hx hb dX11_endsWalk_9 (by decide) ?_
  refine va_put (D := (dC, dI)) (ci := 11) (v := .int 0) (ty := .int) (C := RX11) (T := TX11) (N := 34) hx hb hts inX11_endsWalk_X11 tyX11 tyX11_ok nmX11 hown hK hP hD hS 0 rfl rfl 6 (by decide) (hts (.fieldLink RX11 90 "LeadParkModel" "remembered" "I") (List.mem_of_getElem? (i := 2) rfl)) (fun _ h9 => h9) rfl (by decide +kernel) rfl rfl (Nat.le_of_ble_eq_true rfl) dX11_endsWalk_10 (fun H locs hP hD hS => ?_)
  have hP : va_P (dC, dI) vwCl (ceX11_endsWalk cyI cyB cyJ cyZ a0 a1 b0_image b0_before b0_taken b0_tape b0_five b0_value b0_far b0_lead b0_walk b0_ends b0_manX b0_manY b0_dogX b0_dogY b0_row b0_round b0_farOne b0_leads b0_drags b0_from b0_near g0_thrown g0_hasImage g0_taped g0_point g0_end g0_begin g0_deep g0_faultAt g0_steps g0_men g0_dogs 0 (upd f1 (6 : Int32).toNatClampNeg 0)) H := hP
  have hD : va_D A (ceX11_endsWalk cyI cyB cyJ cyZ a0 a1 b0_image b0_before b0_taken b0_tape b0_five b0_value b0_far b0_lead b0_walk b0_ends b0_manX b0_manY b0_dogX b0_dogY b0_row b0_round b0_farOne b0_leads b0_drags b0_from b0_near g0_thrown g0_hasImage g0_taped g0_point g0_end g0_begin g0_deep g0_faultAt g0_steps g0_men g0_dogs 0 (upd f1 (6 : Int32).toNatClampNeg 0)) := hD
  rw [hQ]
  exact W.vret hx hb hr (fun t ht hW => ⟨⟨(0, (upd f1 (6 : Int32).toNatClampNeg 0)), rfl, hw, by rw [ht]; exact hP, va_K.moved hW.alike hK, hD⟩, hS.F ht⟩) hS.2.2 dX11_endsWalk_13
/-! LeadParkModel.feed (IIIII)I -/
abbrev ceX11_feed (cyI cyB cyJ cyZ : ClassId) (a0 a1 a2 b0_world b0_image b0_before b0_taken b0_value b0_far b0_lead b0_walk b0_ends b0_manX b0_manY b0_dogX b0_dogY b0_row b0_round b0_farOne b0_leads b0_drags b0_from b0_near : Nat) (g0_hasImage : Int32) (g0_remembered : Int32) (g0_point : Int32) (g0_end : Int32) (g0_begin : Int32) (g0_deep : Int32) (g0_faultAt : Int32) (g0_steps : Int32) (g0_men : Int32) (g0_dogs : Int32) (g0_thrown : Int32) (g0_taped : Int32) (f1 : Nat → Int32) (f2 : Nat → Int32) : va_W := [(a0, .inr (11, [.int g0_thrown, .ref b0_world, .ref b0_image, .ref b0_before, .int g0_hasImage, .ref b0_taken, .int g0_remembered, .ref a2, .int g0_taped, .int g0_point, .int g0_end, .int g0_begin, .int g0_deep, .int g0_faultAt, .ref a1, .int g0_steps, .ref b0_value, .ref b0_far, .int g0_men, .int g0_dogs, .ref b0_lead, .ref b0_walk, .ref b0_ends, .ref b0_manX, .ref b0_manY, .ref b0_dogX, .ref b0_dogY, .ref b0_row, .ref b0_round, .ref b0_farOne, .ref b0_leads, .ref b0_drags, .ref b0_from, .ref b0_near])), (a1, .inl (cyI, 5, .inl f1)), (a2, .inl (cyB, 400, .inl f2))]

theorem inX11_feed_X11 : ∀ w ∈ wsX110, w ∈ wsX11_feed := fun _ h => List.mem_cons_of_mem _ (List.mem_append_right _ h)
abbrev rmX11_feed : Room := { frames := 0, cells := 0, slots := 0, locals := 0 }
set_option maxRecDepth 100000 in
set_option maxHeartbeats 4000000 in
theorem bX11_feed_60 {p : Program} {l : Launch} {e : Env} {s : State} {m : MethodId} {args : Array Value} {below : List Frame} {meth : Method} {c : Code} {dC : Nat → ClassId} {dI : Nat → Nat → Nat} {cyI cyB cyJ cyZ : ClassId} {A : Nat → Prop} {a0 a1 a2 b0_world b0_image b0_before b0_taken b0_value b0_far b0_lead b0_walk b0_ends b0_manX b0_manY b0_dogX b0_dogY b0_row b0_round b0_farOne b0_leads b0_drags b0_from b0_near : Nat} {g0_hasImage : Int32} {g0_remembered : Int32} {g0_point : Int32} {g0_end : Int32} {g0_begin : Int32} {g0_deep : Int32} {g0_faultAt : Int32} {g0_steps : Int32} {g0_men : Int32} {g0_dogs : Int32} (C0 : cxM p s m meth c args wsX11_feed RX11 cX11_feed 7 (some .int)) (hK : va_K (dC, dI) vwCl (tyA cyI cyB cyJ cyZ) s) (hN : nwA s) (hA : ∀ q : Nat, s.heap.size ≤ q → A q) {post : Int32 → (Int32 × Int32 × (Nat → Int32) × (Nat → Int32)) → Prop} {Q : State → Prop} (hQ : Q = MQ below (va_Qi post (fun u : Int32 × Int32 × (Nat → Int32) × (Nat → Int32) => wAt dC dI cyI cyB cyJ cyZ A (ceX11_feed cyI cyB cyJ cyZ a0 a1 a2 b0_world b0_image b0_before b0_taken b0_value b0_far b0_lead b0_walk b0_ends b0_manX b0_manY b0_dogX b0_dogY b0_row b0_round b0_farOne b0_leads b0_drags b0_from b0_near g0_hasImage g0_remembered g0_point g0_end g0_begin g0_deep g0_faultAt g0_steps g0_men g0_dogs u.1 u.2.1 u.2.2.1 u.2.2.2)) A) args s 0 0 A) : ∀ (n : Nat) (g0_thrown : Int32) (g0_taped : Int32) (f1 : Nat → Int32) (f2 : Nat → Int32) (x6 : Int32), wpX11_feed_60 post n g0_thrown g0_taped f1 f2 x6 → AtW p l e rmX11_feed s m args below meth c dC dI A Q 7 0 0 (ceX11_feed cyI cyB cyJ cyZ a0 a1 a2 b0_world b0_image b0_before b0_taken b0_value b0_far b0_lead b0_walk b0_ends b0_manX b0_manY b0_dogX b0_dogY b0_row b0_round b0_farOne b0_leads b0_drags b0_from b0_near g0_hasImage g0_remembered g0_point g0_end g0_begin g0_deep g0_faultAt g0_steps g0_men g0_dogs g0_thrown g0_taped f1 f2) [(0, .ref a0), (6, .int x6)] 60 [] := by
  intro n
  induction n with
  | zero => intro g0_thrown g0_taped f1 f2 x6 hw; exact False.elim hw
  | succ n ih =>
    intro g0_thrown g0_taped f1 f2 x6 hw H locs hP hD hS ls hl
    have C1 := C0
    obtain ⟨hx, hb, hr, hml, hown, hts, hlocks⟩ := C1
    refine lv_iload hx hb dX11_feed_60 (lv_at hl 1 rfl) ?_
    refine lv_bipush (v := 20) hx hb dX11_feed_62 (by decide) ?_
    refine lv_icmp_ge (tgt := 106) hx hb dX11_feed_64 (by decide) (fun hc => ?_) (fun hc => ?_)
    · have hw := hw.1 hc
      refine lv_aload_n hx hb dX11_feed_106 rfl (lv_at hl 0 rfl) ?_
      refine lv_dup hx hb dX11_feed_107 rfl ?_
      refine va_get (D := (dC, dI)) (ci := 11) (v := .int g0_taped) (C := RX11) (T := TX11) (N := 34) hx hb hts inX11_feed_X11 hown hK hP 0 rfl rfl 8 (by decide) (hts (.fieldLink RX11 109 "LeadParkModel" "taped" "I") (List.mem_of_getElem? (i := 2) rfl)) (fun _ h9 => h9) rfl dX11_feed_108 ?_
      refine lv_bipush (v := 20) hx hb dX11_feed_111 (by decide) ?_
      refine lv_iadd hx hb dX11_feed_113 ?_
      refine lv_topi (fun v1 ev1 => ?_)
      have hw := hw v1 ev1
      refine va_put (D := (dC, dI)) (ci := 11) (v := .int v1) (ty := .int) (C := RX11) (T := TX11) (N := 34) hx hb hts inX11_feed_X11 tyX11 tyX11_ok nmX11 hown hK hP hD hS 0 rfl rfl 8 (by decide) (hts (.fieldLink RX11 109 "LeadParkModel" "taped" "I") (List.mem_of_getElem? (i := 2) rfl)) (fun _ h9 => h9) rfl (by decide +kernel) rfl rfl (Nat.le_of_ble_eq_true rfl) dX11_feed_114 (fun H locs hP hD hS => ?_)
      have hP : va_P (dC, dI) vwCl (ceX11_feed cyI cyB cyJ cyZ a0 a1 a2 b0_world b0_image b0_before b0_taken b0_value b0_far b0_lead b0_walk b0_ends b0_manX b0_manY b0_dogX b0_dogY b0_row b0_round b0_farOne b0_leads b0_drags b0_from b0_near g0_hasImage g0_remembered g0_point g0_end g0_begin g0_deep g0_faultAt g0_steps g0_men g0_dogs g0_thrown v1 f1 f2) H := hP
      have hD : va_D A (ceX11_feed cyI cyB cyJ cyZ a0 a1 a2 b0_world b0_image b0_before b0_taken b0_value b0_far b0_lead b0_walk b0_ends b0_manX b0_manY b0_dogX b0_dogY b0_row b0_round b0_farOne b0_leads b0_drags b0_from b0_near g0_hasImage g0_remembered g0_point g0_end g0_begin g0_deep g0_faultAt g0_steps g0_men g0_dogs g0_thrown v1 f1 f2) := hD
      refine lv_aload_n hx hb dX11_feed_117 rfl (lv_at hl 0 rfl) ?_
      refine va_get (D := (dC, dI)) (ci := 11) (v := .int v1) (C := RX11) (T := TX11) (N := 34) hx hb hts inX11_feed_X11 hown hK hP 0 rfl rfl 8 (by decide) (hts (.fieldLink RX11 109 "LeadParkModel" "taped" "I") (List.mem_of_getElem? (i := 2) rfl)) (fun _ h9 => h9) rfl dX11_feed_118 ?_
      rw [hQ]
      exact W.iret (v := v1) hx hb hr (fun t ht hW => ⟨⟨v1, (g0_thrown, v1, f1, f2), rfl, hw, by rw [ht]; exact hP, va_K.moved hW.alike hK, hD⟩, hS.F ht⟩) hS.2.2 dX11_feed_121
    · have hw := hw.2 hc
      refine lv_aload_n hx hb dX11_feed_67 rfl (lv_at hl 0 rfl) ?_
      refine va_get (D := (dC, dI)) (ci := 11) (v := .ref a2) (C := RX11) (T := TX11) (N := 34) hx hb hts inX11_feed_X11 hown hK hP 0 rfl rfl 7 (by decide) (hts (.fieldLink RX11 26 "LeadParkModel" "tape" "[B") (List.mem_of_getElem? (i := 4) rfl)) (fun _ h9 => h9) rfl dX11_feed_68 ?_
      refine lv_aload_n hx hb dX11_feed_71 rfl (lv_at hl 0 rfl) ?_
      refine va_get (D := (dC, dI)) (ci := 11) (v := .int g0_taped) (C := RX11) (T := TX11) (N := 34) hx hb hts inX11_feed_X11 hown hK hP 0 rfl rfl 8 (by decide) (hts (.fieldLink RX11 109 "LeadParkModel" "taped" "I") (List.mem_of_getElem? (i := 2) rfl)) (fun _ h9 => h9) rfl dX11_feed_72 ?_
      refine lv_iload hx hb dX11_feed_75 (lv_at hl 1 rfl) ?_
      refine lv_iadd hx hb dX11_feed_77 ?_
      refine lv_aload_n hx hb dX11_feed_78 rfl (lv_at hl 0 rfl) ?_
      refine va_get (D := (dC, dI)) (ci := 11) (v := .ref a1) (C := RX11) (T := TX11) (N := 34) hx hb hts inX11_feed_X11 hown hK hP 0 rfl rfl 14 (by decide) (hts (.fieldLink RX11 33 "LeadParkModel" "five" "[I") (List.mem_of_getElem? (i := 3) rfl)) (fun _ h9 => h9) rfl dX11_feed_79 ?_
      refine lv_iload hx hb dX11_feed_82 (lv_at hl 1 rfl) ?_
      refine lv_iconst (v := 4) hx hb dX11_feed_84 (by decide) ?_
      refine lv_idiv hx hb dX11_feed_85 (by decide) ?_
      obtain ⟨hi, hw⟩ := hw
      refine va_iald hx hb hK hP 1 0 rfl rfl hi dX11_feed_86 ?_
      refine lv_bipush (v := 24) hx hb dX11_feed_87 (by decide) ?_
      refine lv_bipush (v := 8) hx hb dX11_feed_89 (by decide) ?_
      refine lv_iload hx hb dX11_feed_91 (lv_at hl 1 rfl) ?_
      refine lv_iconst (v := 4) hx hb dX11_feed_93 (by decide) ?_
      refine lv_irem hx hb dX11_feed_94 (by decide) ?_
      refine lv_imul hx hb dX11_feed_95 ?_
      refine lv_isub hx hb dX11_feed_96 ?_
      refine lv_ishr hx hb dX11_feed_97 ?_
      refine lv_i2b hx hb dX11_feed_98 rfl ?_
      obtain ⟨hi, hw⟩ := hw
      refine va_bast hx hb hK hP hD hS 2 1 rfl rfl hi dX11_feed_99 (fun H locs hP hD hS => ?_)
      have hP : va_P (dC, dI) vwCl (ceX11_feed cyI cyB cyJ cyZ a0 a1 a2 b0_world b0_image b0_before b0_taken b0_value b0_far b0_lead b0_walk b0_ends b0_manX b0_manY b0_dogX b0_dogY b0_row b0_round b0_farOne b0_leads b0_drags b0_from b0_near g0_hasImage g0_remembered g0_point g0_end g0_begin g0_deep g0_faultAt g0_steps g0_men g0_dogs g0_thrown g0_taped f1 (upd f2 (g0_taped + x6).toNatClampNeg (vp_nar .byte (((f1 (x6 / 4).toNatClampNeg) >>> ((24 - (8 * (x6 - x6 / 4 * 4))) &&& 31)).toInt8.toInt32)))) H := hP
      have hD : va_D A (ceX11_feed cyI cyB cyJ cyZ a0 a1 a2 b0_world b0_image b0_before b0_taken b0_value b0_far b0_lead b0_walk b0_ends b0_manX b0_manY b0_dogX b0_dogY b0_row b0_round b0_farOne b0_leads b0_drags b0_from b0_near g0_hasImage g0_remembered g0_point g0_end g0_begin g0_deep g0_faultAt g0_steps g0_men g0_dogs g0_thrown g0_taped f1 (upd f2 (g0_taped + x6).toNatClampNeg (vp_nar .byte (((f1 (x6 / 4).toNatClampNeg) >>> ((24 - (8 * (x6 - x6 / 4 * 4))) &&& 31)).toInt8.toInt32)))) := hD
      obtain ⟨v2, ev2⟩ : ∃ y : Int32, y = x6 + 1 := ⟨_, rfl⟩
      have hw := hw v2 ev2
      refine lv_iinc (v := v2) (lv' := [(6, .int v2), (0, .ref a0)]) hx hb dX11_feed_100 hl (k := 1) rfl (by rw [ev2]; rfl) (by decide) rfl (fun ls hl => ?_)
      refine lv_goto (tgt := 60) hx hb dX11_feed_103 (by decide) ?_
      exact ih g0_thrown g0_taped f1 (upd f2 (g0_taped + x6).toNatClampNeg (vp_nar .byte (((f1 (x6 / 4).toNatClampNeg) >>> ((24 - (8 * (x6 - x6 / 4 * 4))) &&& 31)).toInt8.toInt32))) v2 hw H locs hP hD hS ls (lv_sub hl [1, 0] rfl)
set_option maxRecDepth 100000 in
set_option maxHeartbeats 4000000 in
theorem ctX11_feed (l : Launch) (dC : Nat → ClassId) (dI : Nat → Nat → Nat) (cyI cyB cyJ cyZ : ClassId) (sz : Nat) (a0 a1 a2 b0_world b0_image b0_before b0_taken b0_value b0_far b0_lead b0_walk b0_ends b0_manX b0_manY b0_dogX b0_dogY b0_row b0_round b0_farOne b0_leads b0_drags b0_from b0_near : Nat) (g0_hasImage : Int32) (g0_remembered : Int32) (g0_point : Int32) (g0_end : Int32) (g0_begin : Int32) (g0_deep : Int32) (g0_faultAt : Int32) (g0_steps : Int32) (g0_men : Int32) (g0_dogs : Int32) (g0_thrown : Int32) (g0_taped : Int32) (f1 : Nat → Int32) (f2 : Nat → Int32) (p0 : Int32) (p1 : Int32) (p2 : Int32) (p3 : Int32) (p4 : Int32) (post : Int32 → (Int32 × Int32 × (Nat → Int32) × (Nat → Int32)) → Prop) (hw : wpX11_feed post g0_thrown g0_taped f1 f2 p0 p1 p2 p3 p4) : Met l yX11_feed wsX11_feed rmX11_feed (va_Pc [.ref a0, .int p0, .int p1, .int p2, .int p3, .int p4] (wPre dC dI cyI cyB cyJ cyZ sz (ceX11_feed cyI cyB cyJ cyZ a0 a1 a2 b0_world b0_image b0_before b0_taken b0_value b0_far b0_lead b0_walk b0_ends b0_manX b0_manY b0_dogX b0_dogY b0_row b0_round b0_farOne b0_leads b0_drags b0_from b0_near g0_hasImage g0_remembered g0_point g0_end g0_begin g0_deep g0_faultAt g0_steps g0_men g0_dogs g0_thrown g0_taped f1 f2))) (va_Qi post (fun u : Int32 × Int32 × (Nat → Int32) × (Nat → Int32) => wAt dC dI cyI cyB cyJ cyZ (va_A (ceX11_feed cyI cyB cyJ cyZ a0 a1 a2 b0_world b0_image b0_before b0_taken b0_value b0_far b0_lead b0_walk b0_ends b0_manX b0_manY b0_dogX b0_dogY b0_row b0_round b0_farOne b0_leads b0_drags b0_from b0_near g0_hasImage g0_remembered g0_point g0_end g0_begin g0_deep g0_faultAt g0_steps g0_men g0_dogs g0_thrown g0_taped f1 f2) sz) (ceX11_feed cyI cyB cyJ cyZ a0 a1 a2 b0_world b0_image b0_before b0_taken b0_value b0_far b0_lead b0_walk b0_ends b0_manX b0_manY b0_dogX b0_dogY b0_row b0_round b0_farOne b0_leads b0_drags b0_from b0_near g0_hasImage g0_remembered g0_point g0_end g0_begin g0_deep g0_faultAt g0_steps g0_men g0_dogs u.1 u.2.1 u.2.2.1 u.2.2.2)) (va_A (ceX11_feed cyI cyB cyJ cyZ a0 a1 a2 b0_world b0_image b0_before b0_taken b0_value b0_far b0_lead b0_walk b0_ends b0_manX b0_manY b0_dogX b0_dogY b0_row b0_round b0_farOne b0_leads b0_drags b0_from b0_near g0_hasImage g0_remembered g0_point g0_end g0_begin g0_deep g0_faultAt g0_steps g0_men g0_dogs g0_thrown g0_taped f1 f2) sz)) 0 0 (va_A (ceX11_feed cyI cyB cyJ cyZ a0 a1 a2 b0_world b0_image b0_before b0_taken b0_value b0_far b0_lead b0_walk b0_ends b0_manX b0_manY b0_dogX b0_dogY b0_row b0_round b0_farOne b0_leads b0_drags b0_from b0_near g0_hasImage g0_remembered g0_point g0_end g0_begin g0_deep g0_faultAt g0_steps g0_men g0_dogs g0_thrown g0_taped f1 f2) sz) := by
  refine Met.ofW (cc := cX11_feed) (maxL := 7) (ret := (some .int)) (by decide) rfl ?_
  intro p e s m args below meth c s₁ B hml hv
  obtain ⟨rfl, hsz, hP, hK, hD0, hN⟩ := hv
  have hx := B.exec
  have hb := B.bytes
  have hr := B.returns
  have hts := atoms_spec (ws := wsX11_feed) B.pre
  have hown : s.vm.findClass RX11 = some m.cls := findClass_of_methodNamed B.named
  have hlocks := B.notSynchronized
  subst hsz
  have hD := hD0.self (sz := s.heap.size)
  generalize hAe : va_A (ceX11_feed cyI cyB cyJ cyZ a0 a1 a2 b0_world b0_image b0_before b0_taken b0_value b0_far b0_lead b0_walk b0_ends b0_manX b0_manY b0_dogX b0_dogY b0_row b0_round b0_farOne b0_leads b0_drags b0_from b0_near g0_hasImage g0_remembered g0_point g0_end g0_begin g0_deep g0_faultAt g0_steps g0_men g0_dogs g0_thrown g0_taped f1 f2) s.heap.size = A at hD ⊢
  have hA : ∀ q : Nat, s.heap.size ≤ q → A q := fun q h => by rw [← hAe]; exact Or.inr h
  have hS : va_S A s.heap s.heap [] := va_S.rf
  have C0 : cxM p s m meth c _ wsX11_feed RX11 cX11_feed 7 (some .int) := ⟨hx, hb, hr, hml, hown, hts, hlocks⟩
  have hl := lv_entry ([.ref a0, .int p0, .int p1, .int p2, .int p3, .int p4]) (n := 7) (Nat.le_of_ble_eq_true rfl)
  rw [lg_entry_eq]
  generalize (lg_sl ([.ref a0, .int p0, .int p1, .int p2, .int p3, .int p4]) ++ List.replicate (7 - (lg_sl ([.ref a0, .int p0, .int p1, .int p2, .int p3, .int p4])).length) Slot.unset).toArray = ls at hl ⊢
  have hl : lv_has ls 7 [(0, .ref a0), (1, .int p0), (2, .int p1), (3, .int p2), (4, .int p3), (5, .int p4)] := hl
  show W p l e rmX11_feed s m _ below meth c _ _ _ _ _ _
  refine wq (fun Q hQ => ?_)
  refine lv_aload_n hx hb dX11_feed_0 rfl (lv_at hl 0 rfl) ?_
  refine lv_iconst (v := 0) hx hb dX11_feed_1 (by decide) ?_
  refine va_put (D := (dC, dI)) (ci := 11) (v := .int 0) (ty := .int) (C := RX11) (T := TX11) (N := 34) hx hb hts inX11_feed_X11 tyX11 tyX11_ok nmX11 hown hK hP hD hS 0 rfl rfl 0 (by decide) (hts (.fieldLink RX11 3 "LeadParkModel" "thrown" "I") (List.mem_of_getElem? (i := 1) rfl)) (fun _ h9 => h9) rfl (by decide +kernel) rfl rfl (Nat.le_of_ble_eq_true rfl) dX11_feed_2 (fun H locs hP hD hS => ?_)
  have hP : va_P (dC, dI) vwCl (ceX11_feed cyI cyB cyJ cyZ a0 a1 a2 b0_world b0_image b0_before b0_taken b0_value b0_far b0_lead b0_walk b0_ends b0_manX b0_manY b0_dogX b0_dogY b0_row b0_round b0_farOne b0_leads b0_drags b0_from b0_near g0_hasImage g0_remembered g0_point g0_end g0_begin g0_deep g0_faultAt g0_steps g0_men g0_dogs 0 g0_taped f1 f2) H := hP
  have hD : va_D A (ceX11_feed cyI cyB cyJ cyZ a0 a1 a2 b0_world b0_image b0_before b0_taken b0_value b0_far b0_lead b0_walk b0_ends b0_manX b0_manY b0_dogX b0_dogY b0_row b0_round b0_farOne b0_leads b0_drags b0_from b0_near g0_hasImage g0_remembered g0_point g0_end g0_begin g0_deep g0_faultAt g0_steps g0_men g0_dogs 0 g0_taped f1 f2) := hD
  refine lv_aload_n hx hb dX11_feed_5 rfl (lv_at hl 0 rfl) ?_
  refine va_get (D := (dC, dI)) (ci := 11) (v := .int g0_taped) (C := RX11) (T := TX11) (N := 34) hx hb hts inX11_feed_X11 hown hK hP 0 rfl rfl 8 (by decide) (hts (.fieldLink RX11 109 "LeadParkModel" "taped" "I") (List.mem_of_getElem? (i := 2) rfl)) (fun _ h9 => h9) rfl dX11_feed_6 ?_
  refine lv_bipush (v := 20) hx hb dX11_feed_9 (by decide) ?_
  refine lv_iadd hx hb dX11_feed_11 ?_
  refine lv_sipush (v := 400) hx hb dX11_feed_12 (by decide) ?_
  refine lv_icmp_le (tgt := 20) hx hb dX11_feed_15 (by decide) (fun hc => ?_) (fun hc => ?_)
  · have hw := hw.1 hc
    refine lv_aload_n hx hb dX11_feed_20 rfl (lv_at hl 0 rfl) ?_
    refine va_get (D := (dC, dI)) (ci := 11) (v := .ref a1) (C := RX11) (T := TX11) (N := 34) hx hb hts inX11_feed_X11 hown hK hP 0 rfl rfl 14 (by decide) (hts (.fieldLink RX11 33 "LeadParkModel" "five" "[I") (List.mem_of_getElem? (i := 3) rfl)) (fun _ h9 => h9) rfl dX11_feed_21 ?_
    refine lv_iconst (v := 0) hx hb dX11_feed_24 (by decide) ?_
    refine lv_iload_n hx hb dX11_feed_25 rfl (lv_at hl 1 rfl) ?_
    obtain ⟨hi, hw⟩ := hw
    refine va_iast hx hb hK hP hD hS 1 0 rfl rfl hi dX11_feed_26 (fun H locs hP hD hS => ?_)
    have hP : va_P (dC, dI) vwCl (ceX11_feed cyI cyB cyJ cyZ a0 a1 a2 b0_world b0_image b0_before b0_taken b0_value b0_far b0_lead b0_walk b0_ends b0_manX b0_manY b0_dogX b0_dogY b0_row b0_round b0_farOne b0_leads b0_drags b0_from b0_near g0_hasImage g0_remembered g0_point g0_end g0_begin g0_deep g0_faultAt g0_steps g0_men g0_dogs 0 g0_taped (upd f1 (0 : Int32).toNatClampNeg p0) f2) H := hP
    have hD : va_D A (ceX11_feed cyI cyB cyJ cyZ a0 a1 a2 b0_world b0_image b0_before b0_taken b0_value b0_far b0_lead b0_walk b0_ends b0_manX b0_manY b0_dogX b0_dogY b0_row b0_round b0_farOne b0_leads b0_drags b0_from b0_near g0_hasImage g0_remembered g0_point g0_end g0_begin g0_deep g0_faultAt g0_steps g0_men g0_dogs 0 g0_taped (upd f1 (0 : Int32).toNatClampNeg p0) f2) := hD
    refine lv_aload_n hx hb dX11_feed_27 rfl (lv_at hl 0 rfl) ?_
    refine va_get (D := (dC, dI)) (ci := 11) (v := .ref a1) (C := RX11) (T := TX11) (N := 34) hx hb hts inX11_feed_X11 hown hK hP 0 rfl rfl 14 (by decide) (hts (.fieldLink RX11 33 "LeadParkModel" "five" "[I") (List.mem_of_getElem? (i := 3) rfl)) (fun _ h9 => h9) rfl dX11_feed_28 ?_
    refine lv_iconst (v := 1) hx hb dX11_feed_31 (by decide) ?_
    refine lv_iload_n hx hb dX11_feed_32 rfl (lv_at hl 2 rfl) ?_
    obtain ⟨hi, hw⟩ := hw
    refine va_iast hx hb hK hP hD hS 1 0 rfl rfl hi dX11_feed_33 (fun H locs hP hD hS => ?_)
    have hP : va_P (dC, dI) vwCl (ceX11_feed cyI cyB cyJ cyZ a0 a1 a2 b0_world b0_image b0_before b0_taken b0_value b0_far b0_lead b0_walk b0_ends b0_manX b0_manY b0_dogX b0_dogY b0_row b0_round b0_farOne b0_leads b0_drags b0_from b0_near g0_hasImage g0_remembered g0_point g0_end g0_begin g0_deep g0_faultAt g0_steps g0_men g0_dogs 0 g0_taped (upd (upd f1 (0 : Int32).toNatClampNeg p0) (1 : Int32).toNatClampNeg p1) f2) H := hP
    have hD : va_D A (ceX11_feed cyI cyB cyJ cyZ a0 a1 a2 b0_world b0_image b0_before b0_taken b0_value b0_far b0_lead b0_walk b0_ends b0_manX b0_manY b0_dogX b0_dogY b0_row b0_round b0_farOne b0_leads b0_drags b0_from b0_near g0_hasImage g0_remembered g0_point g0_end g0_begin g0_deep g0_faultAt g0_steps g0_men g0_dogs 0 g0_taped (upd (upd f1 (0 : Int32).toNatClampNeg p0) (1 : Int32).toNatClampNeg p1) f2) := hD
    refine lv_aload_n hx hb dX11_feed_34 rfl (lv_at hl 0 rfl) ?_
    refine va_get (D := (dC, dI)) (ci := 11) (v := .ref a1) (C := RX11) (T := TX11) (N := 34) hx hb hts inX11_feed_X11 hown hK hP 0 rfl rfl 14 (by decide) (hts (.fieldLink RX11 33 "LeadParkModel" "five" "[I") (List.mem_of_getElem? (i := 3) rfl)) (fun _ h9 => h9) rfl dX11_feed_35 ?_
    refine lv_iconst (v := 2) hx hb dX11_feed_38 (by decide) ?_
    refine lv_iload_n hx hb dX11_feed_39 rfl (lv_at hl 3 rfl) ?_
    obtain ⟨hi, hw⟩ := hw
    refine va_iast hx hb hK hP hD hS 1 0 rfl rfl hi dX11_feed_40 (fun H locs hP hD hS => ?_)
    have hP : va_P (dC, dI) vwCl (ceX11_feed cyI cyB cyJ cyZ a0 a1 a2 b0_world b0_image b0_before b0_taken b0_value b0_far b0_lead b0_walk b0_ends b0_manX b0_manY b0_dogX b0_dogY b0_row b0_round b0_farOne b0_leads b0_drags b0_from b0_near g0_hasImage g0_remembered g0_point g0_end g0_begin g0_deep g0_faultAt g0_steps g0_men g0_dogs 0 g0_taped (upd (upd (upd f1 (0 : Int32).toNatClampNeg p0) (1 : Int32).toNatClampNeg p1) (2 : Int32).toNatClampNeg p2) f2) H := hP
    have hD : va_D A (ceX11_feed cyI cyB cyJ cyZ a0 a1 a2 b0_world b0_image b0_before b0_taken b0_value b0_far b0_lead b0_walk b0_ends b0_manX b0_manY b0_dogX b0_dogY b0_row b0_round b0_farOne b0_leads b0_drags b0_from b0_near g0_hasImage g0_remembered g0_point g0_end g0_begin g0_deep g0_faultAt g0_steps g0_men g0_dogs 0 g0_taped (upd (upd (upd f1 (0 : Int32).toNatClampNeg p0) (1 : Int32).toNatClampNeg p1) (2 : Int32).toNatClampNeg p2) f2) := hD
    refine lv_aload_n hx hb dX11_feed_41 rfl (lv_at hl 0 rfl) ?_
    refine va_get (D := (dC, dI)) (ci := 11) (v := .ref a1) (C := RX11) (T := TX11) (N := 34) hx hb hts inX11_feed_X11 hown hK hP 0 rfl rfl 14 (by decide) (hts (.fieldLink RX11 33 "LeadParkModel" "five" "[I") (List.mem_of_getElem? (i := 3) rfl)) (fun _ h9 => h9) rfl dX11_feed_42 ?_
    refine lv_iconst (v := 3) hx hb dX11_feed_45 (by decide) ?_
    refine lv_iload hx hb dX11_feed_46 (lv_at hl 4 rfl) ?_
    obtain ⟨hi, hw⟩ := hw
    refine va_iast hx hb hK hP hD hS 1 0 rfl rfl hi dX11_feed_48 (fun H locs hP hD hS => ?_)
    have hP : va_P (dC, dI) vwCl (ceX11_feed cyI cyB cyJ cyZ a0 a1 a2 b0_world b0_image b0_before b0_taken b0_value b0_far b0_lead b0_walk b0_ends b0_manX b0_manY b0_dogX b0_dogY b0_row b0_round b0_farOne b0_leads b0_drags b0_from b0_near g0_hasImage g0_remembered g0_point g0_end g0_begin g0_deep g0_faultAt g0_steps g0_men g0_dogs 0 g0_taped (upd (upd (upd (upd f1 (0 : Int32).toNatClampNeg p0) (1 : Int32).toNatClampNeg p1) (2 : Int32).toNatClampNeg p2) (3 : Int32).toNatClampNeg p3) f2) H := hP
    have hD : va_D A (ceX11_feed cyI cyB cyJ cyZ a0 a1 a2 b0_world b0_image b0_before b0_taken b0_value b0_far b0_lead b0_walk b0_ends b0_manX b0_manY b0_dogX b0_dogY b0_row b0_round b0_farOne b0_leads b0_drags b0_from b0_near g0_hasImage g0_remembered g0_point g0_end g0_begin g0_deep g0_faultAt g0_steps g0_men g0_dogs 0 g0_taped (upd (upd (upd (upd f1 (0 : Int32).toNatClampNeg p0) (1 : Int32).toNatClampNeg p1) (2 : Int32).toNatClampNeg p2) (3 : Int32).toNatClampNeg p3) f2) := hD
    refine lv_aload_n hx hb dX11_feed_49 rfl (lv_at hl 0 rfl) ?_
    refine va_get (D := (dC, dI)) (ci := 11) (v := .ref a1) (C := RX11) (T := TX11) (N := 34) hx hb hts inX11_feed_X11 hown hK hP 0 rfl rfl 14 (by decide) (hts (.fieldLink RX11 33 "LeadParkModel" "five" "[I") (List.mem_of_getElem? (i := 3) rfl)) (fun _ h9 => h9) rfl dX11_feed_50 ?_
    refine lv_iconst (v := 4) hx hb dX11_feed_53 (by decide) ?_
    refine lv_iload hx hb dX11_feed_54 (lv_at hl 5 rfl) ?_
    obtain ⟨hi, hw⟩ := hw
    refine va_iast hx hb hK hP hD hS 1 0 rfl rfl hi dX11_feed_56 (fun H locs hP hD hS => ?_)
    have hP : va_P (dC, dI) vwCl (ceX11_feed cyI cyB cyJ cyZ a0 a1 a2 b0_world b0_image b0_before b0_taken b0_value b0_far b0_lead b0_walk b0_ends b0_manX b0_manY b0_dogX b0_dogY b0_row b0_round b0_farOne b0_leads b0_drags b0_from b0_near g0_hasImage g0_remembered g0_point g0_end g0_begin g0_deep g0_faultAt g0_steps g0_men g0_dogs 0 g0_taped (upd (upd (upd (upd (upd f1 (0 : Int32).toNatClampNeg p0) (1 : Int32).toNatClampNeg p1) (2 : Int32).toNatClampNeg p2) (3 : Int32).toNatClampNeg p3) (4 : Int32).toNatClampNeg p4) f2) H := hP
    have hD : va_D A (ceX11_feed cyI cyB cyJ cyZ a0 a1 a2 b0_world b0_image b0_before b0_taken b0_value b0_far b0_lead b0_walk b0_ends b0_manX b0_manY b0_dogX b0_dogY b0_row b0_round b0_farOne b0_leads b0_drags b0_from b0_near g0_hasImage g0_remembered g0_point g0_end g0_begin g0_deep g0_faultAt g0_steps g0_men g0_dogs 0 g0_taped (upd (upd (upd (upd (upd f1 (0 : Int32).toNatClampNeg p0) (1 : Int32).toNatClampNeg p1) (2 : Int32).toNatClampNeg p2) (3 : Int32).toNatClampNeg p3) (4 : Int32).toNatClampNeg p4) f2) := hD
    refine lv_iconst (v := 0) hx hb dX11_feed_57 (by decide) ?_
    refine lv_istore (lv' := [(6, .int 0), (0, .ref a0), (1, .int p0), (2, .int p1), (3, .int p2), (4, .int p3), (5, .int p4)]) hx hb dX11_feed_58 hl (by decide) rfl (fun ls hl => ?_)
    obtain ⟨nn, hw⟩ := hw
    exact bX11_feed_60 C0 hK hN hA hQ nn 0 g0_taped (upd (upd (upd (upd (upd f1 (0 : Int32).toNatClampNeg p0) (1 : Int32).toNatClampNeg p1) (2 : Int32).toNatClampNeg p2) (3 : Int32).toNatClampNeg p3) (4 : Int32).toNatClampNeg p4) f2 0 hw _ _ hP hD hS ls (lv_sub hl [1, 0] rfl)
  · have hw := hw.2 hc
    refine lv_iconst (v := (-1)) hx hb dX11_feed_18 (by decide) ?_
    rw [hQ]
    exact W.iret (v := (-1)) hx hb hr (fun t ht hW => ⟨⟨(-1), (0, g0_taped, f1, f2), rfl, hw, by rw [ht]; exact hP, va_K.moved hW.alike hK, hD⟩, hS.F ht⟩) hS.2.2 dX11_feed_19
/-! LeadParkModel.end (I)Z -/
abbrev ceX11_end (cyI cyB cyJ cyZ : ClassId) (a0 b0_world b0_image b0_before b0_taken b0_tape b0_five b0_value b0_far b0_lead b0_walk b0_ends b0_manX b0_manY b0_dogX b0_dogY b0_row b0_round b0_farOne b0_leads b0_drags b0_from b0_near : Nat) (g0_hasImage : Int32) (g0_remembered : Int32) (g0_point : Int32) (g0_end : Int32) (g0_begin : Int32) (g0_deep : Int32) (g0_faultAt : Int32) (g0_steps : Int32) (g0_men : Int32) (g0_dogs : Int32) (g0_thrown : Int32) (g0_taped : Int32) : va_W := [(a0, .inr (11, [.int g0_thrown, .ref b0_world, .ref b0_image, .ref b0_before, .int g0_hasImage, .ref b0_taken, .int g0_remembered, .ref b0_tape, .int g0_taped, .int g0_point, .int g0_end, .int g0_begin, .int g0_deep, .int g0_faultAt, .ref b0_five, .int g0_steps, .ref b0_value, .ref b0_far, .int g0_men, .int g0_dogs, .ref b0_lead, .ref b0_walk, .ref b0_ends, .ref b0_manX, .ref b0_manY, .ref b0_dogX, .ref b0_dogY, .ref b0_row, .ref b0_round, .ref b0_farOne, .ref b0_leads, .ref b0_drags, .ref b0_from, .ref b0_near]))]

theorem inX11_end_X11 : ∀ w ∈ wsX110, w ∈ wsX11_end := fun _ h => List.mem_cons_of_mem _ (List.mem_append_right _ h)
abbrev rmX11_end : Room := { frames := 0, cells := 0, slots := 0, locals := 0 }
set_option maxRecDepth 100000 in
set_option maxHeartbeats 4000000 in
theorem ctX11_end (l : Launch) (dC : Nat → ClassId) (dI : Nat → Nat → Nat) (cyI cyB cyJ cyZ : ClassId) (sz : Nat) (a0 b0_world b0_image b0_before b0_taken b0_tape b0_five b0_value b0_far b0_lead b0_walk b0_ends b0_manX b0_manY b0_dogX b0_dogY b0_row b0_round b0_farOne b0_leads b0_drags b0_from b0_near : Nat) (g0_hasImage : Int32) (g0_remembered : Int32) (g0_point : Int32) (g0_end : Int32) (g0_begin : Int32) (g0_deep : Int32) (g0_faultAt : Int32) (g0_steps : Int32) (g0_men : Int32) (g0_dogs : Int32) (g0_thrown : Int32) (g0_taped : Int32) (p0 : Int32) (post : Int32 → (Int32 × Int32) → Prop) (hw : wpX11_end post g0_thrown g0_taped p0) : Met l yX11_end wsX11_end rmX11_end (va_Pc [.ref a0, .int p0] (wPre dC dI cyI cyB cyJ cyZ sz (ceX11_end cyI cyB cyJ cyZ a0 b0_world b0_image b0_before b0_taken b0_tape b0_five b0_value b0_far b0_lead b0_walk b0_ends b0_manX b0_manY b0_dogX b0_dogY b0_row b0_round b0_farOne b0_leads b0_drags b0_from b0_near g0_hasImage g0_remembered g0_point g0_end g0_begin g0_deep g0_faultAt g0_steps g0_men g0_dogs g0_thrown g0_taped))) (va_Qi post (fun u : Int32 × Int32 => wAt dC dI cyI cyB cyJ cyZ (va_A (ceX11_end cyI cyB cyJ cyZ a0 b0_world b0_image b0_before b0_taken b0_tape b0_five b0_value b0_far b0_lead b0_walk b0_ends b0_manX b0_manY b0_dogX b0_dogY b0_row b0_round b0_farOne b0_leads b0_drags b0_from b0_near g0_hasImage g0_remembered g0_point g0_end g0_begin g0_deep g0_faultAt g0_steps g0_men g0_dogs g0_thrown g0_taped) sz) (ceX11_end cyI cyB cyJ cyZ a0 b0_world b0_image b0_before b0_taken b0_tape b0_five b0_value b0_far b0_lead b0_walk b0_ends b0_manX b0_manY b0_dogX b0_dogY b0_row b0_round b0_farOne b0_leads b0_drags b0_from b0_near g0_hasImage g0_remembered g0_point g0_end g0_begin g0_deep g0_faultAt g0_steps g0_men g0_dogs u.1 u.2)) (va_A (ceX11_end cyI cyB cyJ cyZ a0 b0_world b0_image b0_before b0_taken b0_tape b0_five b0_value b0_far b0_lead b0_walk b0_ends b0_manX b0_manY b0_dogX b0_dogY b0_row b0_round b0_farOne b0_leads b0_drags b0_from b0_near g0_hasImage g0_remembered g0_point g0_end g0_begin g0_deep g0_faultAt g0_steps g0_men g0_dogs g0_thrown g0_taped) sz)) 0 0 (va_A (ceX11_end cyI cyB cyJ cyZ a0 b0_world b0_image b0_before b0_taken b0_tape b0_five b0_value b0_far b0_lead b0_walk b0_ends b0_manX b0_manY b0_dogX b0_dogY b0_row b0_round b0_farOne b0_leads b0_drags b0_from b0_near g0_hasImage g0_remembered g0_point g0_end g0_begin g0_deep g0_faultAt g0_steps g0_men g0_dogs g0_thrown g0_taped) sz) := by
  refine Met.ofW (cc := cX11_end) (maxL := 2) (ret := (some .boolean)) (by decide) rfl ?_
  intro p e s m args below meth c s₁ B hml hv
  obtain ⟨rfl, hsz, hP, hK, hD0, hN⟩ := hv
  have hx := B.exec
  have hb := B.bytes
  have hr := B.returns
  have hts := atoms_spec (ws := wsX11_end) B.pre
  have hown : s.vm.findClass RX11 = some m.cls := findClass_of_methodNamed B.named
  have hlocks := B.notSynchronized
  subst hsz
  have hD := hD0.self (sz := s.heap.size)
  generalize hAe : va_A (ceX11_end cyI cyB cyJ cyZ a0 b0_world b0_image b0_before b0_taken b0_tape b0_five b0_value b0_far b0_lead b0_walk b0_ends b0_manX b0_manY b0_dogX b0_dogY b0_row b0_round b0_farOne b0_leads b0_drags b0_from b0_near g0_hasImage g0_remembered g0_point g0_end g0_begin g0_deep g0_faultAt g0_steps g0_men g0_dogs g0_thrown g0_taped) s.heap.size = A at hD ⊢
  have hA : ∀ q : Nat, s.heap.size ≤ q → A q := fun q h => by rw [← hAe]; exact Or.inr h
  have hS : va_S A s.heap s.heap [] := va_S.rf
  have C0 : cxM p s m meth c _ wsX11_end RX11 cX11_end 2 (some .boolean) := ⟨hx, hb, hr, hml, hown, hts, hlocks⟩
  have hl := lv_entry ([.ref a0, .int p0]) (n := 2) (Nat.le_of_ble_eq_true rfl)
  rw [lg_entry_eq]
  generalize (lg_sl ([.ref a0, .int p0]) ++ List.replicate (2 - (lg_sl ([.ref a0, .int p0])).length) Slot.unset).toArray = ls at hl ⊢
  have hl : lv_has ls 2 [(0, .ref a0), (1, .int p0)] := hl
  show W p l e rmX11_end s m _ below meth c _ _ _ _ _ _
  refine wq (fun Q hQ => ?_)
  refine lv_aload_n hx hb dX11_end_0 rfl (lv_at hl 0 rfl) ?_
  refine lv_iconst (v := 0) hx hb dX11_end_1 (by decide) ?_
  refine va_put (D := (dC, dI)) (ci := 11) (v := .int 0) (ty := .int) (C := RX11) (T := TX11) (N := 34) hx hb hts inX11_end_X11 tyX11 tyX11_ok nmX11 hown hK hP hD hS 0 rfl rfl 0 (by decide) (hts (.fieldLink RX11 3 "LeadParkModel" "thrown" "I") (List.mem_of_getElem? (i := 1) rfl)) (fun _ h9 => h9) rfl (by decide +kernel) rfl rfl (Nat.le_of_ble_eq_true rfl) dX11_end_2 (fun H locs hP hD hS => ?_)
  have hP : va_P (dC, dI) vwCl (ceX11_end cyI cyB cyJ cyZ a0 b0_world b0_image b0_before b0_taken b0_tape b0_five b0_value b0_far b0_lead b0_walk b0_ends b0_manX b0_manY b0_dogX b0_dogY b0_row b0_round b0_farOne b0_leads b0_drags b0_from b0_near g0_hasImage g0_remembered g0_point g0_end g0_begin g0_deep g0_faultAt g0_steps g0_men g0_dogs 0 g0_taped) H := hP
  have hD : va_D A (ceX11_end cyI cyB cyJ cyZ a0 b0_world b0_image b0_before b0_taken b0_tape b0_five b0_value b0_far b0_lead b0_walk b0_ends b0_manX b0_manY b0_dogX b0_dogY b0_row b0_round b0_farOne b0_leads b0_drags b0_from b0_near g0_hasImage g0_remembered g0_point g0_end g0_begin g0_deep g0_faultAt g0_steps g0_men g0_dogs 0 g0_taped) := hD
  refine lv_iload_n hx hb dX11_end_5 rfl (lv_at hl 1 rfl) ?_
  refine lv_if_lt (tgt := 17) hx hb dX11_end_6 (by decide) (fun hc => ?_) (fun hc => ?_)
  · have hw := hw.1 hc
    refine lv_iconst (v := 0) hx hb dX11_end_17 (by decide) ?_
    rw [hQ]
    exact W.zret (v := 0) (ty := .boolean) hx hb hr rfl (fun t ht hW => ⟨⟨0, (0, g0_taped), rfl, hw, by rw [ht]; exact hP, va_K.moved hW.alike hK, hD⟩, hS.F ht⟩) hS.2.2 dX11_end_18
  · have hw := hw.2 hc
    refine lv_iload_n hx hb dX11_end_9 rfl (lv_at hl 1 rfl) ?_
    refine lv_aload_n hx hb dX11_end_10 rfl (lv_at hl 0 rfl) ?_
    refine va_get (D := (dC, dI)) (ci := 11) (v := .int g0_taped) (C := RX11) (T := TX11) (N := 34) hx hb hts inX11_end_X11 hown hK hP 0 rfl rfl 8 (by decide) (hts (.fieldLink RX11 109 "LeadParkModel" "taped" "I") (List.mem_of_getElem? (i := 2) rfl)) (fun _ h9 => h9) rfl dX11_end_11 ?_
    refine lv_icmp_le (tgt := 19) hx hb dX11_end_14 (by decide) (fun hc => ?_) (fun hc => ?_)
    · have hw := hw.1 hc
      refine lv_aload_n hx hb dX11_end_19 rfl (lv_at hl 0 rfl) ?_
      refine lv_iload_n hx hb dX11_end_20 rfl (lv_at hl 1 rfl) ?_
      refine va_put (D := (dC, dI)) (ci := 11) (v := .int p0) (ty := .int) (C := RX11) (T := TX11) (N := 34) hx hb hts inX11_end_X11 tyX11 tyX11_ok nmX11 hown hK hP hD hS 0 rfl rfl 8 (by decide) (hts (.fieldLink RX11 109 "LeadParkModel" "taped" "I") (List.mem_of_getElem? (i := 2) rfl)) (fun _ h9 => h9) rfl (by decide +kernel) rfl rfl (Nat.le_of_ble_eq_true rfl) dX11_end_21 (fun H locs hP hD hS => ?_)
      have hP : va_P (dC, dI) vwCl (ceX11_end cyI cyB cyJ cyZ a0 b0_world b0_image b0_before b0_taken b0_tape b0_five b0_value b0_far b0_lead b0_walk b0_ends b0_manX b0_manY b0_dogX b0_dogY b0_row b0_round b0_farOne b0_leads b0_drags b0_from b0_near g0_hasImage g0_remembered g0_point g0_end g0_begin g0_deep g0_faultAt g0_steps g0_men g0_dogs 0 p0) H := hP
      have hD : va_D A (ceX11_end cyI cyB cyJ cyZ a0 b0_world b0_image b0_before b0_taken b0_tape b0_five b0_value b0_far b0_lead b0_walk b0_ends b0_manX b0_manY b0_dogX b0_dogY b0_row b0_round b0_farOne b0_leads b0_drags b0_from b0_near g0_hasImage g0_remembered g0_point g0_end g0_begin g0_deep g0_faultAt g0_steps g0_men g0_dogs 0 p0) := hD
      refine lv_iconst (v := 1) hx hb dX11_end_24 (by decide) ?_
      rw [hQ]
      exact W.zret (v := 1) (ty := .boolean) hx hb hr rfl (fun t ht hW => ⟨⟨1, (0, p0), rfl, hw, by rw [ht]; exact hP, va_K.moved hW.alike hK, hD⟩, hS.F ht⟩) hS.2.2 dX11_end_25
    · have hw := hw.2 hc
      refine lv_iconst (v := 0) hx hb dX11_end_17 (by decide) ?_
      rw [hQ]
      exact W.zret (v := 0) (ty := .boolean) hx hb hr rfl (fun t ht hW => ⟨⟨0, (0, g0_taped), rfl, hw, by rw [ht]; exact hP, va_K.moved hW.alike hK, hD⟩, hS.F ht⟩) hS.2.2 dX11_end_18
