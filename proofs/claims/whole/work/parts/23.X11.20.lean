/-! LeadParkModel.farOfMarks (II)I -/
abbrev ceX11_farOfMarks (cyI cyB cyJ cyZ : ClassId) (a0 a1 b0_image b0_before b0_taken b0_tape b0_five b0_value b0_far b0_lead b0_walk b0_ends b0_manX b0_manY b0_dogX b0_dogY b0_row b0_round b0_farOne b0_leads b0_drags b0_from b0_near : Nat) (g0_thrown : Int32) (g0_hasImage : Int32) (g0_remembered : Int32) (g0_taped : Int32) (g0_point : Int32) (g0_end : Int32) (g0_begin : Int32) (g0_deep : Int32) (g0_faultAt : Int32) (g0_steps : Int32) (g0_men : Int32) (g0_dogs : Int32) (f1 : Nat → Int32) : va_W := [(a0, .inr (11, [.int g0_thrown, .ref a1, .ref b0_image, .ref b0_before, .int g0_hasImage, .ref b0_taken, .int g0_remembered, .ref b0_tape, .int g0_taped, .int g0_point, .int g0_end, .int g0_begin, .int g0_deep, .int g0_faultAt, .ref b0_five, .int g0_steps, .ref b0_value, .ref b0_far, .int g0_men, .int g0_dogs, .ref b0_lead, .ref b0_walk, .ref b0_ends, .ref b0_manX, .ref b0_manY, .ref b0_dogX, .ref b0_dogY, .ref b0_row, .ref b0_round, .ref b0_farOne, .ref b0_leads, .ref b0_drags, .ref b0_from, .ref b0_near])), (a1, .inl (cyI, 2508, .inl f1))]

abbrev rmX11_farOfMarks : Room := { frames := 1, cells := 0, slots := 0, locals := 23 }
def wpX11_farOfMarks (post : Int32 → Unit → Prop) (f1 : Nat → Int32) (p0 : Int32) (p1 : Int32) : Prop :=
  wpX11_ofMark (fun (r2 : Int32) (u1 : Unit) =>
   wpX11_ofMark (fun (r4 : Int32) (u3 : Unit) =>
    wpX11_ofMark (fun (r6 : Int32) (u5 : Unit) =>
     wpX11_ofMark (fun (r8 : Int32) (u7 : Unit) =>
      wpX11_farOf (fun (r10 : Int32) (u9 : Unit) =>
       post r10 ()) r2 r4 r6 r8) f1 p1 3) f1 p1 2) f1 p0 3) f1 p0 2
set_option maxRecDepth 100000 in
set_option maxHeartbeats 4000000 in
theorem ctX11_farOfMarks (l : Launch) (dC : Nat → ClassId) (dI : Nat → Nat → Nat) (cyI cyB cyJ cyZ : ClassId) (sz : Nat) (a0 a1 b0_image b0_before b0_taken b0_tape b0_five b0_value b0_far b0_lead b0_walk b0_ends b0_manX b0_manY b0_dogX b0_dogY b0_row b0_round b0_farOne b0_leads b0_drags b0_from b0_near : Nat) (g0_thrown : Int32) (g0_hasImage : Int32) (g0_remembered : Int32) (g0_taped : Int32) (g0_point : Int32) (g0_end : Int32) (g0_begin : Int32) (g0_deep : Int32) (g0_faultAt : Int32) (g0_steps : Int32) (g0_men : Int32) (g0_dogs : Int32) (f1 : Nat → Int32) (p0 : Int32) (p1 : Int32) (post : Int32 → Unit → Prop) (hw : wpX11_farOfMarks post f1 p0 p1) : Met l yX11_farOfMarks wsX11_farOfMarks rmX11_farOfMarks (va_Pc [.ref a0, .int p0, .int p1] (wPre dC dI cyI cyB cyJ cyZ sz (ceX11_farOfMarks cyI cyB cyJ cyZ a0 a1 b0_image b0_before b0_taken b0_tape b0_five b0_value b0_far b0_lead b0_walk b0_ends b0_manX b0_manY b0_dogX b0_dogY b0_row b0_round b0_farOne b0_leads b0_drags b0_from b0_near g0_thrown g0_hasImage g0_remembered g0_taped g0_point g0_end g0_begin g0_deep g0_faultAt g0_steps g0_men g0_dogs f1))) (va_Qi post (fun u : Unit => wAt dC dI cyI cyB cyJ cyZ (va_A (ceX11_farOfMarks cyI cyB cyJ cyZ a0 a1 b0_image b0_before b0_taken b0_tape b0_five b0_value b0_far b0_lead b0_walk b0_ends b0_manX b0_manY b0_dogX b0_dogY b0_row b0_round b0_farOne b0_leads b0_drags b0_from b0_near g0_thrown g0_hasImage g0_remembered g0_taped g0_point g0_end g0_begin g0_deep g0_faultAt g0_steps g0_men g0_dogs f1) sz) (ceX11_farOfMarks cyI cyB cyJ cyZ a0 a1 b0_image b0_before b0_taken b0_tape b0_five b0_value b0_far b0_lead b0_walk b0_ends b0_manX b0_manY b0_dogX b0_dogY b0_row b0_round b0_farOne b0_leads b0_drags b0_from b0_near g0_thrown g0_hasImage g0_remembered g0_taped g0_point g0_end g0_begin g0_deep g0_faultAt g0_steps g0_men g0_dogs f1)) (va_A (ceX11_farOfMarks cyI cyB cyJ cyZ a0 a1 b0_image b0_before b0_taken b0_tape b0_five b0_value b0_far b0_lead b0_walk b0_ends b0_manX b0_manY b0_dogX b0_dogY b0_row b0_round b0_farOne b0_leads b0_drags b0_from b0_near g0_thrown g0_hasImage g0_remembered g0_taped g0_point g0_end g0_begin g0_deep g0_faultAt g0_steps g0_men g0_dogs f1) sz)) 0 0 (va_A (ceX11_farOfMarks cyI cyB cyJ cyZ a0 a1 b0_image b0_before b0_taken b0_tape b0_five b0_value b0_far b0_lead b0_walk b0_ends b0_manX b0_manY b0_dogX b0_dogY b0_row b0_round b0_farOne b0_leads b0_drags b0_from b0_near g0_thrown g0_hasImage g0_remembered g0_taped g0_point g0_end g0_begin g0_deep g0_faultAt g0_steps g0_men g0_dogs f1) sz) := by
  refine Met.ofW (cc := cX11_farOfMarks) (maxL := 3) (ret := (some .int)) (by decide) rfl ?_
  intro p e s m args below meth c s₁ B hml hv
  obtain ⟨rfl, hsz, hP, hK, hD0, hN⟩ := hv
  have hx := B.exec
  have hb := B.bytes
  have hr := B.returns
  have hts := atoms_spec (ws := wsX11_farOfMarks) B.pre
  have hown : s.vm.findClass RX11 = some m.cls := findClass_of_methodNamed B.named
  have hlocks := B.notSynchronized
  subst hsz
  have hD := hD0.self (sz := s.heap.size)
  generalize hAe : va_A (ceX11_farOfMarks cyI cyB cyJ cyZ a0 a1 b0_image b0_before b0_taken b0_tape b0_five b0_value b0_far b0_lead b0_walk b0_ends b0_manX b0_manY b0_dogX b0_dogY b0_row b0_round b0_farOne b0_leads b0_drags b0_from b0_near g0_thrown g0_hasImage g0_remembered g0_taped g0_point g0_end g0_begin g0_deep g0_faultAt g0_steps g0_men g0_dogs f1) s.heap.size = A at hD ⊢
  have hA : ∀ q : Nat, s.heap.size ≤ q → A q := fun q h => by rw [← hAe]; exact Or.inr h
  have hS : va_S A s.heap s.heap [] := va_S.rf
  have C0 : cxM p s m meth c _ wsX11_farOfMarks RX11 cX11_farOfMarks 3 (some .int) := ⟨hx, hb, hr, hml, hown, hts, hlocks⟩
  have hl := lv_entry ([.ref a0, .int p0, .int p1]) (n := 3) (Nat.le_of_ble_eq_true rfl)
  rw [lg_entry_eq]
  generalize (lg_sl ([.ref a0, .int p0, .int p1]) ++ List.replicate (3 - (lg_sl ([.ref a0, .int p0, .int p1])).length) Slot.unset).toArray = ls at hl ⊢
  have hl : lv_has ls 3 [(0, .ref a0), (1, .int p0), (2, .int p1)] := hl
  show W p l e rmX11_farOfMarks s m _ below meth c _ _ _ _ _ _
  refine wq (fun Q hQ => ?_)
  refine lv_aload_n hx hb dX11_farOfMarks_0 rfl (lv_at hl 0 rfl) ?_
  refine lv_iload_n hx hb dX11_farOfMarks_1 rfl (lv_at hl 1 rfl) ?_
  refine lv_iconst (v := 2) hx hb dX11_farOfMarks_2 (by decide) ?_
  have hPc := hP.sub (ws' := (ceX11_ofMark cyI cyB cyJ cyZ a0 a1 b0_image b0_before b0_taken b0_tape b0_five b0_value b0_far b0_lead b0_walk b0_ends b0_manX b0_manY b0_dogX b0_dogY b0_row b0_round b0_farOne b0_leads b0_drags b0_from b0_near g0_thrown g0_hasImage g0_remembered g0_taped g0_point g0_end g0_begin g0_deep g0_faultAt g0_steps g0_men g0_dogs f1)) [0, 1] rfl
  have hDc := hD.sub (ws' := (ceX11_ofMark cyI cyB cyJ cyZ a0 a1 b0_image b0_before b0_taken b0_tape b0_five b0_value b0_far b0_lead b0_walk b0_ends b0_manX b0_manY b0_dogX b0_dogY b0_row b0_round b0_farOne b0_leads b0_drags b0_from b0_near g0_thrown g0_hasImage g0_remembered g0_taped g0_point g0_end g0_begin g0_deep g0_faultAt g0_steps g0_men g0_dogs f1)) [0, 1] (by decide) rfl
  have hFc := va_free (wc := (ceX11_ofMark cyI cyB cyJ cyZ a0 a1 b0_image b0_before b0_taken b0_tape b0_five b0_value b0_far b0_lead b0_walk b0_ends b0_manX b0_manY b0_dogX b0_dogY b0_row b0_round b0_farOne b0_leads b0_drags b0_from b0_near g0_thrown g0_hasImage g0_remembered g0_taped g0_point g0_end g0_begin g0_deep g0_faultAt g0_steps g0_men g0_dogs f1)) hD hS hA [0, 1] rfl
  refine va_calli (va_runV (As := [.int p0, .int 2]) (rest := []) ⟨hx, hb, hml, hown, hts⟩ (ctX11_ofMark l dC dI cyI cyB cyJ cyZ _ a0 a1 b0_image b0_before b0_taken b0_tape b0_five b0_value b0_far b0_lead b0_walk b0_ends b0_manX b0_manY b0_dogX b0_dogY b0_row b0_round b0_farOne b0_leads b0_drags b0_from b0_near g0_thrown g0_hasImage g0_remembered g0_taped g0_point g0_end g0_begin g0_deep g0_faultAt g0_steps g0_men g0_dogs f1 p0 2 _ hw) (cwV 2 hts gX11_farOfMarks_X11_ofMark rfl rfl rfl (by decide +kernel) ⟨Nat.le_of_ble_eq_true rfl, Nat.le_of_ble_eq_true rfl⟩) ⟨wPre_blind, va_recv hK hPc (ci := 11) (q0 := 0) rfl rfl, fun U hU hW => wPre_of hPc hK hDc hN hU hW⟩ rfl rfl hl.1 rfl (lv_room (Nat.le_of_ble_eq_true rfl)) dX11_farOfMarks_3 ⟨(Nat.zero_le _), (Nat.zero_le _)⟩) hS (fun q _ h => hFc q h) hFc (fun r2 u1 t H1 locs ht hvm hw hB hz1 hk1 hS => ?_)
  obtain ⟨hP1, hK1, hD1⟩ := hB
  rw [ht] at hP1
  obtain ⟨hP, hD⟩ := va_join (wr := pickW (ceX11_farOfMarks cyI cyB cyJ cyZ a0 a1 b0_image b0_before b0_taken b0_tape b0_five b0_value b0_far b0_lead b0_walk b0_ends b0_manX b0_manY b0_dogX b0_dogY b0_row b0_round b0_farOne b0_leads b0_drags b0_from b0_near g0_thrown g0_hasImage g0_remembered g0_taped g0_point g0_end g0_begin g0_deep g0_faultAt g0_steps g0_men g0_dogs f1) []) (w1 := (ceX11_ofMark cyI cyB cyJ cyZ a0 a1 b0_image b0_before b0_taken b0_tape b0_five b0_value b0_far b0_lead b0_walk b0_ends b0_manX b0_manY b0_dogX b0_dogY b0_row b0_round b0_farOne b0_leads b0_drags b0_from b0_near g0_thrown g0_hasImage g0_remembered g0_taped g0_point g0_end g0_begin g0_deep g0_faultAt g0_steps g0_men g0_dogs f1)) hP hD [0, 1] [] rfl rfl (by decide) (by decide) hk1 hFc hP1 hD1
  have hP := hP.sub (ws' := (ceX11_farOfMarks cyI cyB cyJ cyZ a0 a1 b0_image b0_before b0_taken b0_tape b0_five b0_value b0_far b0_lead b0_walk b0_ends b0_manX b0_manY b0_dogX b0_dogY b0_row b0_round b0_farOne b0_leads b0_drags b0_from b0_near g0_thrown g0_hasImage g0_remembered g0_taped g0_point g0_end g0_begin g0_deep g0_faultAt g0_steps g0_men g0_dogs f1)) [0, 1] rfl
  have hD := hD.sub (ws' := (ceX11_farOfMarks cyI cyB cyJ cyZ a0 a1 b0_image b0_before b0_taken b0_tape b0_five b0_value b0_far b0_lead b0_walk b0_ends b0_manX b0_manY b0_dogX b0_dogY b0_row b0_round b0_farOne b0_leads b0_drags b0_from b0_near g0_thrown g0_hasImage g0_remembered g0_taped g0_point g0_end g0_begin g0_deep g0_faultAt g0_steps g0_men g0_dogs f1)) [0, 1] (by decide) rfl
  generalize H1 = H at hP hS ⊢
  refine lv_aload_n hx hb dX11_farOfMarks_6 rfl (lv_at hl 0 rfl) ?_
  refine lv_iload_n hx hb dX11_farOfMarks_7 rfl (lv_at hl 1 rfl) ?_
  refine lv_iconst (v := 3) hx hb dX11_farOfMarks_8 (by decide) ?_
  have hPc := hP.sub (ws' := (ceX11_ofMark cyI cyB cyJ cyZ a0 a1 b0_image b0_before b0_taken b0_tape b0_five b0_value b0_far b0_lead b0_walk b0_ends b0_manX b0_manY b0_dogX b0_dogY b0_row b0_round b0_farOne b0_leads b0_drags b0_from b0_near g0_thrown g0_hasImage g0_remembered g0_taped g0_point g0_end g0_begin g0_deep g0_faultAt g0_steps g0_men g0_dogs f1)) [0, 1] rfl
  have hDc := hD.sub (ws' := (ceX11_ofMark cyI cyB cyJ cyZ a0 a1 b0_image b0_before b0_taken b0_tape b0_five b0_value b0_far b0_lead b0_walk b0_ends b0_manX b0_manY b0_dogX b0_dogY b0_row b0_round b0_farOne b0_leads b0_drags b0_from b0_near g0_thrown g0_hasImage g0_remembered g0_taped g0_point g0_end g0_begin g0_deep g0_faultAt g0_steps g0_men g0_dogs f1)) [0, 1] (by decide) rfl
  have hFc := va_free (wc := (ceX11_ofMark cyI cyB cyJ cyZ a0 a1 b0_image b0_before b0_taken b0_tape b0_five b0_value b0_far b0_lead b0_walk b0_ends b0_manX b0_manY b0_dogX b0_dogY b0_row b0_round b0_farOne b0_leads b0_drags b0_from b0_near g0_thrown g0_hasImage g0_remembered g0_taped g0_point g0_end g0_begin g0_deep g0_faultAt g0_steps g0_men g0_dogs f1)) hD hS hA [0, 1] rfl
  refine va_calli (va_runV (As := [.int p0, .int 3]) (rest := [.int r2]) ⟨hx, hb, hml, hown, hts⟩ (ctX11_ofMark l dC dI cyI cyB cyJ cyZ _ a0 a1 b0_image b0_before b0_taken b0_tape b0_five b0_value b0_far b0_lead b0_walk b0_ends b0_manX b0_manY b0_dogX b0_dogY b0_row b0_round b0_farOne b0_leads b0_drags b0_from b0_near g0_thrown g0_hasImage g0_remembered g0_taped g0_point g0_end g0_begin g0_deep g0_faultAt g0_steps g0_men g0_dogs f1 p0 3 _ hw) (cwV 2 hts gX11_farOfMarks_X11_ofMark rfl rfl rfl (by decide +kernel) ⟨Nat.le_of_ble_eq_true rfl, Nat.le_of_ble_eq_true rfl⟩) ⟨wPre_blind, va_recv hK hPc (ci := 11) (q0 := 0) rfl rfl, fun U hU hW => wPre_of hPc hK hDc hN hU hW⟩ rfl rfl hl.1 rfl (lv_room (Nat.le_of_ble_eq_true rfl)) dX11_farOfMarks_9 ⟨(Nat.zero_le _), (Nat.zero_le _)⟩) hS (fun q _ h => hFc q h) hFc (fun r4 u3 t H1 locs ht hvm hw hB hz1 hk1 hS => ?_)
  obtain ⟨hP1, hK1, hD1⟩ := hB
  rw [ht] at hP1
  obtain ⟨hP, hD⟩ := va_join (wr := pickW (ceX11_farOfMarks cyI cyB cyJ cyZ a0 a1 b0_image b0_before b0_taken b0_tape b0_five b0_value b0_far b0_lead b0_walk b0_ends b0_manX b0_manY b0_dogX b0_dogY b0_row b0_round b0_farOne b0_leads b0_drags b0_from b0_near g0_thrown g0_hasImage g0_remembered g0_taped g0_point g0_end g0_begin g0_deep g0_faultAt g0_steps g0_men g0_dogs f1) []) (w1 := (ceX11_ofMark cyI cyB cyJ cyZ a0 a1 b0_image b0_before b0_taken b0_tape b0_five b0_value b0_far b0_lead b0_walk b0_ends b0_manX b0_manY b0_dogX b0_dogY b0_row b0_round b0_farOne b0_leads b0_drags b0_from b0_near g0_thrown g0_hasImage g0_remembered g0_taped g0_point g0_end g0_begin g0_deep g0_faultAt g0_steps g0_men g0_dogs f1)) hP hD [0, 1] [] rfl rfl (by decide) (by decide) hk1 hFc hP1 hD1
  have hP := hP.sub (ws' := (ceX11_farOfMarks cyI cyB cyJ cyZ a0 a1 b0_image b0_before b0_taken b0_tape b0_five b0_value b0_far b0_lead b0_walk b0_ends b0_manX b0_manY b0_dogX b0_dogY b0_row b0_round b0_farOne b0_leads b0_drags b0_from b0_near g0_thrown g0_hasImage g0_remembered g0_taped g0_point g0_end g0_begin g0_deep g0_faultAt g0_steps g0_men g0_dogs f1)) [0, 1] rfl
  have hD := hD.sub (ws' := (ceX11_farOfMarks cyI cyB cyJ cyZ a0 a1 b0_image b0_before b0_taken b0_tape b0_five b0_value b0_far b0_lead b0_walk b0_ends b0_manX b0_manY b0_dogX b0_dogY b0_row b0_round b0_farOne b0_leads b0_drags b0_from b0_near g0_thrown g0_hasImage g0_remembered g0_taped g0_point g0_end g0_begin g0_deep g0_faultAt g0_steps g0_men g0_dogs f1)) [0, 1] (by decide) rfl
  generalize H1 = H at hP hS ⊢
  refine lv_aload_n hx hb dX11_farOfMarks_12 rfl (lv_at hl 0 rfl) ?_
  refine lv_iload_n hx hb dX11_farOfMarks_13 rfl (lv_at hl 2 rfl) ?_
  refine lv_iconst (v := 2) hx hb dX11_farOfMarks_14 (by decide) ?_
  have hPc := hP.sub (ws' := (ceX11_ofMark cyI cyB cyJ cyZ a0 a1 b0_image b0_before b0_taken b0_tape b0_five b0_value b0_far b0_lead b0_walk b0_ends b0_manX b0_manY b0_dogX b0_dogY b0_row b0_round b0_farOne b0_leads b0_drags b0_from b0_near g0_thrown g0_hasImage g0_remembered g0_taped g0_point g0_end g0_begin g0_deep g0_faultAt g0_steps g0_men g0_dogs f1)) [0, 1] rfl
  have hDc := hD.sub (ws' := (ceX11_ofMark cyI cyB cyJ cyZ a0 a1 b0_image b0_before b0_taken b0_tape b0_five b0_value b0_far b0_lead b0_walk b0_ends b0_manX b0_manY b0_dogX b0_dogY b0_row b0_round b0_farOne b0_leads b0_drags b0_from b0_near g0_thrown g0_hasImage g0_remembered g0_taped g0_point g0_end g0_begin g0_deep g0_faultAt g0_steps g0_men g0_dogs f1)) [0, 1] (by decide) rfl
  have hFc := va_free (wc := (ceX11_ofMark cyI cyB cyJ cyZ a0 a1 b0_image b0_before b0_taken b0_tape b0_five b0_value b0_far b0_lead b0_walk b0_ends b0_manX b0_manY b0_dogX b0_dogY b0_row b0_round b0_farOne b0_leads b0_drags b0_from b0_near g0_thrown g0_hasImage g0_remembered g0_taped g0_point g0_end g0_begin g0_deep g0_faultAt g0_steps g0_men g0_dogs f1)) hD hS hA [0, 1] rfl
  refine va_calli (va_runV (As := [.int p1, .int 2]) (rest := [.int r4, .int r2]) ⟨hx, hb, hml, hown, hts⟩ (ctX11_ofMark l dC dI cyI cyB cyJ cyZ _ a0 a1 b0_image b0_before b0_taken b0_tape b0_five b0_value b0_far b0_lead b0_walk b0_ends b0_manX b0_manY b0_dogX b0_dogY b0_row b0_round b0_farOne b0_leads b0_drags b0_from b0_near g0_thrown g0_hasImage g0_remembered g0_taped g0_point g0_end g0_begin g0_deep g0_faultAt g0_steps g0_men g0_dogs f1 p1 2 _ hw) (cwV 2 hts gX11_farOfMarks_X11_ofMark rfl rfl rfl (by decide +kernel) ⟨Nat.le_of_ble_eq_true rfl, Nat.le_of_ble_eq_true rfl⟩) ⟨wPre_blind, va_recv hK hPc (ci := 11) (q0 := 0) rfl rfl, fun U hU hW => wPre_of hPc hK hDc hN hU hW⟩ rfl rfl hl.1 rfl (lv_room (Nat.le_of_ble_eq_true rfl)) dX11_farOfMarks_15 ⟨(Nat.zero_le _), (Nat.zero_le _)⟩) hS (fun q _ h => hFc q h) hFc (fun r6 u5 t H1 locs ht hvm hw hB hz1 hk1 hS => ?_)
  obtain ⟨hP1, hK1, hD1⟩ := hB
  rw [ht] at hP1
  obtain ⟨hP, hD⟩ := va_join (wr := pickW (ceX11_farOfMarks cyI cyB cyJ cyZ a0 a1 b0_image b0_before b0_taken b0_tape b0_five b0_value b0_far b0_lead b0_walk b0_ends b0_manX b0_manY b0_dogX b0_dogY b0_row b0_round b0_farOne b0_leads b0_drags b0_from b0_near g0_thrown g0_hasImage g0_remembered g0_taped g0_point g0_end g0_begin g0_deep g0_faultAt g0_steps g0_men g0_dogs f1) []) (w1 := (ceX11_ofMark cyI cyB cyJ cyZ a0 a1 b0_image b0_before b0_taken b0_tape b0_five b0_value b0_far b0_lead b0_walk b0_ends b0_manX b0_manY b0_dogX b0_dogY b0_row b0_round b0_farOne b0_leads b0_drags b0_from b0_near g0_thrown g0_hasImage g0_remembered g0_taped g0_point g0_end g0_begin g0_deep g0_faultAt g0_steps g0_men g0_dogs f1)) hP hD [0, 1] [] rfl rfl (by decide) (by decide) hk1 hFc hP1 hD1
  have hP := hP.sub (ws' := (ceX11_farOfMarks cyI cyB cyJ cyZ a0 a1 b0_image b0_before b0_taken b0_tape b0_five b0_value b0_far b0_lead b0_walk b0_ends b0_manX b0_manY b0_dogX b0_dogY b0_row b0_round b0_farOne b0_leads b0_drags b0_from b0_near g0_thrown g0_hasImage g0_remembered g0_taped g0_point g0_end g0_begin g0_deep g0_faultAt g0_steps g0_men g0_dogs f1)) [0, 1] rfl
  have hD := hD.sub (ws' := (ceX11_farOfMarks cyI cyB cyJ cyZ a0 a1 b0_image b0_before b0_taken b0_tape b0_five b0_value b0_far b0_lead b0_walk b0_ends b0_manX b0_manY b0_dogX b0_dogY b0_row b0_round b0_farOne b0_leads b0_drags b0_from b0_near g0_thrown g0_hasImage g0_remembered g0_taped g0_point g0_end g0_begin g0_deep g0_faultAt g0_steps g0_men g0_dogs f1)) [0, 1] (by decide) rfl
  generalize H1 = H at hP hS ⊢
  refine lv_aload_n hx hb dX11_farOfMarks_18 rfl (lv_at hl 0 rfl) ?_
  refine lv_iload_n hx hb dX11_farOfMarks_19 rfl (lv_at hl 2 rfl) ?_
  refine lv_iconst (v := 3) hx hb dX11_farOfMarks_20 (by decide) ?_
  have hPc := hP.sub (ws' := (ceX11_ofMark cyI cyB cyJ cyZ a0 a1 b0_image b0_before b0_taken b0_tape b0_five b0_value b0_far b0_lead b0_walk b0_ends b0_manX b0_manY b0_dogX b0_dogY b0_row b0_round b0_farOne b0_leads b0_drags b0_from b0_near g0_thrown g0_hasImage g0_remembered g0_taped g0_point g0_end g0_begin g0_deep g0_faultAt g0_steps g0_men g0_dogs f1)) [0, 1] rfl
  have hDc := hD.sub (ws' := (ceX11_ofMark cyI cyB cyJ cyZ a0 a1 b0_image b0_before b0_taken b0_tape b0_five b0_value b0_far b0_lead b0_walk b0_ends b0_manX b0_manY b0_dogX b0_dogY b0_row b0_round b0_farOne b0_leads b0_drags b0_from b0_near g0_thrown g0_hasImage g0_remembered g0_taped g0_point g0_end g0_begin g0_deep g0_faultAt g0_steps g0_men g0_dogs f1)) [0, 1] (by decide) rfl
  have hFc := va_free (wc := (ceX11_ofMark cyI cyB cyJ cyZ a0 a1 b0_image b0_before b0_taken b0_tape b0_five b0_value b0_far b0_lead b0_walk b0_ends b0_manX b0_manY b0_dogX b0_dogY b0_row b0_round b0_farOne b0_leads b0_drags b0_from b0_near g0_thrown g0_hasImage g0_remembered g0_taped g0_point g0_end g0_begin g0_deep g0_faultAt g0_steps g0_men g0_dogs f1)) hD hS hA [0, 1] rfl
  refine va_calli (va_runV (As := [.int p1, .int 3]) (rest := [.int r6, .int r4, .int r2]) ⟨hx, hb, hml, hown, hts⟩ (ctX11_ofMark l dC dI cyI cyB cyJ cyZ _ a0 a1 b0_image b0_before b0_taken b0_tape b0_five b0_value b0_far b0_lead b0_walk b0_ends b0_manX b0_manY b0_dogX b0_dogY b0_row b0_round b0_farOne b0_leads b0_drags b0_from b0_near g0_thrown g0_hasImage g0_remembered g0_taped g0_point g0_end g0_begin g0_deep g0_faultAt g0_steps g0_men g0_dogs f1 p1 3 _ hw) (cwV 2 hts gX11_farOfMarks_X11_ofMark rfl rfl rfl (by decide +kernel) ⟨Nat.le_of_ble_eq_true rfl, Nat.le_of_ble_eq_true rfl⟩) ⟨wPre_blind, va_recv hK hPc (ci := 11) (q0 := 0) rfl rfl, fun U hU hW => wPre_of hPc hK hDc hN hU hW⟩ rfl rfl hl.1 rfl (lv_room (Nat.le_of_ble_eq_true rfl)) dX11_farOfMarks_21 ⟨(Nat.zero_le _), (Nat.zero_le _)⟩) hS (fun q _ h => hFc q h) hFc (fun r8 u7 t H1 locs ht hvm hw hB hz1 hk1 hS => ?_)
  obtain ⟨hP1, hK1, hD1⟩ := hB
  rw [ht] at hP1
  obtain ⟨hP, hD⟩ := va_join (wr := pickW (ceX11_farOfMarks cyI cyB cyJ cyZ a0 a1 b0_image b0_before b0_taken b0_tape b0_five b0_value b0_far b0_lead b0_walk b0_ends b0_manX b0_manY b0_dogX b0_dogY b0_row b0_round b0_farOne b0_leads b0_drags b0_from b0_near g0_thrown g0_hasImage g0_remembered g0_taped g0_point g0_end g0_begin g0_deep g0_faultAt g0_steps g0_men g0_dogs f1) []) (w1 := (ceX11_ofMark cyI cyB cyJ cyZ a0 a1 b0_image b0_before b0_taken b0_tape b0_five b0_value b0_far b0_lead b0_walk b0_ends b0_manX b0_manY b0_dogX b0_dogY b0_row b0_round b0_farOne b0_leads b0_drags b0_from b0_near g0_thrown g0_hasImage g0_remembered g0_taped g0_point g0_end g0_begin g0_deep g0_faultAt g0_steps g0_men g0_dogs f1)) hP hD [0, 1] [] rfl rfl (by decide) (by decide) hk1 hFc hP1 hD1
  have hP := hP.sub (ws' := (ceX11_farOfMarks cyI cyB cyJ cyZ a0 a1 b0_image b0_before b0_taken b0_tape b0_five b0_value b0_far b0_lead b0_walk b0_ends b0_manX b0_manY b0_dogX b0_dogY b0_row b0_round b0_farOne b0_leads b0_drags b0_from b0_near g0_thrown g0_hasImage g0_remembered g0_taped g0_point g0_end g0_begin g0_deep g0_faultAt g0_steps g0_men g0_dogs f1)) [0, 1] rfl
  have hD := hD.sub (ws' := (ceX11_farOfMarks cyI cyB cyJ cyZ a0 a1 b0_image b0_before b0_taken b0_tape b0_five b0_value b0_far b0_lead b0_walk b0_ends b0_manX b0_manY b0_dogX b0_dogY b0_row b0_round b0_farOne b0_leads b0_drags b0_from b0_near g0_thrown g0_hasImage g0_remembered g0_taped g0_point g0_end g0_begin g0_deep g0_faultAt g0_steps g0_men g0_dogs f1)) [0, 1] (by decide) rfl
  generalize H1 = H at hP hS ⊢
  have hPc := hP.sub (ws' := ([] : va_W)) [] rfl
  have hDc := hD.sub (ws' := ([] : va_W)) [] (by decide) rfl
  have hFc := va_free (wc := ([] : va_W)) hD hS hA [] rfl
  refine va_calli (va_runS (As := [.int r2, .int r4, .int r6, .int r8]) (rest := []) ⟨hx, hb, hml, hown, hts⟩ (ctX11_farOf l dC dI cyI cyB cyJ cyZ _ r2 r4 r6 r8 _ hw) (va_cwS 4 hts gX11_farOfMarks_X11_farOf rfl rfl rfl (by decide +kernel) ⟨Nat.le_of_ble_eq_true rfl, Nat.le_of_ble_eq_true rfl⟩) ⟨wPre_blind, fun U hU hW => wPre_of hPc hK hDc hN hU hW⟩ rfl rfl hl.1 rfl (lv_room (Nat.le_of_ble_eq_true rfl)) dX11_farOfMarks_24 ⟨(Nat.zero_le _), (Nat.zero_le _)⟩) hS (fun q _ h => hFc q h) hFc (fun r10 u9 t H1 locs ht hvm hw hB hz1 hk1 hS => ?_)
  obtain ⟨hP1, hK1, hD1⟩ := hB
  rw [ht] at hP1
  obtain ⟨hP, hD⟩ := va_join (wr := pickW (ceX11_farOfMarks cyI cyB cyJ cyZ a0 a1 b0_image b0_before b0_taken b0_tape b0_five b0_value b0_far b0_lead b0_walk b0_ends b0_manX b0_manY b0_dogX b0_dogY b0_row b0_round b0_farOne b0_leads b0_drags b0_from b0_near g0_thrown g0_hasImage g0_remembered g0_taped g0_point g0_end g0_begin g0_deep g0_faultAt g0_steps g0_men g0_dogs f1) [0, 1]) (w1 := ([] : va_W)) hP hD [] [0, 1] rfl rfl (by decide) (by decide) hk1 hFc hP1 hD1
  have hP := hP.sub (ws' := (ceX11_farOfMarks cyI cyB cyJ cyZ a0 a1 b0_image b0_before b0_taken b0_tape b0_five b0_value b0_far b0_lead b0_walk b0_ends b0_manX b0_manY b0_dogX b0_dogY b0_row b0_round b0_farOne b0_leads b0_drags b0_from b0_near g0_thrown g0_hasImage g0_remembered g0_taped g0_point g0_end g0_begin g0_deep g0_faultAt g0_steps g0_men g0_dogs f1)) [0, 1] rfl
  have hD := hD.sub (ws' := (ceX11_farOfMarks cyI cyB cyJ cyZ a0 a1 b0_image b0_before b0_taken b0_tape b0_five b0_value b0_far b0_lead b0_walk b0_ends b0_manX b0_manY b0_dogX b0_dogY b0_row b0_round b0_farOne b0_leads b0_drags b0_from b0_near g0_thrown g0_hasImage g0_remembered g0_taped g0_point g0_end g0_begin g0_deep g0_faultAt g0_steps g0_men g0_dogs f1)) [0, 1] (by decide) rfl
  generalize H1 = H at hP hS ⊢
  rw [hQ]
  exact W.iret (v := r10) hx hb hr (fun t ht hW => ⟨⟨r10, (), rfl, hw, by rw [ht]; exact hP, va_K.moved hW.alike hK, hD⟩, hS.F ht⟩) hS.2.2 dX11_farOfMarks_27
/-! LeadParkModel.needed ()I -/
abbrev ceX11_needed (cyI cyB cyJ cyZ : ClassId) (a0 a1 b0_image b0_before b0_taken b0_tape b0_five b0_value b0_far b0_lead b0_walk b0_ends b0_manX b0_manY b0_dogX b0_dogY b0_row b0_round b0_farOne b0_leads b0_drags b0_from b0_near : Nat) (g0_hasImage : Int32) (g0_remembered : Int32) (g0_taped : Int32) (g0_point : Int32) (g0_end : Int32) (g0_begin : Int32) (g0_deep : Int32) (g0_faultAt : Int32) (g0_steps : Int32) (g0_men : Int32) (g0_dogs : Int32) (f1 : Nat → Int32) (g0_thrown : Int32) : va_W := [(a0, .inr (11, [.int g0_thrown, .ref a1, .ref b0_image, .ref b0_before, .int g0_hasImage, .ref b0_taken, .int g0_remembered, .ref b0_tape, .int g0_taped, .int g0_point, .int g0_end, .int g0_begin, .int g0_deep, .int g0_faultAt, .ref b0_five, .int g0_steps, .ref b0_value, .ref b0_far, .int g0_men, .int g0_dogs, .ref b0_lead, .ref b0_walk, .ref b0_ends, .ref b0_manX, .ref b0_manY, .ref b0_dogX, .ref b0_dogY, .ref b0_row, .ref b0_round, .ref b0_farOne, .ref b0_leads, .ref b0_drags, .ref b0_from, .ref b0_near])), (a1, .inl (cyI, 2508, .inl f1))]

theorem inX11_needed_X11 : ∀ w ∈ wsX110, w ∈ wsX11_needed := fun _ h => List.mem_cons_of_mem _ (List.mem_append_right _ h)
abbrev rmX11_needed : Room := { frames := 2, cells := 0, slots := 0, locals := 45 }
def wpX11_needed_67 (k21 : Int32 → Int32 → Int32 → Int32 → Prop) (k9 : Int32 → Int32 → Int32 → Prop) (post : Int32 → Int32 → Prop) (f1 : Nat → Int32) (g0_thrown : Int32) (x1 : Int32) (x2 : Int32) (x3 : Int32) : Prop :=
  ∀ v1 : Int32, v1 = x3 + 1 →
  k21 g0_thrown x1 x2 v1
def wpX11_needed_21 (k9 : Int32 → Int32 → Int32 → Prop) (post : Int32 → Int32 → Prop) (f1 : Nat → Int32) : Nat → Int32 → Int32 → Int32 → Int32 → Prop
  | 0, _, _, _, _ => False
  | n_21 + 1, g0_thrown, x1, x2, x3 =>
    (x2 ≤ x3 →
     ∀ v1 : Int32, v1 = x2 + 1 →
     k9 g0_thrown x1 v1) ∧
    (¬ x2 ≤ x3 →
     wpX11_ofMark (fun (r3 : Int32) (u2 : Unit) =>
      wpX11_ofMark (fun (r5 : Int32) (u4 : Unit) =>
       (r3 = r5 →
        wpX11_needed_67 (fun y0 y1 y2 y3 => wpX11_needed_21 k9 post f1 n_21 y0 y1 y2 y3) k9 post f1 g0_thrown x1 x2 x3) ∧
       (¬ r3 = r5 →
        wpX11_ofMark (fun (r7 : Int32) (u6 : Unit) =>
         wpX11_ofMark (fun (r9 : Int32) (u8 : Unit) =>
          (¬ r7 = r9 →
           wpX11_needed_67 (fun y0 y1 y2 y3 => wpX11_needed_21 k9 post f1 n_21 y0 y1 y2 y3) k9 post f1 g0_thrown x1 x2 x3) ∧
          (r7 = r9 →
           wpX11_farOfMarks (fun (r11 : Int32) (u10 : Unit) =>
            ∀ v12 : Int32, v12 = iMax x1 r11 →
            wpX11_needed_67 (fun y0 y1 y2 y3 => wpX11_needed_21 k9 post f1 n_21 y0 y1 y2 y3) k9 post f1 g0_thrown v12 x2 x3) f1 x2 x3)) f1 x3 1) f1 x2 1)) f1 x3 0) f1 x2 0)
def wpX11_needed_9 (post : Int32 → Int32 → Prop) (f1 : Nat → Int32) : Nat → Int32 → Int32 → Int32 → Prop
  | 0, _, _, _ => False
  | n_9 + 1, g0_thrown, x1, x2 =>
    vp_in 4 2508 ∧
    ((f1 (4 : Int32).toNatClampNeg) ≤ x2 →
     post x1 (g0_thrown)) ∧
    (¬ (f1 (4 : Int32).toNatClampNeg) ≤ x2 →
     ∃ n_21 : Nat, wpX11_needed_21 (fun y0 y1 y2 => wpX11_needed_9 post f1 n_9 y0 y1 y2) post f1 n_21 g0_thrown x1 x2 0)
def wpX11_needed (post : Int32 → Int32 → Prop) (f1 : Nat → Int32) (g0_thrown : Int32) : Prop :=
  ∃ n_9 : Nat, wpX11_needed_9 post f1 n_9 0 (-1) 0
set_option maxRecDepth 100000 in
set_option maxHeartbeats 4000000 in
theorem bX11_needed_67 {p : Program} {l : Launch} {e : Env} {s : State} {m : MethodId} {args : Array Value} {below : List Frame} {meth : Method} {c : Code} {dC : Nat → ClassId} {dI : Nat → Nat → Nat} {cyI cyB cyJ cyZ : ClassId} {A : Nat → Prop} {a0 a1 b0_image b0_before b0_taken b0_tape b0_five b0_value b0_far b0_lead b0_walk b0_ends b0_manX b0_manY b0_dogX b0_dogY b0_row b0_round b0_farOne b0_leads b0_drags b0_from b0_near : Nat} {g0_hasImage : Int32} {g0_remembered : Int32} {g0_taped : Int32} {g0_point : Int32} {g0_end : Int32} {g0_begin : Int32} {g0_deep : Int32} {g0_faultAt : Int32} {g0_steps : Int32} {g0_men : Int32} {g0_dogs : Int32} (C0 : cxM p s m meth c args wsX11_needed RX11 cX11_needed 4 (some .int)) (hK : va_K (dC, dI) vwCl (tyA cyI cyB cyJ cyZ) s) (hN : nwA s) (hA : ∀ q : Nat, s.heap.size ≤ q → A q) {post : Int32 → Int32 → Prop} {f1 : Nat → Int32} {k21 : Int32 → Int32 → Int32 → Int32 → Prop} {k9 : Int32 → Int32 → Int32 → Prop} {Q : State → Prop} (hQ : Q = MQ below (va_Qi post (fun u : Int32 => wAt dC dI cyI cyB cyJ cyZ A (ceX11_needed cyI cyB cyJ cyZ a0 a1 b0_image b0_before b0_taken b0_tape b0_five b0_value b0_far b0_lead b0_walk b0_ends b0_manX b0_manY b0_dogX b0_dogY b0_row b0_round b0_farOne b0_leads b0_drags b0_from b0_near g0_hasImage g0_remembered g0_taped g0_point g0_end g0_begin g0_deep g0_faultAt g0_steps g0_men g0_dogs f1 u)) A) args s 0 0 A) (hk21 : ∀ (g0_thrown : Int32) (x1 : Int32) (x2 : Int32) (x3 : Int32), k21 g0_thrown x1 x2 x3 → AtW p l e rmX11_needed s m args below meth c dC dI A Q 4 0 0 (ceX11_needed cyI cyB cyJ cyZ a0 a1 b0_image b0_before b0_taken b0_tape b0_five b0_value b0_far b0_lead b0_walk b0_ends b0_manX b0_manY b0_dogX b0_dogY b0_row b0_round b0_farOne b0_leads b0_drags b0_from b0_near g0_hasImage g0_remembered g0_taped g0_point g0_end g0_begin g0_deep g0_faultAt g0_steps g0_men g0_dogs f1 g0_thrown) [(0, .ref a0), (1, .int x1), (2, .int x2), (3, .int x3)] 21 []) (hk9 : ∀ (g0_thrown : Int32) (x1 : Int32) (x2 : Int32), k9 g0_thrown x1 x2 → AtW p l e rmX11_needed s m args below meth c dC dI A Q 4 0 0 (ceX11_needed cyI cyB cyJ cyZ a0 a1 b0_image b0_before b0_taken b0_tape b0_five b0_value b0_far b0_lead b0_walk b0_ends b0_manX b0_manY b0_dogX b0_dogY b0_row b0_round b0_farOne b0_leads b0_drags b0_from b0_near g0_hasImage g0_remembered g0_taped g0_point g0_end g0_begin g0_deep g0_faultAt g0_steps g0_men g0_dogs f1 g0_thrown) [(0, .ref a0), (1, .int x1), (2, .int x2)] 9 []) : ∀ (g0_thrown : Int32) (x1 : Int32) (x2 : Int32) (x3 : Int32), wpX11_needed_67 k21 k9 post f1 g0_thrown x1 x2 x3 → AtW p l e rmX11_needed s m args below meth c dC dI A Q 4 0 0 (ceX11_needed cyI cyB cyJ cyZ a0 a1 b0_image b0_before b0_taken b0_tape b0_five b0_value b0_far b0_lead b0_walk b0_ends b0_manX b0_manY b0_dogX b0_dogY b0_row b0_round b0_farOne b0_leads b0_drags b0_from b0_near g0_hasImage g0_remembered g0_taped g0_point g0_end g0_begin g0_deep g0_faultAt g0_steps g0_men g0_dogs f1 g0_thrown) [(0, .ref a0), (1, .int x1), (2, .int x2), (3, .int x3)] 67 [] := by
  intro g0_thrown x1 x2 x3 hw H locs hP hD hS ls hl
  have C1 := C0
  obtain ⟨hx, hb, hr, hml, hown, hts, hlocks⟩ := C1
  obtain ⟨v1, ev1⟩ : ∃ y : Int32, y = x3 + 1 := ⟨_, rfl⟩
  have hw := hw v1 ev1
  refine lv_iinc (v := v1) (lv' := [(3, .int v1), (0, .ref a0), (1, .int x1), (2, .int x2)]) hx hb dX11_needed_67 hl (k := 3) rfl (by rw [ev1]; rfl) (by decide) rfl (fun ls hl => ?_)
  refine lv_goto (tgt := 21) hx hb dX11_needed_70 (by decide) ?_
  exact hk21 g0_thrown x1 x2 v1 hw H locs hP hD hS ls (lv_sub hl [1, 2, 3, 0] rfl)
set_option maxRecDepth 100000 in
set_option maxHeartbeats 4000000 in
theorem bX11_needed_21 {p : Program} {l : Launch} {e : Env} {s : State} {m : MethodId} {args : Array Value} {below : List Frame} {meth : Method} {c : Code} {dC : Nat → ClassId} {dI : Nat → Nat → Nat} {cyI cyB cyJ cyZ : ClassId} {A : Nat → Prop} {a0 a1 b0_image b0_before b0_taken b0_tape b0_five b0_value b0_far b0_lead b0_walk b0_ends b0_manX b0_manY b0_dogX b0_dogY b0_row b0_round b0_farOne b0_leads b0_drags b0_from b0_near : Nat} {g0_hasImage : Int32} {g0_remembered : Int32} {g0_taped : Int32} {g0_point : Int32} {g0_end : Int32} {g0_begin : Int32} {g0_deep : Int32} {g0_faultAt : Int32} {g0_steps : Int32} {g0_men : Int32} {g0_dogs : Int32} (C0 : cxM p s m meth c args wsX11_needed RX11 cX11_needed 4 (some .int)) (hK : va_K (dC, dI) vwCl (tyA cyI cyB cyJ cyZ) s) (hN : nwA s) (hA : ∀ q : Nat, s.heap.size ≤ q → A q) {post : Int32 → Int32 → Prop} {f1 : Nat → Int32} {k9 : Int32 → Int32 → Int32 → Prop} {Q : State → Prop} (hQ : Q = MQ below (va_Qi post (fun u : Int32 => wAt dC dI cyI cyB cyJ cyZ A (ceX11_needed cyI cyB cyJ cyZ a0 a1 b0_image b0_before b0_taken b0_tape b0_five b0_value b0_far b0_lead b0_walk b0_ends b0_manX b0_manY b0_dogX b0_dogY b0_row b0_round b0_farOne b0_leads b0_drags b0_from b0_near g0_hasImage g0_remembered g0_taped g0_point g0_end g0_begin g0_deep g0_faultAt g0_steps g0_men g0_dogs f1 u)) A) args s 0 0 A) (hk9 : ∀ (g0_thrown : Int32) (x1 : Int32) (x2 : Int32), k9 g0_thrown x1 x2 → AtW p l e rmX11_needed s m args below meth c dC dI A Q 4 0 0 (ceX11_needed cyI cyB cyJ cyZ a0 a1 b0_image b0_before b0_taken b0_tape b0_five b0_value b0_far b0_lead b0_walk b0_ends b0_manX b0_manY b0_dogX b0_dogY b0_row b0_round b0_farOne b0_leads b0_drags b0_from b0_near g0_hasImage g0_remembered g0_taped g0_point g0_end g0_begin g0_deep g0_faultAt g0_steps g0_men g0_dogs f1 g0_thrown) [(0, .ref a0), (1, .int x1), (2, .int x2)] 9 []) : ∀ (n : Nat) (g0_thrown : Int32) (x1 : Int32) (x2 : Int32) (x3 : Int32), wpX11_needed_21 k9 post f1 n g0_thrown x1 x2 x3 → AtW p l e rmX11_needed s m args below meth c dC dI A Q 4 0 0 (ceX11_needed cyI cyB cyJ cyZ a0 a1 b0_image b0_before b0_taken b0_tape b0_five b0_value b0_far b0_lead b0_walk b0_ends b0_manX b0_manY b0_dogX b0_dogY b0_row b0_round b0_farOne b0_leads b0_drags b0_from b0_near g0_hasImage g0_remembered g0_taped g0_point g0_end g0_begin g0_deep g0_faultAt g0_steps g0_men g0_dogs f1 g0_thrown) [(0, .ref a0), (1, .int x1), (2, .int x2), (3, .int x3)] 21 [] := by
  intro n
  induction n with
  | zero => intro g0_thrown x1 x2 x3 hw; exact False.elim hw
  | succ n ih =>
    intro g0_thrown x1 x2 x3 hw H locs hP hD hS ls hl
    have C1 := C0
    obtain ⟨hx, hb, hr, hml, hown, hts, hlocks⟩ := C1
    refine lv_iload_n hx hb dX11_needed_21 rfl (lv_at hl 3 rfl) ?_
    refine lv_iload_n hx hb dX11_needed_22 rfl (lv_at hl 2 rfl) ?_
    refine lv_icmp_ge (tgt := 73) hx hb dX11_needed_23 (by decide) (fun hc => ?_) (fun hc => ?_)
    · have hw := hw.1 hc
      obtain ⟨v1, ev1⟩ : ∃ y : Int32, y = x2 + 1 := ⟨_, rfl⟩
      have hw := hw v1 ev1
      refine lv_iinc (v := v1) (lv' := [(2, .int v1), (0, .ref a0), (1, .int x1), (3, .int x3)]) hx hb dX11_needed_73 hl (k := 2) rfl (by rw [ev1]; rfl) (by decide) rfl (fun ls hl => ?_)
      refine lv_goto (tgt := 9) hx hb dX11_needed_76 (by decide) ?_
      exact hk9 g0_thrown x1 v1 hw H locs hP hD hS ls (lv_sub hl [1, 2, 0] rfl)
    · have hw := hw.2 hc
      refine lv_aload_n hx hb dX11_needed_26 rfl (lv_at hl 0 rfl) ?_
      refine lv_iload_n hx hb dX11_needed_27 rfl (lv_at hl 2 rfl) ?_
      refine lv_iconst (v := 0) hx hb dX11_needed_28 (by decide) ?_
      have hPc := hP.sub (ws' := (ceX11_ofMark cyI cyB cyJ cyZ a0 a1 b0_image b0_before b0_taken b0_tape b0_five b0_value b0_far b0_lead b0_walk b0_ends b0_manX b0_manY b0_dogX b0_dogY b0_row b0_round b0_farOne b0_leads b0_drags b0_from b0_near g0_thrown g0_hasImage g0_remembered g0_taped g0_point g0_end g0_begin g0_deep g0_faultAt g0_steps g0_men g0_dogs f1)) [0, 1] rfl
      have hDc := hD.sub (ws' := (ceX11_ofMark cyI cyB cyJ cyZ a0 a1 b0_image b0_before b0_taken b0_tape b0_five b0_value b0_far b0_lead b0_walk b0_ends b0_manX b0_manY b0_dogX b0_dogY b0_row b0_round b0_farOne b0_leads b0_drags b0_from b0_near g0_thrown g0_hasImage g0_remembered g0_taped g0_point g0_end g0_begin g0_deep g0_faultAt g0_steps g0_men g0_dogs f1)) [0, 1] (by decide) rfl
      have hFc := va_free (wc := (ceX11_ofMark cyI cyB cyJ cyZ a0 a1 b0_image b0_before b0_taken b0_tape b0_five b0_value b0_far b0_lead b0_walk b0_ends b0_manX b0_manY b0_dogX b0_dogY b0_row b0_round b0_farOne b0_leads b0_drags b0_from b0_near g0_thrown g0_hasImage g0_remembered g0_taped g0_point g0_end g0_begin g0_deep g0_faultAt g0_steps g0_men g0_dogs f1)) hD hS hA [0, 1] rfl
      refine va_calli (va_runV (As := [.int x2, .int 0]) (rest := []) ⟨hx, hb, hml, hown, hts⟩ (ctX11_ofMark l dC dI cyI cyB cyJ cyZ _ a0 a1 b0_image b0_before b0_taken b0_tape b0_five b0_value b0_far b0_lead b0_walk b0_ends b0_manX b0_manY b0_dogX b0_dogY b0_row b0_round b0_farOne b0_leads b0_drags b0_from b0_near g0_thrown g0_hasImage g0_remembered g0_taped g0_point g0_end g0_begin g0_deep g0_faultAt g0_steps g0_men g0_dogs f1 x2 0 _ hw) (cwV 2 hts gX11_needed_X11_ofMark rfl rfl rfl (by decide +kernel) ⟨Nat.le_of_ble_eq_true rfl, Nat.le_of_ble_eq_true rfl⟩) ⟨wPre_blind, va_recv hK hPc (ci := 11) (q0 := 0) rfl rfl, fun U hU hW => wPre_of hPc hK hDc hN hU hW⟩ rfl rfl hl.1 rfl (lv_room (Nat.le_of_ble_eq_true rfl)) dX11_needed_29 ⟨(Nat.zero_le _), (Nat.zero_le _)⟩) hS (fun q _ h => hFc q h) hFc (fun r3 u2 t H1 locs ht hvm hw hB hz1 hk1 hS => ?_)
      obtain ⟨hP1, hK1, hD1⟩ := hB
      rw [ht] at hP1
      obtain ⟨hP, hD⟩ := va_join (wr := pickW (ceX11_needed cyI cyB cyJ cyZ a0 a1 b0_image b0_before b0_taken b0_tape b0_five b0_value b0_far b0_lead b0_walk b0_ends b0_manX b0_manY b0_dogX b0_dogY b0_row b0_round b0_farOne b0_leads b0_drags b0_from b0_near g0_hasImage g0_remembered g0_taped g0_point g0_end g0_begin g0_deep g0_faultAt g0_steps g0_men g0_dogs f1 g0_thrown) []) (w1 := (ceX11_ofMark cyI cyB cyJ cyZ a0 a1 b0_image b0_before b0_taken b0_tape b0_five b0_value b0_far b0_lead b0_walk b0_ends b0_manX b0_manY b0_dogX b0_dogY b0_row b0_round b0_farOne b0_leads b0_drags b0_from b0_near g0_thrown g0_hasImage g0_remembered g0_taped g0_point g0_end g0_begin g0_deep g0_faultAt g0_steps g0_men g0_dogs f1)) hP hD [0, 1] [] rfl rfl (by decide) (by decide) hk1 hFc hP1 hD1
      have hP := hP.sub (ws' := (ceX11_needed cyI cyB cyJ cyZ a0 a1 b0_image b0_before b0_taken b0_tape b0_five b0_value b0_far b0_lead b0_walk b0_ends b0_manX b0_manY b0_dogX b0_dogY b0_row b0_round b0_farOne b0_leads b0_drags b0_from b0_near g0_hasImage g0_remembered g0_taped g0_point g0_end g0_begin g0_deep g0_faultAt g0_steps g0_men g0_dogs f1 g0_thrown)) [0, 1] rfl
      have hD := hD.sub (ws' := (ceX11_needed cyI cyB cyJ cyZ a0 a1 b0_image b0_before b0_taken b0_tape b0_five b0_value b0_far b0_lead b0_walk b0_ends b0_manX b0_manY b0_dogX b0_dogY b0_row b0_round b0_farOne b0_leads b0_drags b0_from b0_near g0_hasImage g0_remembered g0_taped g0_point g0_end g0_begin g0_deep g0_faultAt g0_steps g0_men g0_dogs f1 g0_thrown)) [0, 1] (by decide) rfl
      generalize H1 = H at hP hS ⊢
      refine lv_aload_n hx hb dX11_needed_32 rfl (lv_at hl 0 rfl) ?_
      refine lv_iload_n hx hb dX11_needed_33 rfl (lv_at hl 3 rfl) ?_
      refine lv_iconst (v := 0) hx hb dX11_needed_34 (by decide) ?_
      have hPc := hP.sub (ws' := (ceX11_ofMark cyI cyB cyJ cyZ a0 a1 b0_image b0_before b0_taken b0_tape b0_five b0_value b0_far b0_lead b0_walk b0_ends b0_manX b0_manY b0_dogX b0_dogY b0_row b0_round b0_farOne b0_leads b0_drags b0_from b0_near g0_thrown g0_hasImage g0_remembered g0_taped g0_point g0_end g0_begin g0_deep g0_faultAt g0_steps g0_men g0_dogs f1)) [0, 1] rfl
      have hDc := hD.sub (ws' := (ceX11_ofMark cyI cyB cyJ cyZ a0 a1 b0_image b0_before b0_taken b0_tape b0_five b0_value b0_far b0_lead b0_walk b0_ends b0_manX b0_manY b0_dogX b0_dogY b0_row b0_round b0_farOne b0_leads b0_drags b0_from b0_near g0_thrown g0_hasImage g0_remembered g0_taped g0_point g0_end g0_begin g0_deep g0_faultAt g0_steps g0_men g0_dogs f1)) [0, 1] (by decide) rfl
      have hFc := va_free (wc := (ceX11_ofMark cyI cyB cyJ cyZ a0 a1 b0_image b0_before b0_taken b0_tape b0_five b0_value b0_far b0_lead b0_walk b0_ends b0_manX b0_manY b0_dogX b0_dogY b0_row b0_round b0_farOne b0_leads b0_drags b0_from b0_near g0_thrown g0_hasImage g0_remembered g0_taped g0_point g0_end g0_begin g0_deep g0_faultAt g0_steps g0_men g0_dogs f1)) hD hS hA [0, 1] rfl
      refine va_calli (va_runV (As := [.int x3, .int 0]) (rest := [.int r3]) ⟨hx, hb, hml, hown, hts⟩ (ctX11_ofMark l dC dI cyI cyB cyJ cyZ _ a0 a1 b0_image b0_before b0_taken b0_tape b0_five b0_value b0_far b0_lead b0_walk b0_ends b0_manX b0_manY b0_dogX b0_dogY b0_row b0_round b0_farOne b0_leads b0_drags b0_from b0_near g0_thrown g0_hasImage g0_remembered g0_taped g0_point g0_end g0_begin g0_deep g0_faultAt g0_steps g0_men g0_dogs f1 x3 0 _ hw) (cwV 2 hts gX11_needed_X11_ofMark rfl rfl rfl (by decide +kernel) ⟨Nat.le_of_ble_eq_true rfl, Nat.le_of_ble_eq_true rfl⟩) ⟨wPre_blind, va_recv hK hPc (ci := 11) (q0 := 0) rfl rfl, fun U hU hW => wPre_of hPc hK hDc hN hU hW⟩ rfl rfl hl.1 rfl (lv_room (Nat.le_of_ble_eq_true rfl)) dX11_needed_35 ⟨(Nat.zero_le _), (Nat.zero_le _)⟩) hS (fun q _ h => hFc q h) hFc (fun r5 u4 t H1 locs ht hvm hw hB hz1 hk1 hS => ?_)
      obtain ⟨hP1, hK1, hD1⟩ := hB
      rw [ht] at hP1
      obtain ⟨hP, hD⟩ := va_join (wr := pickW (ceX11_needed cyI cyB cyJ cyZ a0 a1 b0_image b0_before b0_taken b0_tape b0_five b0_value b0_far b0_lead b0_walk b0_ends b0_manX b0_manY b0_dogX b0_dogY b0_row b0_round b0_farOne b0_leads b0_drags b0_from b0_near g0_hasImage g0_remembered g0_taped g0_point g0_end g0_begin g0_deep g0_faultAt g0_steps g0_men g0_dogs f1 g0_thrown) []) (w1 := (ceX11_ofMark cyI cyB cyJ cyZ a0 a1 b0_image b0_before b0_taken b0_tape b0_five b0_value b0_far b0_lead b0_walk b0_ends b0_manX b0_manY b0_dogX b0_dogY b0_row b0_round b0_farOne b0_leads b0_drags b0_from b0_near g0_thrown g0_hasImage g0_remembered g0_taped g0_point g0_end g0_begin g0_deep g0_faultAt g0_steps g0_men g0_dogs f1)) hP hD [0, 1] [] rfl rfl (by decide) (by decide) hk1 hFc hP1 hD1
      have hP := hP.sub (ws' := (ceX11_needed cyI cyB cyJ cyZ a0 a1 b0_image b0_before b0_taken b0_tape b0_five b0_value b0_far b0_lead b0_walk b0_ends b0_manX b0_manY b0_dogX b0_dogY b0_row b0_round b0_farOne b0_leads b0_drags b0_from b0_near g0_hasImage g0_remembered g0_taped g0_point g0_end g0_begin g0_deep g0_faultAt g0_steps g0_men g0_dogs f1 g0_thrown)) [0, 1] rfl
      have hD := hD.sub (ws' := (ceX11_needed cyI cyB cyJ cyZ a0 a1 b0_image b0_before b0_taken b0_tape b0_five b0_value b0_far b0_lead b0_walk b0_ends b0_manX b0_manY b0_dogX b0_dogY b0_row b0_round b0_farOne b0_leads b0_drags b0_from b0_near g0_hasImage g0_remembered g0_taped g0_point g0_end g0_begin g0_deep g0_faultAt g0_steps g0_men g0_dogs f1 g0_thrown)) [0, 1] (by decide) rfl
      generalize H1 = H at hP hS ⊢
      refine lv_icmp_eq (tgt := 67) hx hb dX11_needed_38 (by decide) (fun hc => ?_) (fun hc => ?_)
      · have hw := hw.1 hc
        exact bX11_needed_67 C0 hK hN hA hQ ih hk9 g0_thrown x1 x2 x3 hw _ _ hP hD hS ls (lv_sub hl [0, 1, 2, 3] rfl)
      · have hw := hw.2 hc
        refine lv_aload_n hx hb dX11_needed_41 rfl (lv_at hl 0 rfl) ?_
        refine lv_iload_n hx hb dX11_needed_42 rfl (lv_at hl 2 rfl) ?_
        refine lv_iconst (v := 1) hx hb dX11_needed_43 (by decide) ?_
        have hPc := hP.sub (ws' := (ceX11_ofMark cyI cyB cyJ cyZ a0 a1 b0_image b0_before b0_taken b0_tape b0_five b0_value b0_far b0_lead b0_walk b0_ends b0_manX b0_manY b0_dogX b0_dogY b0_row b0_round b0_farOne b0_leads b0_drags b0_from b0_near g0_thrown g0_hasImage g0_remembered g0_taped g0_point g0_end g0_begin g0_deep g0_faultAt g0_steps g0_men g0_dogs f1)) [0, 1] rfl
        have hDc := hD.sub (ws' := (ceX11_ofMark cyI cyB cyJ cyZ a0 a1 b0_image b0_before b0_taken b0_tape b0_five b0_value b0_far b0_lead b0_walk b0_ends b0_manX b0_manY b0_dogX b0_dogY b0_row b0_round b0_farOne b0_leads b0_drags b0_from b0_near g0_thrown g0_hasImage g0_remembered g0_taped g0_point g0_end g0_begin g0_deep g0_faultAt g0_steps g0_men g0_dogs f1)) [0, 1] (by decide) rfl
        have hFc := va_free (wc := (ceX11_ofMark cyI cyB cyJ cyZ a0 a1 b0_image b0_before b0_taken b0_tape b0_five b0_value b0_far b0_lead b0_walk b0_ends b0_manX b0_manY b0_dogX b0_dogY b0_row b0_round b0_farOne b0_leads b0_drags b0_from b0_near g0_thrown g0_hasImage g0_remembered g0_taped g0_point g0_end g0_begin g0_deep g0_faultAt g0_steps g0_men g0_dogs f1)) hD hS hA [0, 1] rfl
        refine va_calli (va_runV (As := [.int x2, .int 1]) (rest := []) ⟨hx, hb, hml, hown, hts⟩ (ctX11_ofMark l dC dI cyI cyB cyJ cyZ _ a0 a1 b0_image b0_before b0_taken b0_tape b0_five b0_value b0_far b0_lead b0_walk b0_ends b0_manX b0_manY b0_dogX b0_dogY b0_row b0_round b0_farOne b0_leads b0_drags b0_from b0_near g0_thrown g0_hasImage g0_remembered g0_taped g0_point g0_end g0_begin g0_deep g0_faultAt g0_steps g0_men g0_dogs f1 x2 1 _ hw) (cwV 2 hts gX11_needed_X11_ofMark rfl rfl rfl (by decide +kernel) ⟨Nat.le_of_ble_eq_true rfl, Nat.le_of_ble_eq_true rfl⟩) ⟨wPre_blind, va_recv hK hPc (ci := 11) (q0 := 0) rfl rfl, fun U hU hW => wPre_of hPc hK hDc hN hU hW⟩ rfl rfl hl.1 rfl (lv_room (Nat.le_of_ble_eq_true rfl)) dX11_needed_44 ⟨(Nat.zero_le _), (Nat.zero_le _)⟩) hS (fun q _ h => hFc q h) hFc (fun r7 u6 t H1 locs ht hvm hw hB hz1 hk1 hS => ?_)
        obtain ⟨hP1, hK1, hD1⟩ := hB
        rw [ht] at hP1
        obtain ⟨hP, hD⟩ := va_join (wr := pickW (ceX11_needed cyI cyB cyJ cyZ a0 a1 b0_image b0_before b0_taken b0_tape b0_five b0_value b0_far b0_lead b0_walk b0_ends b0_manX b0_manY b0_dogX b0_dogY b0_row b0_round b0_farOne b0_leads b0_drags b0_from b0_near g0_hasImage g0_remembered g0_taped g0_point g0_end g0_begin g0_deep g0_faultAt g0_steps g0_men g0_dogs f1 g0_thrown) []) (w1 := (ceX11_ofMark cyI cyB cyJ cyZ a0 a1 b0_image b0_before b0_taken b0_tape b0_five b0_value b0_far b0_lead b0_walk b0_ends b0_manX b0_manY b0_dogX b0_dogY b0_row b0_round b0_farOne b0_leads b0_drags b0_from b0_near g0_thrown g0_hasImage g0_remembered g0_taped g0_point g0_end g0_begin g0_deep g0_faultAt g0_steps g0_men g0_dogs f1)) hP hD [0, 1] [] rfl rfl (by decide) (by decide) hk1 hFc hP1 hD1
        have hP := hP.sub (ws' := (ceX11_needed cyI cyB cyJ cyZ a0 a1 b0_image b0_before b0_taken b0_tape b0_five b0_value b0_far b0_lead b0_walk b0_ends b0_manX b0_manY b0_dogX b0_dogY b0_row b0_round b0_farOne b0_leads b0_drags b0_from b0_near g0_hasImage g0_remembered g0_taped g0_point g0_end g0_begin g0_deep g0_faultAt g0_steps g0_men g0_dogs f1 g0_thrown)) [0, 1] rfl
        have hD := hD.sub (ws' := (ceX11_needed cyI cyB cyJ cyZ a0 a1 b0_image b0_before b0_taken b0_tape b0_five b0_value b0_far b0_lead b0_walk b0_ends b0_manX b0_manY b0_dogX b0_dogY b0_row b0_round b0_farOne b0_leads b0_drags b0_from b0_near g0_hasImage g0_remembered g0_taped g0_point g0_end g0_begin g0_deep g0_faultAt g0_steps g0_men g0_dogs f1 g0_thrown)) [0, 1] (by decide) rfl
        generalize H1 = H at hP hS ⊢
        refine lv_aload_n hx hb dX11_needed_47 rfl (lv_at hl 0 rfl) ?_
        refine lv_iload_n hx hb dX11_needed_48 rfl (lv_at hl 3 rfl) ?_
        refine lv_iconst (v := 1) hx hb dX11_needed_49 (by decide) ?_
        have hPc := hP.sub (ws' := (ceX11_ofMark cyI cyB cyJ cyZ a0 a1 b0_image b0_before b0_taken b0_tape b0_five b0_value b0_far b0_lead b0_walk b0_ends b0_manX b0_manY b0_dogX b0_dogY b0_row b0_round b0_farOne b0_leads b0_drags b0_from b0_near g0_thrown g0_hasImage g0_remembered g0_taped g0_point g0_end g0_begin g0_deep g0_faultAt g0_steps g0_men g0_dogs f1)) [0, 1] rfl
        have hDc := hD.sub (ws' := (ceX11_ofMark cyI cyB cyJ cyZ a0 a1 b0_image b0_before b0_taken b0_tape b0_five b0_value b0_far b0_lead b0_walk b0_ends b0_manX b0_manY b0_dogX b0_dogY b0_row b0_round b0_farOne b0_leads b0_drags b0_from b0_near g0_thrown g0_hasImage g0_remembered g0_taped g0_point g0_end g0_begin g0_deep g0_faultAt g0_steps g0_men g0_dogs f1)) [0, 1] (by decide) rfl
        have hFc := va_free (wc := (ceX11_ofMark cyI cyB cyJ cyZ a0 a1 b0_image b0_before b0_taken b0_tape b0_five b0_value b0_far b0_lead b0_walk b0_ends b0_manX b0_manY b0_dogX b0_dogY b0_row b0_round b0_farOne b0_leads b0_drags b0_from b0_near g0_thrown g0_hasImage g0_remembered g0_taped g0_point g0_end g0_begin g0_deep g0_faultAt g0_steps g0_men g0_dogs f1)) hD hS hA [0, 1] rfl
        refine va_calli (va_runV (As := [.int x3, .int 1]) (rest := [.int r7]) ⟨hx, hb, hml, hown, hts⟩ (ctX11_ofMark l dC dI cyI cyB cyJ cyZ _ a0 a1 b0_image b0_before b0_taken b0_tape b0_five b0_value b0_far b0_lead b0_walk b0_ends b0_manX b0_manY b0_dogX b0_dogY b0_row b0_round b0_farOne b0_leads b0_drags b0_from b0_near g0_thrown g0_hasImage g0_remembered g0_taped g0_point g0_end g0_begin g0_deep g0_faultAt g0_steps g0_men g0_dogs f1 x3 1 _ hw) (cwV 2 hts gX11_needed_X11_ofMark rfl rfl rfl (by decide +kernel) ⟨Nat.le_of_ble_eq_true rfl, Nat.le_of_ble_eq_true rfl⟩) ⟨wPre_blind, va_recv hK hPc (ci := 11) (q0 := 0) rfl rfl, fun U hU hW => wPre_of hPc hK hDc hN hU hW⟩ rfl rfl hl.1 rfl (lv_room (Nat.le_of_ble_eq_true rfl)) dX11_needed_50 ⟨(Nat.zero_le _), (Nat.zero_le _)⟩) hS (fun q _ h => hFc q h) hFc (fun r9 u8 t H1 locs ht hvm hw hB hz1 hk1 hS => ?_)
        obtain ⟨hP1, hK1, hD1⟩ := hB
        rw [ht] at hP1
        obtain ⟨hP, hD⟩ := va_join (wr := pickW (ceX11_needed cyI cyB cyJ cyZ a0 a1 b0_image b0_before b0_taken b0_tape b0_five b0_value b0_far b0_lead b0_walk b0_ends b0_manX b0_manY b0_dogX b0_dogY b0_row b0_round b0_farOne b0_leads b0_drags b0_from b0_near g0_hasImage g0_remembered g0_taped g0_point g0_end g0_begin g0_deep g0_faultAt g0_steps g0_men g0_dogs f1 g0_thrown) []) (w1 := (ceX11_ofMark cyI cyB cyJ cyZ a0 a1 b0_image b0_before b0_taken b0_tape b0_five b0_value b0_far b0_lead b0_walk b0_ends b0_manX b0_manY b0_dogX b0_dogY b0_row b0_round b0_farOne b0_leads b0_drags b0_from b0_near g0_thrown g0_hasImage g0_remembered g0_taped g0_point g0_end g0_begin g0_deep g0_faultAt g0_steps g0_men g0_dogs f1)) hP hD [0, 1] [] rfl rfl (by decide) (by decide) hk1 hFc hP1 hD1
        have hP := hP.sub (ws' := (ceX11_needed cyI cyB cyJ cyZ a0 a1 b0_image b0_before b0_taken b0_tape b0_five b0_value b0_far b0_lead b0_walk b0_ends b0_manX b0_manY b0_dogX b0_dogY b0_row b0_round b0_farOne b0_leads b0_drags b0_from b0_near g0_hasImage g0_remembered g0_taped g0_point g0_end g0_begin g0_deep g0_faultAt g0_steps g0_men g0_dogs f1 g0_thrown)) [0, 1] rfl
        have hD := hD.sub (ws' := (ceX11_needed cyI cyB cyJ cyZ a0 a1 b0_image b0_before b0_taken b0_tape b0_five b0_value b0_far b0_lead b0_walk b0_ends b0_manX b0_manY b0_dogX b0_dogY b0_row b0_round b0_farOne b0_leads b0_drags b0_from b0_near g0_hasImage g0_remembered g0_taped g0_point g0_end g0_begin g0_deep g0_faultAt g0_steps g0_men g0_dogs f1 g0_thrown)) [0, 1] (by decide) rfl
        generalize H1 = H at hP hS ⊢
        refine lv_icmp_ne (tgt := 67) hx hb dX11_needed_53 (by decide) (fun hc => ?_) (fun hc => ?_)
        · have hw := hw.1 hc
          exact bX11_needed_67 C0 hK hN hA hQ ih hk9 g0_thrown x1 x2 x3 hw _ _ hP hD hS ls (lv_sub hl [0, 1, 2, 3] rfl)
        · have hw := hw.2 hc
          refine lv_iload_n hx hb dX11_needed_56 rfl (lv_at hl 1 rfl) ?_
          refine lv_aload_n hx hb dX11_needed_57 rfl (lv_at hl 0 rfl) ?_
          refine lv_iload_n hx hb dX11_needed_58 rfl (lv_at hl 2 rfl) ?_
          refine lv_iload_n hx hb dX11_needed_59 rfl (lv_at hl 3 rfl) ?_
          have hPc := hP.sub (ws' := (ceX11_farOfMarks cyI cyB cyJ cyZ a0 a1 b0_image b0_before b0_taken b0_tape b0_five b0_value b0_far b0_lead b0_walk b0_ends b0_manX b0_manY b0_dogX b0_dogY b0_row b0_round b0_farOne b0_leads b0_drags b0_from b0_near g0_thrown g0_hasImage g0_remembered g0_taped g0_point g0_end g0_begin g0_deep g0_faultAt g0_steps g0_men g0_dogs f1)) [0, 1] rfl
          have hDc := hD.sub (ws' := (ceX11_farOfMarks cyI cyB cyJ cyZ a0 a1 b0_image b0_before b0_taken b0_tape b0_five b0_value b0_far b0_lead b0_walk b0_ends b0_manX b0_manY b0_dogX b0_dogY b0_row b0_round b0_farOne b0_leads b0_drags b0_from b0_near g0_thrown g0_hasImage g0_remembered g0_taped g0_point g0_end g0_begin g0_deep g0_faultAt g0_steps g0_men g0_dogs f1)) [0, 1] (by decide) rfl
          have hFc := va_free (wc := (ceX11_farOfMarks cyI cyB cyJ cyZ a0 a1 b0_image b0_before b0_taken b0_tape b0_five b0_value b0_far b0_lead b0_walk b0_ends b0_manX b0_manY b0_dogX b0_dogY b0_row b0_round b0_farOne b0_leads b0_drags b0_from b0_near g0_thrown g0_hasImage g0_remembered g0_taped g0_point g0_end g0_begin g0_deep g0_faultAt g0_steps g0_men g0_dogs f1)) hD hS hA [0, 1] rfl
          refine va_calli (va_runV (As := [.int x2, .int x3]) (rest := [.int x1]) ⟨hx, hb, hml, hown, hts⟩ (ctX11_farOfMarks l dC dI cyI cyB cyJ cyZ _ a0 a1 b0_image b0_before b0_taken b0_tape b0_five b0_value b0_far b0_lead b0_walk b0_ends b0_manX b0_manY b0_dogX b0_dogY b0_row b0_round b0_farOne b0_leads b0_drags b0_from b0_near g0_thrown g0_hasImage g0_remembered g0_taped g0_point g0_end g0_begin g0_deep g0_faultAt g0_steps g0_men g0_dogs f1 x2 x3 _ hw) (cwV 2 hts gX11_needed_X11_farOfMarks rfl rfl rfl (by decide +kernel) ⟨Nat.le_of_ble_eq_true rfl, Nat.le_of_ble_eq_true rfl⟩) ⟨wPre_blind, va_recv hK hPc (ci := 11) (q0 := 0) rfl rfl, fun U hU hW => wPre_of hPc hK hDc hN hU hW⟩ rfl rfl hl.1 rfl (lv_room (Nat.le_of_ble_eq_true rfl)) dX11_needed_60 ⟨(Nat.zero_le _), (Nat.zero_le _)⟩) hS (fun q _ h => hFc q h) hFc (fun r11 u10 t H1 locs ht hvm hw hB hz1 hk1 hS => ?_)
          obtain ⟨hP1, hK1, hD1⟩ := hB
          rw [ht] at hP1
          obtain ⟨hP, hD⟩ := va_join (wr := pickW (ceX11_needed cyI cyB cyJ cyZ a0 a1 b0_image b0_before b0_taken b0_tape b0_five b0_value b0_far b0_lead b0_walk b0_ends b0_manX b0_manY b0_dogX b0_dogY b0_row b0_round b0_farOne b0_leads b0_drags b0_from b0_near g0_hasImage g0_remembered g0_taped g0_point g0_end g0_begin g0_deep g0_faultAt g0_steps g0_men g0_dogs f1 g0_thrown) []) (w1 := (ceX11_farOfMarks cyI cyB cyJ cyZ a0 a1 b0_image b0_before b0_taken b0_tape b0_five b0_value b0_far b0_lead b0_walk b0_ends b0_manX b0_manY b0_dogX b0_dogY b0_row b0_round b0_farOne b0_leads b0_drags b0_from b0_near g0_thrown g0_hasImage g0_remembered g0_taped g0_point g0_end g0_begin g0_deep g0_faultAt g0_steps g0_men g0_dogs f1)) hP hD [0, 1] [] rfl rfl (by decide) (by decide) hk1 hFc hP1 hD1
          have hP := hP.sub (ws' := (ceX11_needed cyI cyB cyJ cyZ a0 a1 b0_image b0_before b0_taken b0_tape b0_five b0_value b0_far b0_lead b0_walk b0_ends b0_manX b0_manY b0_dogX b0_dogY b0_row b0_round b0_farOne b0_leads b0_drags b0_from b0_near g0_hasImage g0_remembered g0_taped g0_point g0_end g0_begin g0_deep g0_faultAt g0_steps g0_men g0_dogs f1 g0_thrown)) [0, 1] rfl
          have hD := hD.sub (ws' := (ceX11_needed cyI cyB cyJ cyZ a0 a1 b0_image b0_before b0_taken b0_tape b0_five b0_value b0_far b0_lead b0_walk b0_ends b0_manX b0_manY b0_dogX b0_dogY b0_row b0_round b0_farOne b0_leads b0_drags b0_from b0_near g0_hasImage g0_remembered g0_taped g0_point g0_end g0_begin g0_deep g0_faultAt g0_steps g0_men g0_dogs f1 g0_thrown)) [0, 1] (by decide) rfl
          generalize H1 = H at hP hS ⊢
          refine va_mmax hx hb (hml.trans hl.1.symm) hown (hts (.methodLink RX11 273 Lib.Math.max.name) (List.mem_of_getElem? (i := 3) rfl)) (hts (.static Lib.Math.max.name) (List.mem_of_getElem? (i := 4) rfl)) (hts (.initialized "java/lang/Math") (List.mem_of_getElem? (i := 5) rfl)) (hts (.code Lib.Math.max.name Lib.Math.max.code 2 (some .int)) (List.mem_of_getElem? (i := 6) rfl)) (Nat.le_of_ble_eq_true rfl) (Nat.le_of_ble_eq_true rfl) (by decide) (by decide) dX11_needed_63 ?_
          refine lv_topi (fun v12 ev12 => ?_)
          have hw := hw v12 ev12
          refine lv_istore_n (lv' := [(1, .int v12), (0, .ref a0), (2, .int x2), (3, .int x3)]) hx hb dX11_needed_66 rfl hl (by decide) rfl (fun ls hl => ?_)
          exact bX11_needed_67 C0 hK hN hA hQ ih hk9 g0_thrown v12 x2 x3 hw _ _ hP hD hS ls (lv_sub hl [1, 0, 2, 3] rfl)
set_option maxRecDepth 100000 in
set_option maxHeartbeats 4000000 in
theorem bX11_needed_9 {p : Program} {l : Launch} {e : Env} {s : State} {m : MethodId} {args : Array Value} {below : List Frame} {meth : Method} {c : Code} {dC : Nat → ClassId} {dI : Nat → Nat → Nat} {cyI cyB cyJ cyZ : ClassId} {A : Nat → Prop} {a0 a1 b0_image b0_before b0_taken b0_tape b0_five b0_value b0_far b0_lead b0_walk b0_ends b0_manX b0_manY b0_dogX b0_dogY b0_row b0_round b0_farOne b0_leads b0_drags b0_from b0_near : Nat} {g0_hasImage : Int32} {g0_remembered : Int32} {g0_taped : Int32} {g0_point : Int32} {g0_end : Int32} {g0_begin : Int32} {g0_deep : Int32} {g0_faultAt : Int32} {g0_steps : Int32} {g0_men : Int32} {g0_dogs : Int32} (C0 : cxM p s m meth c args wsX11_needed RX11 cX11_needed 4 (some .int)) (hK : va_K (dC, dI) vwCl (tyA cyI cyB cyJ cyZ) s) (hN : nwA s) (hA : ∀ q : Nat, s.heap.size ≤ q → A q) {post : Int32 → Int32 → Prop} {f1 : Nat → Int32} {Q : State → Prop} (hQ : Q = MQ below (va_Qi post (fun u : Int32 => wAt dC dI cyI cyB cyJ cyZ A (ceX11_needed cyI cyB cyJ cyZ a0 a1 b0_image b0_before b0_taken b0_tape b0_five b0_value b0_far b0_lead b0_walk b0_ends b0_manX b0_manY b0_dogX b0_dogY b0_row b0_round b0_farOne b0_leads b0_drags b0_from b0_near g0_hasImage g0_remembered g0_taped g0_point g0_end g0_begin g0_deep g0_faultAt g0_steps g0_men g0_dogs f1 u)) A) args s 0 0 A) : ∀ (n : Nat) (g0_thrown : Int32) (x1 : Int32) (x2 : Int32), wpX11_needed_9 post f1 n g0_thrown x1 x2 → AtW p l e rmX11_needed s m args below meth c dC dI A Q 4 0 0 (ceX11_needed cyI cyB cyJ cyZ a0 a1 b0_image b0_before b0_taken b0_tape b0_five b0_value b0_far b0_lead b0_walk b0_ends b0_manX b0_manY b0_dogX b0_dogY b0_row b0_round b0_farOne b0_leads b0_drags b0_from b0_near g0_hasImage g0_remembered g0_taped g0_point g0_end g0_begin g0_deep g0_faultAt g0_steps g0_men g0_dogs f1 g0_thrown) [(0, .ref a0), (1, .int x1), (2, .int x2)] 9 [] := by
  intro n
  induction n with
  | zero => intro g0_thrown x1 x2 hw; exact False.elim hw
  | succ n ih =>
    intro g0_thrown x1 x2 hw H locs hP hD hS ls hl
    have C1 := C0
    obtain ⟨hx, hb, hr, hml, hown, hts, hlocks⟩ := C1
    refine lv_iload_n hx hb dX11_needed_9 rfl (lv_at hl 2 rfl) ?_
    refine lv_aload_n hx hb dX11_needed_10 rfl (lv_at hl 0 rfl) ?_
    refine va_get (D := (dC, dI)) (ci := 11) (v := .ref a1) (C := RX11) (T := TX11) (N := 34) hx hb hts inX11_needed_X11 hown hK hP 0 rfl rfl 1 (by decide) (hts (.fieldLink RX11 13 "LeadParkModel" "world" "[I") (List.mem_of_getElem? (i := 2) rfl)) (fun _ h9 => h9) rfl dX11_needed_11 ?_
    refine lv_iconst (v := 4) hx hb dX11_needed_14 (by decide) ?_
    obtain ⟨hi, hw⟩ := hw
    refine va_iald hx hb hK hP 1 0 rfl rfl hi dX11_needed_15 ?_
    refine lv_icmp_ge (tgt := 79) hx hb dX11_needed_16 (by decide) (fun hc => ?_) (fun hc => ?_)
    · have hw := hw.1 hc
      refine lv_iload_n hx hb dX11_needed_79 rfl (lv_at hl 1 rfl) ?_
      rw [hQ]
      exact W.iret (v := x1) hx hb hr (fun t ht hW => ⟨⟨x1, (g0_thrown), rfl, hw, by rw [ht]; exact hP, va_K.moved hW.alike hK, hD⟩, hS.F ht⟩) hS.2.2 dX11_needed_80
    · have hw := hw.2 hc
      refine lv_iconst (v := 0) hx hb dX11_needed_19 (by decide) ?_
      refine lv_istore_n (lv' := [(3, .int 0), (0, .ref a0), (1, .int x1), (2, .int x2)]) hx hb dX11_needed_20 rfl hl (by decide) rfl (fun ls hl => ?_)
      obtain ⟨nn, hw⟩ := hw
      exact bX11_needed_21 C0 hK hN hA hQ ih nn g0_thrown x1 x2 0 hw _ _ hP hD hS ls (lv_sub hl [1, 2, 3, 0] rfl)
set_option maxRecDepth 100000 in
set_option maxHeartbeats 4000000 in
theorem ctX11_needed (l : Launch) (dC : Nat → ClassId) (dI : Nat → Nat → Nat) (cyI cyB cyJ cyZ : ClassId) (sz : Nat) (a0 a1 b0_image b0_before b0_taken b0_tape b0_five b0_value b0_far b0_lead b0_walk b0_ends b0_manX b0_manY b0_dogX b0_dogY b0_row b0_round b0_farOne b0_leads b0_drags b0_from b0_near : Nat) (g0_hasImage : Int32) (g0_remembered : Int32) (g0_taped : Int32) (g0_point : Int32) (g0_end : Int32) (g0_begin : Int32) (g0_deep : Int32) (g0_faultAt : Int32) (g0_steps : Int32) (g0_men : Int32) (g0_dogs : Int32) (f1 : Nat → Int32) (g0_thrown : Int32) (post : Int32 → Int32 → Prop) (hw : wpX11_needed post f1 g0_thrown ) : Met l yX11_needed wsX11_needed rmX11_needed (va_Pc [.ref a0] (wPre dC dI cyI cyB cyJ cyZ sz (ceX11_needed cyI cyB cyJ cyZ a0 a1 b0_image b0_before b0_taken b0_tape b0_five b0_value b0_far b0_lead b0_walk b0_ends b0_manX b0_manY b0_dogX b0_dogY b0_row b0_round b0_farOne b0_leads b0_drags b0_from b0_near g0_hasImage g0_remembered g0_taped g0_point g0_end g0_begin g0_deep g0_faultAt g0_steps g0_men g0_dogs f1 g0_thrown))) (va_Qi post (fun u : Int32 => wAt dC dI cyI cyB cyJ cyZ (va_A (ceX11_needed cyI cyB cyJ cyZ a0 a1 b0_image b0_before b0_taken b0_tape b0_five b0_value b0_far b0_lead b0_walk b0_ends b0_manX b0_manY b0_dogX b0_dogY b0_row b0_round b0_farOne b0_leads b0_drags b0_from b0_near g0_hasImage g0_remembered g0_taped g0_point g0_end g0_begin g0_deep g0_faultAt g0_steps g0_men g0_dogs f1 g0_thrown) sz) (ceX11_needed cyI cyB cyJ cyZ a0 a1 b0_image b0_before b0_taken b0_tape b0_five b0_value b0_far b0_lead b0_walk b0_ends b0_manX b0_manY b0_dogX b0_dogY b0_row b0_round b0_farOne b0_leads b0_drags b0_from b0_near g0_hasImage g0_remembered g0_taped g0_point g0_end g0_begin g0_deep g0_faultAt g0_steps g0_men g0_dogs f1 u)) (va_A (ceX11_needed cyI cyB cyJ cyZ a0 a1 b0_image b0_before b0_taken b0_tape b0_five b0_value b0_far b0_lead b0_walk b0_ends b0_manX b0_manY b0_dogX b0_dogY b0_row b0_round b0_farOne b0_leads b0_drags b0_from b0_near g0_hasImage g0_remembered g0_taped g0_point g0_end g0_begin g0_deep g0_faultAt g0_steps g0_men g0_dogs f1 g0_thrown) sz)) 0 0 (va_A (ceX11_needed cyI cyB cyJ cyZ a0 a1 b0_image b0_before b0_taken b0_tape b0_five b0_value b0_far b0_lead b0_walk b0_ends b0_manX b0_manY b0_dogX b0_dogY b0_row b0_round b0_farOne b0_leads b0_drags b0_from b0_near g0_hasImage g0_remembered g0_taped g0_point g0_end g0_begin g0_deep g0_faultAt g0_steps g0_men g0_dogs f1 g0_thrown) sz) := by
  refine Met.ofW (cc := cX11_needed) (maxL := 4) (ret := (some .int)) (by decide) rfl ?_
  intro p e s m args below meth c s₁ B hml hv
  obtain ⟨rfl, hsz, hP, hK, hD0, hN⟩ := hv
  have hx := B.exec
  have hb := B.bytes
  have hr := B.returns
  have hts := atoms_spec (ws := wsX11_needed) B.pre
  have hown : s.vm.findClass RX11 = some m.cls := findClass_of_methodNamed B.named
  have hlocks := B.notSynchronized
  subst hsz
  have hD := hD0.self (sz := s.heap.size)
  generalize hAe : va_A (ceX11_needed cyI cyB cyJ cyZ a0 a1 b0_image b0_before b0_taken b0_tape b0_five b0_value b0_far b0_lead b0_walk b0_ends b0_manX b0_manY b0_dogX b0_dogY b0_row b0_round b0_farOne b0_leads b0_drags b0_from b0_near g0_hasImage g0_remembered g0_taped g0_point g0_end g0_begin g0_deep g0_faultAt g0_steps g0_men g0_dogs f1 g0_thrown) s.heap.size = A at hD ⊢
  have hA : ∀ q : Nat, s.heap.size ≤ q → A q := fun q h => by rw [← hAe]; exact Or.inr h
  have hS : va_S A s.heap s.heap [] := va_S.rf
  have C0 : cxM p s m meth c _ wsX11_needed RX11 cX11_needed 4 (some .int) := ⟨hx, hb, hr, hml, hown, hts, hlocks⟩
  have hl := lv_entry ([.ref a0]) (n := 4) (Nat.le_of_ble_eq_true rfl)
  rw [lg_entry_eq]
  generalize (lg_sl ([.ref a0]) ++ List.replicate (4 - (lg_sl ([.ref a0])).length) Slot.unset).toArray = ls at hl ⊢
  have hl : lv_has ls 4 [(0, .ref a0)] := hl
  show W p l e rmX11_needed s m _ below meth c _ _ _ _ _ _
  refine wq (fun Q hQ => ?_)
  refine lv_aload_n hx hb dX11_needed_0 rfl (lv_at hl 0 rfl) ?_
  refine lv_iconst (v := 0) hx hb dX11_needed_1 (by decide) ?_
  refine va_put (D := (dC, dI)) (ci := 11) (v := .int 0) (ty := .int) (C := RX11) (T := TX11) (N := 34) hx hb hts inX11_needed_X11 tyX11 tyX11_ok nmX11 hown hK hP hD hS 0 rfl rfl 0 (by decide) (hts (.fieldLink RX11 3 "LeadParkModel" "thrown" "I") (List.mem_of_getElem? (i := 1) rfl)) (fun _ h9 => h9) rfl (by decide +kernel) rfl rfl (Nat.le_of_ble_eq_true rfl) dX11_needed_2 (fun H locs hP hD hS => ?_)
  have hP : va_P (dC, dI) vwCl (ceX11_needed cyI cyB cyJ cyZ a0 a1 b0_image b0_before b0_taken b0_tape b0_five b0_value b0_far b0_lead b0_walk b0_ends b0_manX b0_manY b0_dogX b0_dogY b0_row b0_round b0_farOne b0_leads b0_drags b0_from b0_near g0_hasImage g0_remembered g0_taped g0_point g0_end g0_begin g0_deep g0_faultAt g0_steps g0_men g0_dogs f1 0) H := hP
  have hD : va_D A (ceX11_needed cyI cyB cyJ cyZ a0 a1 b0_image b0_before b0_taken b0_tape b0_five b0_value b0_far b0_lead b0_walk b0_ends b0_manX b0_manY b0_dogX b0_dogY b0_row b0_round b0_farOne b0_leads b0_drags b0_from b0_near g0_hasImage g0_remembered g0_taped g0_point g0_end g0_begin g0_deep g0_faultAt g0_steps g0_men g0_dogs f1 0) := hD
  refine lv_iconst (v := (-1)) hx hb dX11_needed_5 (by decide) ?_
  refine lv_istore_n (lv' := [(1, .int (-1)), (0, .ref a0)]) hx hb dX11_needed_6 rfl hl (by decide) rfl (fun ls hl => ?_)
  refine lv_iconst (v := 0) hx hb dX11_needed_7 (by decide) ?_
  refine lv_istore_n (lv' := [(2, .int 0), (1, .int (-1)), (0, .ref a0)]) hx hb dX11_needed_8 rfl hl (by decide) rfl (fun ls hl => ?_)
  obtain ⟨nn, hw⟩ := hw
  exact bX11_needed_9 C0 hK hN hA hQ nn 0 (-1) 0 hw _ _ hP hD hS ls (lv_sub hl [2, 1, 0] rfl)
/-! LeadParkModel.fits (IIZ)I -/
abbrev ceX11_fits (cyI cyB cyJ cyZ : ClassId) (a0 a1 b0_image b0_before b0_taken b0_tape b0_five b0_value b0_far b0_lead b0_walk b0_ends b0_manX b0_manY b0_dogX b0_dogY b0_row b0_round b0_farOne b0_leads b0_drags b0_from b0_near : Nat) (g0_hasImage : Int32) (g0_remembered : Int32) (g0_taped : Int32) (g0_point : Int32) (g0_end : Int32) (g0_begin : Int32) (g0_deep : Int32) (g0_faultAt : Int32) (g0_steps : Int32) (g0_men : Int32) (g0_dogs : Int32) (f1 : Nat → Int32) (g0_thrown : Int32) : va_W := [(a0, .inr (11, [.int g0_thrown, .ref a1, .ref b0_image, .ref b0_before, .int g0_hasImage, .ref b0_taken, .int g0_remembered, .ref b0_tape, .int g0_taped, .int g0_point, .int g0_end, .int g0_begin, .int g0_deep, .int g0_faultAt, .ref b0_five, .int g0_steps, .ref b0_value, .ref b0_far, .int g0_men, .int g0_dogs, .ref b0_lead, .ref b0_walk, .ref b0_ends, .ref b0_manX, .ref b0_manY, .ref b0_dogX, .ref b0_dogY, .ref b0_row, .ref b0_round, .ref b0_farOne, .ref b0_leads, .ref b0_drags, .ref b0_from, .ref b0_near])), (a1, .inl (cyI, 2508, .inl f1))]

theorem inX11_fits_X11 : ∀ w ∈ wsX110, w ∈ wsX11_fits := fun _ h => List.mem_cons_of_mem _ (List.mem_append_right _ h)
abbrev rmX11_fits : Room := { frames := 2, cells := 0, slots := 0, locals := 45 }
def wpX11_fits_170 (k67 : Int32 → Int32 → Int32 → Int32 → Int32 → Int32 → Int32 → Int32 → Prop) (k50 : Int32 → Int32 → Int32 → Int32 → Int32 → Int32 → Int32 → Prop) (post : Int32 → Int32 → Prop) (f1 : Nat → Int32) (g0_thrown : Int32) (x1 : Int32) (x2 : Int32) (x3 : Int32) (x4 : Int32) (x5 : Int32) (x6 : Int32) (x7 : Int32) : Prop :=
  ∀ v1 : Int32, v1 = x7 + 1 →
  k67 g0_thrown x1 x2 x3 x4 x5 x6 v1
def wpX11_fits_165 (k67 : Int32 → Int32 → Int32 → Int32 → Int32 → Int32 → Int32 → Int32 → Prop) (k50 : Int32 → Int32 → Int32 → Int32 → Int32 → Int32 → Int32 → Prop) (post : Int32 → Int32 → Prop) (f1 : Nat → Int32) (g0_thrown : Int32) (x1 : Int32) (x2 : Int32) (x3 : Int32) (x4 : Int32) (x6 : Int32) (x7 : Int32) (s0 : Int32) : Prop :=
  ∀ v1 : Int32, v1 = x4 + 1 →
  wpX11_fits_170 k67 k50 post f1 g0_thrown x1 x2 x3 v1 s0 x6 x7
def wpX11_fits_122 (k67 : Int32 → Int32 → Int32 → Int32 → Int32 → Int32 → Int32 → Int32 → Prop) (k50 : Int32 → Int32 → Int32 → Int32 → Int32 → Int32 → Int32 → Prop) (post : Int32 → Int32 → Prop) (f1 : Nat → Int32) (g0_thrown : Int32) (x1 : Int32) (x2 : Int32) (x3 : Int32) (x4 : Int32) (x5 : Int32) (x6 : Int32) (x7 : Int32) (s0 : Int64) (s1 : Int32) : Prop :=
  ∀ v1 : Int64, v1 = s0 + (s1.toInt64) →
  wpX11_farOfMarks (fun (r3 : Int32) (u2 : Unit) =>
   (0 < (lg_cmp (r3.toInt64) (v1 * v1)) →
    (0 ≤ x5 →
     wpX11_fits_165 k67 k50 post f1 g0_thrown x1 x2 x3 x4 x6 x7 x5) ∧
    (¬ 0 ≤ x5 →
     wpX11_fits_165 k67 k50 post f1 g0_thrown x1 x2 x3 x4 x6 x7 ((100 * x6) + x7))) ∧
   (¬ 0 < (lg_cmp (r3.toInt64) (v1 * v1)) →
    wpX11_fits_170 k67 k50 post f1 g0_thrown x1 x2 x3 x4 x5 x6 x7)) f1 x6 x7
def wpX11_fits_67 (k50 : Int32 → Int32 → Int32 → Int32 → Int32 → Int32 → Int32 → Prop) (post : Int32 → Int32 → Prop) (f1 : Nat → Int32) : Nat → Int32 → Int32 → Int32 → Int32 → Int32 → Int32 → Int32 → Int32 → Prop
  | 0, _, _, _, _, _, _, _, _ => False
  | n_67 + 1, g0_thrown, x1, x2, x3, x4, x5, x6, x7 =>
    vp_in 4 2508 ∧
    ((f1 (4 : Int32).toNatClampNeg) ≤ x7 →
     ∀ v1 : Int32, v1 = x6 + 1 →
     k50 g0_thrown x1 x2 x3 x4 x5 v1) ∧
    (¬ (f1 (4 : Int32).toNatClampNeg) ≤ x7 →
     wpX11_ofMark (fun (r3 : Int32) (u2 : Unit) =>
      wpX11_ofMark (fun (r5 : Int32) (u4 : Unit) =>
       wpX11_ofMark (fun (r7 : Int32) (u6 : Unit) =>
        wpX11_ofMark (fun (r9 : Int32) (u8 : Unit) =>
         (¬ r7 = r9 →
          wpX11_fits_122 (fun y0 y1 y2 y3 y4 y5 y6 y7 => wpX11_fits_67 k50 post f1 n_67 y0 y1 y2 y3 y4 y5 y6 y7) k50 post f1 g0_thrown x1 x2 x3 x4 x5 x6 x7 ((x2.toInt64) * ((iAbs (r3 - r5)).toInt64)) x1) ∧
         (r7 = r9 →
          wpX11_fits_122 (fun y0 y1 y2 y3 y4 y5 y6 y7 => wpX11_fits_67 k50 post f1 n_67 y0 y1 y2 y3 y4 y5 y6 y7) k50 post f1 g0_thrown x1 x2 x3 x4 x5 x6 x7 ((x2.toInt64) * ((iAbs (r3 - r5)).toInt64)) 0)) f1 x7 0) f1 x6 0) f1 x7 1) f1 x6 1)
def wpX11_fits_50 (post : Int32 → Int32 → Prop) (f1 : Nat → Int32) : Nat → Int32 → Int32 → Int32 → Int32 → Int32 → Int32 → Int32 → Prop
  | 0, _, _, _, _, _, _, _ => False
  | n_50 + 1, g0_thrown, x1, x2, x3, x4, x5, x6 =>
    vp_in 4 2508 ∧
    ((f1 (4 : Int32).toNatClampNeg) ≤ x6 →
     (x3 = 0 →
      post x4 (g0_thrown)) ∧
     (¬ x3 = 0 →
      post x5 (g0_thrown))) ∧
    (¬ (f1 (4 : Int32).toNatClampNeg) ≤ x6 →
     ∀ v1 : Int32, v1 = x6 + 1 →
     ∃ n_67 : Nat, wpX11_fits_67 (fun y0 y1 y2 y3 y4 y5 y6 => wpX11_fits_50 post f1 n_50 y0 y1 y2 y3 y4 y5 y6) post f1 n_67 g0_thrown x1 x2 x3 x4 x5 x6 v1)
def wpX11_fits_32 (post : Int32 → Int32 → Prop) (f1 : Nat → Int32) (g0_thrown : Int32) (x1 : Int32) (x2 : Int32) (x3 : Int32) (s1 : Int32) : Prop :=
  wpX11_throwsIf (fun (r2 : Int32) (u1 : Int32) =>
   (r2 = 0 →
    ∃ n_50 : Nat, wpX11_fits_50 post f1 n_50 u1 x1 x2 x3 0 (-1) 0) ∧
   (¬ r2 = 0 →
    post 0 (u1))) g0_thrown s1 1
def wpX11_fits_27 (post : Int32 → Int32 → Prop) (f1 : Nat → Int32) (g0_thrown : Int32) (x1 : Int32) (x2 : Int32) (x3 : Int32) : Prop :=
  wpX11_fits_32 post f1 g0_thrown x1 x2 x3 1
def wpX11_fits (post : Int32 → Int32 → Prop) (f1 : Nat → Int32) (g0_thrown : Int32) (p0 : Int32) (p1 : Int32) (p2 : Int32) : Prop :=
  wpX11_in (fun (r2 : Int32) (u1 : Unit) =>
   (r2 = 0 →
    wpX11_fits_27 post f1 0 p0 p1 p2) ∧
   (¬ r2 = 0 →
    wpX11_in (fun (r4 : Int32) (u3 : Unit) =>
     (¬ r4 = 0 →
      wpX11_fits_32 post f1 0 p0 p1 p2 0) ∧
     (r4 = 0 →
      wpX11_fits_27 post f1 0 p0 p1 p2)) p1 0 99)) p0 0 999
set_option maxRecDepth 100000 in
set_option maxHeartbeats 4000000 in
theorem bX11_fits_170 {p : Program} {l : Launch} {e : Env} {s : State} {m : MethodId} {args : Array Value} {below : List Frame} {meth : Method} {c : Code} {dC : Nat → ClassId} {dI : Nat → Nat → Nat} {cyI cyB cyJ cyZ : ClassId} {A : Nat → Prop} {a0 a1 b0_image b0_before b0_taken b0_tape b0_five b0_value b0_far b0_lead b0_walk b0_ends b0_manX b0_manY b0_dogX b0_dogY b0_row b0_round b0_farOne b0_leads b0_drags b0_from b0_near : Nat} {g0_hasImage : Int32} {g0_remembered : Int32} {g0_taped : Int32} {g0_point : Int32} {g0_end : Int32} {g0_begin : Int32} {g0_deep : Int32} {g0_faultAt : Int32} {g0_steps : Int32} {g0_men : Int32} {g0_dogs : Int32} (C0 : cxM p s m meth c args wsX11_fits RX11 cX11_fits 10 (some .int)) (hK : va_K (dC, dI) vwCl (tyA cyI cyB cyJ cyZ) s) (hN : nwA s) (hA : ∀ q : Nat, s.heap.size ≤ q → A q) {post : Int32 → Int32 → Prop} {f1 : Nat → Int32} {k67 : Int32 → Int32 → Int32 → Int32 → Int32 → Int32 → Int32 → Int32 → Prop} {k50 : Int32 → Int32 → Int32 → Int32 → Int32 → Int32 → Int32 → Prop} {Q : State → Prop} (hQ : Q = MQ below (va_Qi post (fun u : Int32 => wAt dC dI cyI cyB cyJ cyZ A (ceX11_fits cyI cyB cyJ cyZ a0 a1 b0_image b0_before b0_taken b0_tape b0_five b0_value b0_far b0_lead b0_walk b0_ends b0_manX b0_manY b0_dogX b0_dogY b0_row b0_round b0_farOne b0_leads b0_drags b0_from b0_near g0_hasImage g0_remembered g0_taped g0_point g0_end g0_begin g0_deep g0_faultAt g0_steps g0_men g0_dogs f1 u)) A) args s 0 0 A) (hk67 : ∀ (g0_thrown : Int32) (x1 : Int32) (x2 : Int32) (x3 : Int32) (x4 : Int32) (x5 : Int32) (x6 : Int32) (x7 : Int32), k67 g0_thrown x1 x2 x3 x4 x5 x6 x7 → AtW p l e rmX11_fits s m args below meth c dC dI A Q 10 0 0 (ceX11_fits cyI cyB cyJ cyZ a0 a1 b0_image b0_before b0_taken b0_tape b0_five b0_value b0_far b0_lead b0_walk b0_ends b0_manX b0_manY b0_dogX b0_dogY b0_row b0_round b0_farOne b0_leads b0_drags b0_from b0_near g0_hasImage g0_remembered g0_taped g0_point g0_end g0_begin g0_deep g0_faultAt g0_steps g0_men g0_dogs f1 g0_thrown) [(0, .ref a0), (1, .int x1), (2, .int x2), (3, .int x3), (4, .int x4), (5, .int x5), (6, .int x6), (7, .int x7)] 67 []) (hk50 : ∀ (g0_thrown : Int32) (x1 : Int32) (x2 : Int32) (x3 : Int32) (x4 : Int32) (x5 : Int32) (x6 : Int32), k50 g0_thrown x1 x2 x3 x4 x5 x6 → AtW p l e rmX11_fits s m args below meth c dC dI A Q 10 0 0 (ceX11_fits cyI cyB cyJ cyZ a0 a1 b0_image b0_before b0_taken b0_tape b0_five b0_value b0_far b0_lead b0_walk b0_ends b0_manX b0_manY b0_dogX b0_dogY b0_row b0_round b0_farOne b0_leads b0_drags b0_from b0_near g0_hasImage g0_remembered g0_taped g0_point g0_end g0_begin g0_deep g0_faultAt g0_steps g0_men g0_dogs f1 g0_thrown) [(0, .ref a0), (1, .int x1), (2, .int x2), (3, .int x3), (4, .int x4), (5, .int x5), (6, .int x6)] 50 []) : ∀ (g0_thrown : Int32) (x1 : Int32) (x2 : Int32) (x3 : Int32) (x4 : Int32) (x5 : Int32) (x6 : Int32) (x7 : Int32), wpX11_fits_170 k67 k50 post f1 g0_thrown x1 x2 x3 x4 x5 x6 x7 → AtW p l e rmX11_fits s m args below meth c dC dI A Q 10 0 0 (ceX11_fits cyI cyB cyJ cyZ a0 a1 b0_image b0_before b0_taken b0_tape b0_five b0_value b0_far b0_lead b0_walk b0_ends b0_manX b0_manY b0_dogX b0_dogY b0_row b0_round b0_farOne b0_leads b0_drags b0_from b0_near g0_hasImage g0_remembered g0_taped g0_point g0_end g0_begin g0_deep g0_faultAt g0_steps g0_men g0_dogs f1 g0_thrown) [(0, .ref a0), (1, .int x1), (2, .int x2), (3, .int x3), (4, .int x4), (5, .int x5), (6, .int x6), (7, .int x7)] 170 [] := by
  intro g0_thrown x1 x2 x3 x4 x5 x6 x7 hw H locs hP hD hS ls hl
  have C1 := C0
  obtain ⟨hx, hb, hr, hml, hown, hts, hlocks⟩ := C1
  obtain ⟨v1, ev1⟩ : ∃ y : Int32, y = x7 + 1 := ⟨_, rfl⟩
  have hw := hw v1 ev1
  refine lv_iinc (v := v1) (lv' := [(7, .int v1), (0, .ref a0), (1, .int x1), (2, .int x2), (3, .int x3), (4, .int x4), (5, .int x5), (6, .int x6)]) hx hb dX11_fits_170 hl (k := 7) rfl (by rw [ev1]; rfl) (by decide) rfl (fun ls hl => ?_)
  refine lv_goto (tgt := 67) hx hb dX11_fits_173 (by decide) ?_
  exact hk67 g0_thrown x1 x2 x3 x4 x5 x6 v1 hw H locs hP hD hS ls (lv_sub hl [1, 2, 3, 4, 5, 6, 7, 0] rfl)
set_option maxRecDepth 100000 in
set_option maxHeartbeats 4000000 in
theorem bX11_fits_165 {p : Program} {l : Launch} {e : Env} {s : State} {m : MethodId} {args : Array Value} {below : List Frame} {meth : Method} {c : Code} {dC : Nat → ClassId} {dI : Nat → Nat → Nat} {cyI cyB cyJ cyZ : ClassId} {A : Nat → Prop} {a0 a1 b0_image b0_before b0_taken b0_tape b0_five b0_value b0_far b0_lead b0_walk b0_ends b0_manX b0_manY b0_dogX b0_dogY b0_row b0_round b0_farOne b0_leads b0_drags b0_from b0_near : Nat} {g0_hasImage : Int32} {g0_remembered : Int32} {g0_taped : Int32} {g0_point : Int32} {g0_end : Int32} {g0_begin : Int32} {g0_deep : Int32} {g0_faultAt : Int32} {g0_steps : Int32} {g0_men : Int32} {g0_dogs : Int32} (C0 : cxM p s m meth c args wsX11_fits RX11 cX11_fits 10 (some .int)) (hK : va_K (dC, dI) vwCl (tyA cyI cyB cyJ cyZ) s) (hN : nwA s) (hA : ∀ q : Nat, s.heap.size ≤ q → A q) {post : Int32 → Int32 → Prop} {f1 : Nat → Int32} {k67 : Int32 → Int32 → Int32 → Int32 → Int32 → Int32 → Int32 → Int32 → Prop} {k50 : Int32 → Int32 → Int32 → Int32 → Int32 → Int32 → Int32 → Prop} {Q : State → Prop} (hQ : Q = MQ below (va_Qi post (fun u : Int32 => wAt dC dI cyI cyB cyJ cyZ A (ceX11_fits cyI cyB cyJ cyZ a0 a1 b0_image b0_before b0_taken b0_tape b0_five b0_value b0_far b0_lead b0_walk b0_ends b0_manX b0_manY b0_dogX b0_dogY b0_row b0_round b0_farOne b0_leads b0_drags b0_from b0_near g0_hasImage g0_remembered g0_taped g0_point g0_end g0_begin g0_deep g0_faultAt g0_steps g0_men g0_dogs f1 u)) A) args s 0 0 A) (hk67 : ∀ (g0_thrown : Int32) (x1 : Int32) (x2 : Int32) (x3 : Int32) (x4 : Int32) (x5 : Int32) (x6 : Int32) (x7 : Int32), k67 g0_thrown x1 x2 x3 x4 x5 x6 x7 → AtW p l e rmX11_fits s m args below meth c dC dI A Q 10 0 0 (ceX11_fits cyI cyB cyJ cyZ a0 a1 b0_image b0_before b0_taken b0_tape b0_five b0_value b0_far b0_lead b0_walk b0_ends b0_manX b0_manY b0_dogX b0_dogY b0_row b0_round b0_farOne b0_leads b0_drags b0_from b0_near g0_hasImage g0_remembered g0_taped g0_point g0_end g0_begin g0_deep g0_faultAt g0_steps g0_men g0_dogs f1 g0_thrown) [(0, .ref a0), (1, .int x1), (2, .int x2), (3, .int x3), (4, .int x4), (5, .int x5), (6, .int x6), (7, .int x7)] 67 []) (hk50 : ∀ (g0_thrown : Int32) (x1 : Int32) (x2 : Int32) (x3 : Int32) (x4 : Int32) (x5 : Int32) (x6 : Int32), k50 g0_thrown x1 x2 x3 x4 x5 x6 → AtW p l e rmX11_fits s m args below meth c dC dI A Q 10 0 0 (ceX11_fits cyI cyB cyJ cyZ a0 a1 b0_image b0_before b0_taken b0_tape b0_five b0_value b0_far b0_lead b0_walk b0_ends b0_manX b0_manY b0_dogX b0_dogY b0_row b0_round b0_farOne b0_leads b0_drags b0_from b0_near g0_hasImage g0_remembered g0_taped g0_point g0_end g0_begin g0_deep g0_faultAt g0_steps g0_men g0_dogs f1 g0_thrown) [(0, .ref a0), (1, .int x1), (2, .int x2), (3, .int x3), (4, .int x4), (5, .int x5), (6, .int x6)] 50 []) : ∀ (g0_thrown : Int32) (x1 : Int32) (x2 : Int32) (x3 : Int32) (x4 : Int32) (x6 : Int32) (x7 : Int32) (s0 : Int32), wpX11_fits_165 k67 k50 post f1 g0_thrown x1 x2 x3 x4 x6 x7 s0 → AtW p l e rmX11_fits s m args below meth c dC dI A Q 10 0 0 (ceX11_fits cyI cyB cyJ cyZ a0 a1 b0_image b0_before b0_taken b0_tape b0_five b0_value b0_far b0_lead b0_walk b0_ends b0_manX b0_manY b0_dogX b0_dogY b0_row b0_round b0_farOne b0_leads b0_drags b0_from b0_near g0_hasImage g0_remembered g0_taped g0_point g0_end g0_begin g0_deep g0_faultAt g0_steps g0_men g0_dogs f1 g0_thrown) [(0, .ref a0), (1, .int x1), (2, .int x2), (3, .int x3), (4, .int x4), (6, .int x6), (7, .int x7)] 165 [.int s0] := by
  intro g0_thrown x1 x2 x3 x4 x6 x7 s0 hw H locs hP hD hS ls hl
  have C1 := C0
  obtain ⟨hx, hb, hr, hml, hown, hts, hlocks⟩ := C1
  refine lv_istore (lv' := [(5, .int s0), (0, .ref a0), (1, .int x1), (2, .int x2), (3, .int x3), (4, .int x4), (6, .int x6), (7, .int x7)]) hx hb dX11_fits_165 hl (by decide) rfl (fun ls hl => ?_)
  obtain ⟨v1, ev1⟩ : ∃ y : Int32, y = x4 + 1 := ⟨_, rfl⟩
  have hw := hw v1 ev1
  refine lv_iinc (v := v1) (lv' := [(4, .int v1), (5, .int s0), (0, .ref a0), (1, .int x1), (2, .int x2), (3, .int x3), (6, .int x6), (7, .int x7)]) hx hb dX11_fits_167 hl (k := 5) rfl (by rw [ev1]; rfl) (by decide) rfl (fun ls hl => ?_)
  exact bX11_fits_170 C0 hK hN hA hQ hk67 hk50 g0_thrown x1 x2 x3 v1 s0 x6 x7 hw _ _ hP hD hS ls (lv_sub hl [2, 3, 4, 5, 0, 1, 6, 7] rfl)
set_option maxRecDepth 100000 in
set_option maxHeartbeats 4000000 in
theorem bX11_fits_122 {p : Program} {l : Launch} {e : Env} {s : State} {m : MethodId} {args : Array Value} {below : List Frame} {meth : Method} {c : Code} {dC : Nat → ClassId} {dI : Nat → Nat → Nat} {cyI cyB cyJ cyZ : ClassId} {A : Nat → Prop} {a0 a1 b0_image b0_before b0_taken b0_tape b0_five b0_value b0_far b0_lead b0_walk b0_ends b0_manX b0_manY b0_dogX b0_dogY b0_row b0_round b0_farOne b0_leads b0_drags b0_from b0_near : Nat} {g0_hasImage : Int32} {g0_remembered : Int32} {g0_taped : Int32} {g0_point : Int32} {g0_end : Int32} {g0_begin : Int32} {g0_deep : Int32} {g0_faultAt : Int32} {g0_steps : Int32} {g0_men : Int32} {g0_dogs : Int32} (C0 : cxM p s m meth c args wsX11_fits RX11 cX11_fits 10 (some .int)) (hK : va_K (dC, dI) vwCl (tyA cyI cyB cyJ cyZ) s) (hN : nwA s) (hA : ∀ q : Nat, s.heap.size ≤ q → A q) {post : Int32 → Int32 → Prop} {f1 : Nat → Int32} {k67 : Int32 → Int32 → Int32 → Int32 → Int32 → Int32 → Int32 → Int32 → Prop} {k50 : Int32 → Int32 → Int32 → Int32 → Int32 → Int32 → Int32 → Prop} {Q : State → Prop} (hQ : Q = MQ below (va_Qi post (fun u : Int32 => wAt dC dI cyI cyB cyJ cyZ A (ceX11_fits cyI cyB cyJ cyZ a0 a1 b0_image b0_before b0_taken b0_tape b0_five b0_value b0_far b0_lead b0_walk b0_ends b0_manX b0_manY b0_dogX b0_dogY b0_row b0_round b0_farOne b0_leads b0_drags b0_from b0_near g0_hasImage g0_remembered g0_taped g0_point g0_end g0_begin g0_deep g0_faultAt g0_steps g0_men g0_dogs f1 u)) A) args s 0 0 A) (hk67 : ∀ (g0_thrown : Int32) (x1 : Int32) (x2 : Int32) (x3 : Int32) (x4 : Int32) (x5 : Int32) (x6 : Int32) (x7 : Int32), k67 g0_thrown x1 x2 x3 x4 x5 x6 x7 → AtW p l e rmX11_fits s m args below meth c dC dI A Q 10 0 0 (ceX11_fits cyI cyB cyJ cyZ a0 a1 b0_image b0_before b0_taken b0_tape b0_five b0_value b0_far b0_lead b0_walk b0_ends b0_manX b0_manY b0_dogX b0_dogY b0_row b0_round b0_farOne b0_leads b0_drags b0_from b0_near g0_hasImage g0_remembered g0_taped g0_point g0_end g0_begin g0_deep g0_faultAt g0_steps g0_men g0_dogs f1 g0_thrown) [(0, .ref a0), (1, .int x1), (2, .int x2), (3, .int x3), (4, .int x4), (5, .int x5), (6, .int x6), (7, .int x7)] 67 []) (hk50 : ∀ (g0_thrown : Int32) (x1 : Int32) (x2 : Int32) (x3 : Int32) (x4 : Int32) (x5 : Int32) (x6 : Int32), k50 g0_thrown x1 x2 x3 x4 x5 x6 → AtW p l e rmX11_fits s m args below meth c dC dI A Q 10 0 0 (ceX11_fits cyI cyB cyJ cyZ a0 a1 b0_image b0_before b0_taken b0_tape b0_five b0_value b0_far b0_lead b0_walk b0_ends b0_manX b0_manY b0_dogX b0_dogY b0_row b0_round b0_farOne b0_leads b0_drags b0_from b0_near g0_hasImage g0_remembered g0_taped g0_point g0_end g0_begin g0_deep g0_faultAt g0_steps g0_men g0_dogs f1 g0_thrown) [(0, .ref a0), (1, .int x1), (2, .int x2), (3, .int x3), (4, .int x4), (5, .int x5), (6, .int x6)] 50 []) : ∀ (g0_thrown : Int32) (x1 : Int32) (x2 : Int32) (x3 : Int32) (x4 : Int32) (x5 : Int32) (x6 : Int32) (x7 : Int32) (s0 : Int64) (s1 : Int32), wpX11_fits_122 k67 k50 post f1 g0_thrown x1 x2 x3 x4 x5 x6 x7 s0 s1 → AtW p l e rmX11_fits s m args below meth c dC dI A Q 10 0 0 (ceX11_fits cyI cyB cyJ cyZ a0 a1 b0_image b0_before b0_taken b0_tape b0_five b0_value b0_far b0_lead b0_walk b0_ends b0_manX b0_manY b0_dogX b0_dogY b0_row b0_round b0_farOne b0_leads b0_drags b0_from b0_near g0_hasImage g0_remembered g0_taped g0_point g0_end g0_begin g0_deep g0_faultAt g0_steps g0_men g0_dogs f1 g0_thrown) [(0, .ref a0), (1, .int x1), (2, .int x2), (3, .int x3), (4, .int x4), (5, .int x5), (6, .int x6), (7, .int x7)] 122 [.int s1, .long s0] := by
  intro g0_thrown x1 x2 x3 x4 x5 x6 x7 s0 s1 hw H locs hP hD hS ls hl
  have C1 := C0
  obtain ⟨hx, hb, hr, hml, hown, hts, hlocks⟩ := C1
  refine lv_i2l hx hb dX11_fits_122 rfl ?_
  refine lv_ladd hx hb dX11_fits_123 ?_
  refine lv_topl (fun v1 ev1 => ?_)
  have hw := hw v1 ev1
  refine lv_lstore (lv' := [(8, .long v1), (0, .ref a0), (1, .int x1), (2, .int x2), (3, .int x3), (4, .int x4), (5, .int x5), (6, .int x6), (7, .int x7)]) hx hb dX11_fits_124 hl (by decide) rfl (fun ls hl => ?_)
  refine lv_aload_n hx hb dX11_fits_126 rfl (lv_at hl 1 rfl) ?_
  refine lv_iload hx hb dX11_fits_127 (lv_at hl 7 rfl) ?_
  refine lv_iload hx hb dX11_fits_129 (lv_at hl 8 rfl) ?_
  have hPc := hP.sub (ws' := (ceX11_farOfMarks cyI cyB cyJ cyZ a0 a1 b0_image b0_before b0_taken b0_tape b0_five b0_value b0_far b0_lead b0_walk b0_ends b0_manX b0_manY b0_dogX b0_dogY b0_row b0_round b0_farOne b0_leads b0_drags b0_from b0_near g0_thrown g0_hasImage g0_remembered g0_taped g0_point g0_end g0_begin g0_deep g0_faultAt g0_steps g0_men g0_dogs f1)) [0, 1] rfl
  have hDc := hD.sub (ws' := (ceX11_farOfMarks cyI cyB cyJ cyZ a0 a1 b0_image b0_before b0_taken b0_tape b0_five b0_value b0_far b0_lead b0_walk b0_ends b0_manX b0_manY b0_dogX b0_dogY b0_row b0_round b0_farOne b0_leads b0_drags b0_from b0_near g0_thrown g0_hasImage g0_remembered g0_taped g0_point g0_end g0_begin g0_deep g0_faultAt g0_steps g0_men g0_dogs f1)) [0, 1] (by decide) rfl
  have hFc := va_free (wc := (ceX11_farOfMarks cyI cyB cyJ cyZ a0 a1 b0_image b0_before b0_taken b0_tape b0_five b0_value b0_far b0_lead b0_walk b0_ends b0_manX b0_manY b0_dogX b0_dogY b0_row b0_round b0_farOne b0_leads b0_drags b0_from b0_near g0_thrown g0_hasImage g0_remembered g0_taped g0_point g0_end g0_begin g0_deep g0_faultAt g0_steps g0_men g0_dogs f1)) hD hS hA [0, 1] rfl
  refine va_calli (va_runV (As := [.int x6, .int x7]) (rest := []) ⟨hx, hb, hml, hown, hts⟩ (ctX11_farOfMarks l dC dI cyI cyB cyJ cyZ _ a0 a1 b0_image b0_before b0_taken b0_tape b0_five b0_value b0_far b0_lead b0_walk b0_ends b0_manX b0_manY b0_dogX b0_dogY b0_row b0_round b0_farOne b0_leads b0_drags b0_from b0_near g0_thrown g0_hasImage g0_remembered g0_taped g0_point g0_end g0_begin g0_deep g0_faultAt g0_steps g0_men g0_dogs f1 x6 x7 _ hw) (cwV 2 hts gX11_fits_X11_farOfMarks rfl rfl rfl (by decide +kernel) ⟨Nat.le_of_ble_eq_true rfl, Nat.le_of_ble_eq_true rfl⟩) ⟨wPre_blind, va_recv hK hPc (ci := 11) (q0 := 0) rfl rfl, fun U hU hW => wPre_of hPc hK hDc hN hU hW⟩ rfl rfl hl.1 rfl (lv_room (Nat.le_of_ble_eq_true rfl)) dX11_fits_131 ⟨(Nat.zero_le _), (Nat.zero_le _)⟩) hS (fun q _ h => hFc q h) hFc (fun r3 u2 t H1 locs ht hvm hw hB hz1 hk1 hS => ?_)
  obtain ⟨hP1, hK1, hD1⟩ := hB
  rw [ht] at hP1
  obtain ⟨hP, hD⟩ := va_join (wr := pickW (ceX11_fits cyI cyB cyJ cyZ a0 a1 b0_image b0_before b0_taken b0_tape b0_five b0_value b0_far b0_lead b0_walk b0_ends b0_manX b0_manY b0_dogX b0_dogY b0_row b0_round b0_farOne b0_leads b0_drags b0_from b0_near g0_hasImage g0_remembered g0_taped g0_point g0_end g0_begin g0_deep g0_faultAt g0_steps g0_men g0_dogs f1 g0_thrown) []) (w1 := (ceX11_farOfMarks cyI cyB cyJ cyZ a0 a1 b0_image b0_before b0_taken b0_tape b0_five b0_value b0_far b0_lead b0_walk b0_ends b0_manX b0_manY b0_dogX b0_dogY b0_row b0_round b0_farOne b0_leads b0_drags b0_from b0_near g0_thrown g0_hasImage g0_remembered g0_taped g0_point g0_end g0_begin g0_deep g0_faultAt g0_steps g0_men g0_dogs f1)) hP hD [0, 1] [] rfl rfl (by decide) (by decide) hk1 hFc hP1 hD1
  have hP := hP.sub (ws' := (ceX11_fits cyI cyB cyJ cyZ a0 a1 b0_image b0_before b0_taken b0_tape b0_five b0_value b0_far b0_lead b0_walk b0_ends b0_manX b0_manY b0_dogX b0_dogY b0_row b0_round b0_farOne b0_leads b0_drags b0_from b0_near g0_hasImage g0_remembered g0_taped g0_point g0_end g0_begin g0_deep g0_faultAt g0_steps g0_men g0_dogs f1 g0_thrown)) [0, 1] rfl
  have hD := hD.sub (ws' := (ceX11_fits cyI cyB cyJ cyZ a0 a1 b0_image b0_before b0_taken b0_tape b0_five b0_value b0_far b0_lead b0_walk b0_ends b0_manX b0_manY b0_dogX b0_dogY b0_row b0_round b0_farOne b0_leads b0_drags b0_from b0_near g0_hasImage g0_remembered g0_taped g0_point g0_end g0_begin g0_deep g0_faultAt g0_steps g0_men g0_dogs f1 g0_thrown)) [0, 1] (by decide) rfl
  generalize H1 = H at hP hS ⊢
  refine lv_i2l hx hb dX11_fits_134 rfl ?_
  refine lv_lload hx hb dX11_fits_135 (lv_at hl 0 rfl) ?_
  refine lv_lload hx hb dX11_fits_137 (lv_at hl 0 rfl) ?_
  refine lv_lmul hx hb dX11_fits_139 ?_
  refine W.lcmp hx hb dX11_fits_140 ?_
  refine lv_if_gt (tgt := 147) hx hb dX11_fits_141 (by decide) (fun hc => ?_) (fun hc => ?_)
  · have hw := hw.1 hc
    refine lv_iload hx hb dX11_fits_147 (lv_at hl 6 rfl) ?_
    refine lv_if_ge (tgt := 163) hx hb dX11_fits_149 (by decide) (fun hc => ?_) (fun hc => ?_)
    · have hw := hw.1 hc
      refine lv_iload hx hb dX11_fits_163 (lv_at hl 6 rfl) ?_
      exact bX11_fits_165 C0 hK hN hA hQ hk67 hk50 g0_thrown x1 x2 x3 x4 x6 x7 x5 hw _ _ hP hD hS ls (lv_sub hl [1, 2, 3, 4, 5, 7, 8] rfl)
    · have hw := hw.2 hc
      refine lv_bipush (v := 100) hx hb dX11_fits_152 (by decide) ?_
      refine lv_iload hx hb dX11_fits_154 (lv_at hl 7 rfl) ?_
      refine lv_imul hx hb dX11_fits_156 ?_
      refine lv_iload hx hb dX11_fits_157 (lv_at hl 8 rfl) ?_
      refine lv_iadd hx hb dX11_fits_159 ?_
      refine lv_goto (tgt := 165) hx hb dX11_fits_160 (by decide) ?_
      exact bX11_fits_165 C0 hK hN hA hQ hk67 hk50 g0_thrown x1 x2 x3 x4 x6 x7 ((100 * x6) + x7) hw _ _ hP hD hS ls (lv_sub hl [1, 2, 3, 4, 5, 7, 8] rfl)
  · have hw := hw.2 hc
    refine lv_goto (tgt := 170) hx hb dX11_fits_144 (by decide) ?_
    exact bX11_fits_170 C0 hK hN hA hQ hk67 hk50 g0_thrown x1 x2 x3 x4 x5 x6 x7 hw _ _ hP hD hS ls (lv_sub hl [1, 2, 3, 4, 5, 6, 7, 8] rfl)
set_option maxRecDepth 100000 in
set_option maxHeartbeats 4000000 in
theorem bX11_fits_67 {p : Program} {l : Launch} {e : Env} {s : State} {m : MethodId} {args : Array Value} {below : List Frame} {meth : Method} {c : Code} {dC : Nat → ClassId} {dI : Nat → Nat → Nat} {cyI cyB cyJ cyZ : ClassId} {A : Nat → Prop} {a0 a1 b0_image b0_before b0_taken b0_tape b0_five b0_value b0_far b0_lead b0_walk b0_ends b0_manX b0_manY b0_dogX b0_dogY b0_row b0_round b0_farOne b0_leads b0_drags b0_from b0_near : Nat} {g0_hasImage : Int32} {g0_remembered : Int32} {g0_taped : Int32} {g0_point : Int32} {g0_end : Int32} {g0_begin : Int32} {g0_deep : Int32} {g0_faultAt : Int32} {g0_steps : Int32} {g0_men : Int32} {g0_dogs : Int32} (C0 : cxM p s m meth c args wsX11_fits RX11 cX11_fits 10 (some .int)) (hK : va_K (dC, dI) vwCl (tyA cyI cyB cyJ cyZ) s) (hN : nwA s) (hA : ∀ q : Nat, s.heap.size ≤ q → A q) {post : Int32 → Int32 → Prop} {f1 : Nat → Int32} {k50 : Int32 → Int32 → Int32 → Int32 → Int32 → Int32 → Int32 → Prop} {Q : State → Prop} (hQ : Q = MQ below (va_Qi post (fun u : Int32 => wAt dC dI cyI cyB cyJ cyZ A (ceX11_fits cyI cyB cyJ cyZ a0 a1 b0_image b0_before b0_taken b0_tape b0_five b0_value b0_far b0_lead b0_walk b0_ends b0_manX b0_manY b0_dogX b0_dogY b0_row b0_round b0_farOne b0_leads b0_drags b0_from b0_near g0_hasImage g0_remembered g0_taped g0_point g0_end g0_begin g0_deep g0_faultAt g0_steps g0_men g0_dogs f1 u)) A) args s 0 0 A) (hk50 : ∀ (g0_thrown : Int32) (x1 : Int32) (x2 : Int32) (x3 : Int32) (x4 : Int32) (x5 : Int32) (x6 : Int32), k50 g0_thrown x1 x2 x3 x4 x5 x6 → AtW p l e rmX11_fits s m args below meth c dC dI A Q 10 0 0 (ceX11_fits cyI cyB cyJ cyZ a0 a1 b0_image b0_before b0_taken b0_tape b0_five b0_value b0_far b0_lead b0_walk b0_ends b0_manX b0_manY b0_dogX b0_dogY b0_row b0_round b0_farOne b0_leads b0_drags b0_from b0_near g0_hasImage g0_remembered g0_taped g0_point g0_end g0_begin g0_deep g0_faultAt g0_steps g0_men g0_dogs f1 g0_thrown) [(0, .ref a0), (1, .int x1), (2, .int x2), (3, .int x3), (4, .int x4), (5, .int x5), (6, .int x6)] 50 []) : ∀ (n : Nat) (g0_thrown : Int32) (x1 : Int32) (x2 : Int32) (x3 : Int32) (x4 : Int32) (x5 : Int32) (x6 : Int32) (x7 : Int32), wpX11_fits_67 k50 post f1 n g0_thrown x1 x2 x3 x4 x5 x6 x7 → AtW p l e rmX11_fits s m args below meth c dC dI A Q 10 0 0 (ceX11_fits cyI cyB cyJ cyZ a0 a1 b0_image b0_before b0_taken b0_tape b0_five b0_value b0_far b0_lead b0_walk b0_ends b0_manX b0_manY b0_dogX b0_dogY b0_row b0_round b0_farOne b0_leads b0_drags b0_from b0_near g0_hasImage g0_remembered g0_taped g0_point g0_end g0_begin g0_deep g0_faultAt g0_steps g0_men g0_dogs f1 g0_thrown) [(0, .ref a0), (1, .int x1), (2, .int x2), (3, .int x3), (4, .int x4), (5, .int x5), (6, .int x6), (7, .int x7)] 67 [] := by
  intro n
  induction n with
  | zero => intro g0_thrown x1 x2 x3 x4 x5 x6 x7 hw; exact False.elim hw
  | succ n ih =>
    intro g0_thrown x1 x2 x3 x4 x5 x6 x7 hw H locs hP hD hS ls hl
    have C1 := C0
    obtain ⟨hx, hb, hr, hml, hown, hts, hlocks⟩ := C1
    refine lv_iload hx hb dX11_fits_67 (lv_at hl 7 rfl) ?_
    refine lv_aload_n hx hb dX11_fits_69 rfl (lv_at hl 0 rfl) ?_
    refine va_get (D := (dC, dI)) (ci := 11) (v := .ref a1) (C := RX11) (T := TX11) (N := 34) hx hb hts inX11_fits_X11 hown hK hP 0 rfl rfl 1 (by decide) (hts (.fieldLink RX11 13 "LeadParkModel" "world" "[I") (List.mem_of_getElem? (i := 2) rfl)) (fun _ h9 => h9) rfl dX11_fits_70 ?_
    refine lv_iconst (v := 4) hx hb dX11_fits_73 (by decide) ?_
    obtain ⟨hi, hw⟩ := hw
    refine va_iald hx hb hK hP 1 0 rfl rfl hi dX11_fits_74 ?_
    refine lv_icmp_ge (tgt := 176) hx hb dX11_fits_75 (by decide) (fun hc => ?_) (fun hc => ?_)
    · have hw := hw.1 hc
      obtain ⟨v1, ev1⟩ : ∃ y : Int32, y = x6 + 1 := ⟨_, rfl⟩
      have hw := hw v1 ev1
      refine lv_iinc (v := v1) (lv' := [(6, .int v1), (0, .ref a0), (1, .int x1), (2, .int x2), (3, .int x3), (4, .int x4), (5, .int x5), (7, .int x7)]) hx hb dX11_fits_176 hl (k := 6) rfl (by rw [ev1]; rfl) (by decide) rfl (fun ls hl => ?_)
      refine lv_goto (tgt := 50) hx hb dX11_fits_179 (by decide) ?_
      exact hk50 g0_thrown x1 x2 x3 x4 x5 v1 hw H locs hP hD hS ls (lv_sub hl [1, 2, 3, 4, 5, 6, 0] rfl)
    · have hw := hw.2 hc
      refine lv_iload_n hx hb dX11_fits_78 rfl (lv_at hl 2 rfl) ?_
      refine lv_i2l hx hb dX11_fits_79 rfl ?_
      refine lv_aload_n hx hb dX11_fits_80 rfl (lv_at hl 0 rfl) ?_
      refine lv_iload hx hb dX11_fits_81 (lv_at hl 6 rfl) ?_
      refine lv_iconst (v := 1) hx hb dX11_fits_83 (by decide) ?_
      have hPc := hP.sub (ws' := (ceX11_ofMark cyI cyB cyJ cyZ a0 a1 b0_image b0_before b0_taken b0_tape b0_five b0_value b0_far b0_lead b0_walk b0_ends b0_manX b0_manY b0_dogX b0_dogY b0_row b0_round b0_farOne b0_leads b0_drags b0_from b0_near g0_thrown g0_hasImage g0_remembered g0_taped g0_point g0_end g0_begin g0_deep g0_faultAt g0_steps g0_men g0_dogs f1)) [0, 1] rfl
      have hDc := hD.sub (ws' := (ceX11_ofMark cyI cyB cyJ cyZ a0 a1 b0_image b0_before b0_taken b0_tape b0_five b0_value b0_far b0_lead b0_walk b0_ends b0_manX b0_manY b0_dogX b0_dogY b0_row b0_round b0_farOne b0_leads b0_drags b0_from b0_near g0_thrown g0_hasImage g0_remembered g0_taped g0_point g0_end g0_begin g0_deep g0_faultAt g0_steps g0_men g0_dogs f1)) [0, 1] (by decide) rfl
      have hFc := va_free (wc := (ceX11_ofMark cyI cyB cyJ cyZ a0 a1 b0_image b0_before b0_taken b0_tape b0_five b0_value b0_far b0_lead b0_walk b0_ends b0_manX b0_manY b0_dogX b0_dogY b0_row b0_round b0_farOne b0_leads b0_drags b0_from b0_near g0_thrown g0_hasImage g0_remembered g0_taped g0_point g0_end g0_begin g0_deep g0_faultAt g0_steps g0_men g0_dogs f1)) hD hS hA [0, 1] rfl
      refine va_calli (va_runV (As := [.int x6, .int 1]) (rest := [.long (x2.toInt64)]) ⟨hx, hb, hml, hown, hts⟩ (ctX11_ofMark l dC dI cyI cyB cyJ cyZ _ a0 a1 b0_image b0_before b0_taken b0_tape b0_five b0_value b0_far b0_lead b0_walk b0_ends b0_manX b0_manY b0_dogX b0_dogY b0_row b0_round b0_farOne b0_leads b0_drags b0_from b0_near g0_thrown g0_hasImage g0_remembered g0_taped g0_point g0_end g0_begin g0_deep g0_faultAt g0_steps g0_men g0_dogs f1 x6 1 _ hw) (cwV 2 hts gX11_fits_X11_ofMark rfl rfl rfl (by decide +kernel) ⟨Nat.le_of_ble_eq_true rfl, Nat.le_of_ble_eq_true rfl⟩) ⟨wPre_blind, va_recv hK hPc (ci := 11) (q0 := 0) rfl rfl, fun U hU hW => wPre_of hPc hK hDc hN hU hW⟩ rfl rfl hl.1 rfl (lv_room (Nat.le_of_ble_eq_true rfl)) dX11_fits_84 ⟨(Nat.zero_le _), (Nat.zero_le _)⟩) hS (fun q _ h => hFc q h) hFc (fun r3 u2 t H1 locs ht hvm hw hB hz1 hk1 hS => ?_)
      obtain ⟨hP1, hK1, hD1⟩ := hB
      rw [ht] at hP1
      obtain ⟨hP, hD⟩ := va_join (wr := pickW (ceX11_fits cyI cyB cyJ cyZ a0 a1 b0_image b0_before b0_taken b0_tape b0_five b0_value b0_far b0_lead b0_walk b0_ends b0_manX b0_manY b0_dogX b0_dogY b0_row b0_round b0_farOne b0_leads b0_drags b0_from b0_near g0_hasImage g0_remembered g0_taped g0_point g0_end g0_begin g0_deep g0_faultAt g0_steps g0_men g0_dogs f1 g0_thrown) []) (w1 := (ceX11_ofMark cyI cyB cyJ cyZ a0 a1 b0_image b0_before b0_taken b0_tape b0_five b0_value b0_far b0_lead b0_walk b0_ends b0_manX b0_manY b0_dogX b0_dogY b0_row b0_round b0_farOne b0_leads b0_drags b0_from b0_near g0_thrown g0_hasImage g0_remembered g0_taped g0_point g0_end g0_begin g0_deep g0_faultAt g0_steps g0_men g0_dogs f1)) hP hD [0, 1] [] rfl rfl (by decide) (by decide) hk1 hFc hP1 hD1
      have hP := hP.sub (ws' := (ceX11_fits cyI cyB cyJ cyZ a0 a1 b0_image b0_before b0_taken b0_tape b0_five b0_value b0_far b0_lead b0_walk b0_ends b0_manX b0_manY b0_dogX b0_dogY b0_row b0_round b0_farOne b0_leads b0_drags b0_from b0_near g0_hasImage g0_remembered g0_taped g0_point g0_end g0_begin g0_deep g0_faultAt g0_steps g0_men g0_dogs f1 g0_thrown)) [0, 1] rfl
      have hD := hD.sub (ws' := (ceX11_fits cyI cyB cyJ cyZ a0 a1 b0_image b0_before b0_taken b0_tape b0_five b0_value b0_far b0_lead b0_walk b0_ends b0_manX b0_manY b0_dogX b0_dogY b0_row b0_round b0_farOne b0_leads b0_drags b0_from b0_near g0_hasImage g0_remembered g0_taped g0_point g0_end g0_begin g0_deep g0_faultAt g0_steps g0_men g0_dogs f1 g0_thrown)) [0, 1] (by decide) rfl
      generalize H1 = H at hP hS ⊢
      refine lv_aload_n hx hb dX11_fits_87 rfl (lv_at hl 0 rfl) ?_
      refine lv_iload hx hb dX11_fits_88 (lv_at hl 7 rfl) ?_
      refine lv_iconst (v := 1) hx hb dX11_fits_90 (by decide) ?_
      have hPc := hP.sub (ws' := (ceX11_ofMark cyI cyB cyJ cyZ a0 a1 b0_image b0_before b0_taken b0_tape b0_five b0_value b0_far b0_lead b0_walk b0_ends b0_manX b0_manY b0_dogX b0_dogY b0_row b0_round b0_farOne b0_leads b0_drags b0_from b0_near g0_thrown g0_hasImage g0_remembered g0_taped g0_point g0_end g0_begin g0_deep g0_faultAt g0_steps g0_men g0_dogs f1)) [0, 1] rfl
      have hDc := hD.sub (ws' := (ceX11_ofMark cyI cyB cyJ cyZ a0 a1 b0_image b0_before b0_taken b0_tape b0_five b0_value b0_far b0_lead b0_walk b0_ends b0_manX b0_manY b0_dogX b0_dogY b0_row b0_round b0_farOne b0_leads b0_drags b0_from b0_near g0_thrown g0_hasImage g0_remembered g0_taped g0_point g0_end g0_begin g0_deep g0_faultAt g0_steps g0_men g0_dogs f1)) [0, 1] (by decide) rfl
      have hFc := va_free (wc := (ceX11_ofMark cyI cyB cyJ cyZ a0 a1 b0_image b0_before b0_taken b0_tape b0_five b0_value b0_far b0_lead b0_walk b0_ends b0_manX b0_manY b0_dogX b0_dogY b0_row b0_round b0_farOne b0_leads b0_drags b0_from b0_near g0_thrown g0_hasImage g0_remembered g0_taped g0_point g0_end g0_begin g0_deep g0_faultAt g0_steps g0_men g0_dogs f1)) hD hS hA [0, 1] rfl
      refine va_calli (va_runV (As := [.int x7, .int 1]) (rest := [.int r3, .long (x2.toInt64)]) ⟨hx, hb, hml, hown, hts⟩ (ctX11_ofMark l dC dI cyI cyB cyJ cyZ _ a0 a1 b0_image b0_before b0_taken b0_tape b0_five b0_value b0_far b0_lead b0_walk b0_ends b0_manX b0_manY b0_dogX b0_dogY b0_row b0_round b0_farOne b0_leads b0_drags b0_from b0_near g0_thrown g0_hasImage g0_remembered g0_taped g0_point g0_end g0_begin g0_deep g0_faultAt g0_steps g0_men g0_dogs f1 x7 1 _ hw) (cwV 2 hts gX11_fits_X11_ofMark rfl rfl rfl (by decide +kernel) ⟨Nat.le_of_ble_eq_true rfl, Nat.le_of_ble_eq_true rfl⟩) ⟨wPre_blind, va_recv hK hPc (ci := 11) (q0 := 0) rfl rfl, fun U hU hW => wPre_of hPc hK hDc hN hU hW⟩ rfl rfl hl.1 rfl (lv_room (Nat.le_of_ble_eq_true rfl)) dX11_fits_91 ⟨(Nat.zero_le _), (Nat.zero_le _)⟩) hS (fun q _ h => hFc q h) hFc (fun r5 u4 t H1 locs ht hvm hw hB hz1 hk1 hS => ?_)
      obtain ⟨hP1, hK1, hD1⟩ := hB
      rw [ht] at hP1
      obtain ⟨hP, hD⟩ := va_join (wr := pickW (ceX11_fits cyI cyB cyJ cyZ a0 a1 b0_image b0_before b0_taken b0_tape b0_five b0_value b0_far b0_lead b0_walk b0_ends b0_manX b0_manY b0_dogX b0_dogY b0_row b0_round b0_farOne b0_leads b0_drags b0_from b0_near g0_hasImage g0_remembered g0_taped g0_point g0_end g0_begin g0_deep g0_faultAt g0_steps g0_men g0_dogs f1 g0_thrown) []) (w1 := (ceX11_ofMark cyI cyB cyJ cyZ a0 a1 b0_image b0_before b0_taken b0_tape b0_five b0_value b0_far b0_lead b0_walk b0_ends b0_manX b0_manY b0_dogX b0_dogY b0_row b0_round b0_farOne b0_leads b0_drags b0_from b0_near g0_thrown g0_hasImage g0_remembered g0_taped g0_point g0_end g0_begin g0_deep g0_faultAt g0_steps g0_men g0_dogs f1)) hP hD [0, 1] [] rfl rfl (by decide) (by decide) hk1 hFc hP1 hD1
      have hP := hP.sub (ws' := (ceX11_fits cyI cyB cyJ cyZ a0 a1 b0_image b0_before b0_taken b0_tape b0_five b0_value b0_far b0_lead b0_walk b0_ends b0_manX b0_manY b0_dogX b0_dogY b0_row b0_round b0_farOne b0_leads b0_drags b0_from b0_near g0_hasImage g0_remembered g0_taped g0_point g0_end g0_begin g0_deep g0_faultAt g0_steps g0_men g0_dogs f1 g0_thrown)) [0, 1] rfl
      have hD := hD.sub (ws' := (ceX11_fits cyI cyB cyJ cyZ a0 a1 b0_image b0_before b0_taken b0_tape b0_five b0_value b0_far b0_lead b0_walk b0_ends b0_manX b0_manY b0_dogX b0_dogY b0_row b0_round b0_farOne b0_leads b0_drags b0_from b0_near g0_hasImage g0_remembered g0_taped g0_point g0_end g0_begin g0_deep g0_faultAt g0_steps g0_men g0_dogs f1 g0_thrown)) [0, 1] (by decide) rfl
      generalize H1 = H at hP hS ⊢
      refine lv_isub hx hb dX11_fits_94 ?_
      refine va_mabs hx hb (hml.trans hl.1.symm) hown (hts (.methodLink RX11 389 Lib.Math.abs.name) (List.mem_of_getElem? (i := 3) rfl)) (hts (.static Lib.Math.abs.name) (List.mem_of_getElem? (i := 4) rfl)) (hts (.initialized "java/lang/Math") (List.mem_of_getElem? (i := 5) rfl)) (hts (.code Lib.Math.abs.name Lib.Math.abs.code 1 (some .int)) (List.mem_of_getElem? (i := 6) rfl)) (Nat.le_of_ble_eq_true rfl) (Nat.le_of_ble_eq_true rfl) (by decide) (by decide) dX11_fits_95 ?_
      refine lv_i2l hx hb dX11_fits_98 rfl ?_
      refine lv_lmul hx hb dX11_fits_99 ?_
      refine lv_aload_n hx hb dX11_fits_100 rfl (lv_at hl 0 rfl) ?_
      refine lv_iload hx hb dX11_fits_101 (lv_at hl 6 rfl) ?_
      refine lv_iconst (v := 0) hx hb dX11_fits_103 (by decide) ?_
      have hPc := hP.sub (ws' := (ceX11_ofMark cyI cyB cyJ cyZ a0 a1 b0_image b0_before b0_taken b0_tape b0_five b0_value b0_far b0_lead b0_walk b0_ends b0_manX b0_manY b0_dogX b0_dogY b0_row b0_round b0_farOne b0_leads b0_drags b0_from b0_near g0_thrown g0_hasImage g0_remembered g0_taped g0_point g0_end g0_begin g0_deep g0_faultAt g0_steps g0_men g0_dogs f1)) [0, 1] rfl
      have hDc := hD.sub (ws' := (ceX11_ofMark cyI cyB cyJ cyZ a0 a1 b0_image b0_before b0_taken b0_tape b0_five b0_value b0_far b0_lead b0_walk b0_ends b0_manX b0_manY b0_dogX b0_dogY b0_row b0_round b0_farOne b0_leads b0_drags b0_from b0_near g0_thrown g0_hasImage g0_remembered g0_taped g0_point g0_end g0_begin g0_deep g0_faultAt g0_steps g0_men g0_dogs f1)) [0, 1] (by decide) rfl
      have hFc := va_free (wc := (ceX11_ofMark cyI cyB cyJ cyZ a0 a1 b0_image b0_before b0_taken b0_tape b0_five b0_value b0_far b0_lead b0_walk b0_ends b0_manX b0_manY b0_dogX b0_dogY b0_row b0_round b0_farOne b0_leads b0_drags b0_from b0_near g0_thrown g0_hasImage g0_remembered g0_taped g0_point g0_end g0_begin g0_deep g0_faultAt g0_steps g0_men g0_dogs f1)) hD hS hA [0, 1] rfl
      refine va_calli (va_runV (As := [.int x6, .int 0]) (rest := [.long ((x2.toInt64) * ((iAbs (r3 - r5)).toInt64))]) ⟨hx, hb, hml, hown, hts⟩ (ctX11_ofMark l dC dI cyI cyB cyJ cyZ _ a0 a1 b0_image b0_before b0_taken b0_tape b0_five b0_value b0_far b0_lead b0_walk b0_ends b0_manX b0_manY b0_dogX b0_dogY b0_row b0_round b0_farOne b0_leads b0_drags b0_from b0_near g0_thrown g0_hasImage g0_remembered g0_taped g0_point g0_end g0_begin g0_deep g0_faultAt g0_steps g0_men g0_dogs f1 x6 0 _ hw) (cwV 2 hts gX11_fits_X11_ofMark rfl rfl rfl (by decide +kernel) ⟨Nat.le_of_ble_eq_true rfl, Nat.le_of_ble_eq_true rfl⟩) ⟨wPre_blind, va_recv hK hPc (ci := 11) (q0 := 0) rfl rfl, fun U hU hW => wPre_of hPc hK hDc hN hU hW⟩ rfl rfl hl.1 rfl (lv_room (Nat.le_of_ble_eq_true rfl)) dX11_fits_104 ⟨(Nat.zero_le _), (Nat.zero_le _)⟩) hS (fun q _ h => hFc q h) hFc (fun r7 u6 t H1 locs ht hvm hw hB hz1 hk1 hS => ?_)
      obtain ⟨hP1, hK1, hD1⟩ := hB
      rw [ht] at hP1
      obtain ⟨hP, hD⟩ := va_join (wr := pickW (ceX11_fits cyI cyB cyJ cyZ a0 a1 b0_image b0_before b0_taken b0_tape b0_five b0_value b0_far b0_lead b0_walk b0_ends b0_manX b0_manY b0_dogX b0_dogY b0_row b0_round b0_farOne b0_leads b0_drags b0_from b0_near g0_hasImage g0_remembered g0_taped g0_point g0_end g0_begin g0_deep g0_faultAt g0_steps g0_men g0_dogs f1 g0_thrown) []) (w1 := (ceX11_ofMark cyI cyB cyJ cyZ a0 a1 b0_image b0_before b0_taken b0_tape b0_five b0_value b0_far b0_lead b0_walk b0_ends b0_manX b0_manY b0_dogX b0_dogY b0_row b0_round b0_farOne b0_leads b0_drags b0_from b0_near g0_thrown g0_hasImage g0_remembered g0_taped g0_point g0_end g0_begin g0_deep g0_faultAt g0_steps g0_men g0_dogs f1)) hP hD [0, 1] [] rfl rfl (by decide) (by decide) hk1 hFc hP1 hD1
      have hP := hP.sub (ws' := (ceX11_fits cyI cyB cyJ cyZ a0 a1 b0_image b0_before b0_taken b0_tape b0_five b0_value b0_far b0_lead b0_walk b0_ends b0_manX b0_manY b0_dogX b0_dogY b0_row b0_round b0_farOne b0_leads b0_drags b0_from b0_near g0_hasImage g0_remembered g0_taped g0_point g0_end g0_begin g0_deep g0_faultAt g0_steps g0_men g0_dogs f1 g0_thrown)) [0, 1] rfl
      have hD := hD.sub (ws' := (ceX11_fits cyI cyB cyJ cyZ a0 a1 b0_image b0_before b0_taken b0_tape b0_five b0_value b0_far b0_lead b0_walk b0_ends b0_manX b0_manY b0_dogX b0_dogY b0_row b0_round b0_farOne b0_leads b0_drags b0_from b0_near g0_hasImage g0_remembered g0_taped g0_point g0_end g0_begin g0_deep g0_faultAt g0_steps g0_men g0_dogs f1 g0_thrown)) [0, 1] (by decide) rfl
      generalize H1 = H at hP hS ⊢
      refine lv_aload_n hx hb dX11_fits_107 rfl (lv_at hl 0 rfl) ?_
      refine lv_iload hx hb dX11_fits_108 (lv_at hl 7 rfl) ?_
      refine lv_iconst (v := 0) hx hb dX11_fits_110 (by decide) ?_
      have hPc := hP.sub (ws' := (ceX11_ofMark cyI cyB cyJ cyZ a0 a1 b0_image b0_before b0_taken b0_tape b0_five b0_value b0_far b0_lead b0_walk b0_ends b0_manX b0_manY b0_dogX b0_dogY b0_row b0_round b0_farOne b0_leads b0_drags b0_from b0_near g0_thrown g0_hasImage g0_remembered g0_taped g0_point g0_end g0_begin g0_deep g0_faultAt g0_steps g0_men g0_dogs f1)) [0, 1] rfl
      have hDc := hD.sub (ws' := (ceX11_ofMark cyI cyB cyJ cyZ a0 a1 b0_image b0_before b0_taken b0_tape b0_five b0_value b0_far b0_lead b0_walk b0_ends b0_manX b0_manY b0_dogX b0_dogY b0_row b0_round b0_farOne b0_leads b0_drags b0_from b0_near g0_thrown g0_hasImage g0_remembered g0_taped g0_point g0_end g0_begin g0_deep g0_faultAt g0_steps g0_men g0_dogs f1)) [0, 1] (by decide) rfl
      have hFc := va_free (wc := (ceX11_ofMark cyI cyB cyJ cyZ a0 a1 b0_image b0_before b0_taken b0_tape b0_five b0_value b0_far b0_lead b0_walk b0_ends b0_manX b0_manY b0_dogX b0_dogY b0_row b0_round b0_farOne b0_leads b0_drags b0_from b0_near g0_thrown g0_hasImage g0_remembered g0_taped g0_point g0_end g0_begin g0_deep g0_faultAt g0_steps g0_men g0_dogs f1)) hD hS hA [0, 1] rfl
      refine va_calli (va_runV (As := [.int x7, .int 0]) (rest := [.int r7, .long ((x2.toInt64) * ((iAbs (r3 - r5)).toInt64))]) ⟨hx, hb, hml, hown, hts⟩ (ctX11_ofMark l dC dI cyI cyB cyJ cyZ _ a0 a1 b0_image b0_before b0_taken b0_tape b0_five b0_value b0_far b0_lead b0_walk b0_ends b0_manX b0_manY b0_dogX b0_dogY b0_row b0_round b0_farOne b0_leads b0_drags b0_from b0_near g0_thrown g0_hasImage g0_remembered g0_taped g0_point g0_end g0_begin g0_deep g0_faultAt g0_steps g0_men g0_dogs f1 x7 0 _ hw) (cwV 2 hts gX11_fits_X11_ofMark rfl rfl rfl (by decide +kernel) ⟨Nat.le_of_ble_eq_true rfl, Nat.le_of_ble_eq_true rfl⟩) ⟨wPre_blind, va_recv hK hPc (ci := 11) (q0 := 0) rfl rfl, fun U hU hW => wPre_of hPc hK hDc hN hU hW⟩ rfl rfl hl.1 rfl (lv_room (Nat.le_of_ble_eq_true rfl)) dX11_fits_111 ⟨(Nat.zero_le _), (Nat.zero_le _)⟩) hS (fun q _ h => hFc q h) hFc (fun r9 u8 t H1 locs ht hvm hw hB hz1 hk1 hS => ?_)
      obtain ⟨hP1, hK1, hD1⟩ := hB
      rw [ht] at hP1
      obtain ⟨hP, hD⟩ := va_join (wr := pickW (ceX11_fits cyI cyB cyJ cyZ a0 a1 b0_image b0_before b0_taken b0_tape b0_five b0_value b0_far b0_lead b0_walk b0_ends b0_manX b0_manY b0_dogX b0_dogY b0_row b0_round b0_farOne b0_leads b0_drags b0_from b0_near g0_hasImage g0_remembered g0_taped g0_point g0_end g0_begin g0_deep g0_faultAt g0_steps g0_men g0_dogs f1 g0_thrown) []) (w1 := (ceX11_ofMark cyI cyB cyJ cyZ a0 a1 b0_image b0_before b0_taken b0_tape b0_five b0_value b0_far b0_lead b0_walk b0_ends b0_manX b0_manY b0_dogX b0_dogY b0_row b0_round b0_farOne b0_leads b0_drags b0_from b0_near g0_thrown g0_hasImage g0_remembered g0_taped g0_point g0_end g0_begin g0_deep g0_faultAt g0_steps g0_men g0_dogs f1)) hP hD [0, 1] [] rfl rfl (by decide) (by decide) hk1 hFc hP1 hD1
      have hP := hP.sub (ws' := (ceX11_fits cyI cyB cyJ cyZ a0 a1 b0_image b0_before b0_taken b0_tape b0_five b0_value b0_far b0_lead b0_walk b0_ends b0_manX b0_manY b0_dogX b0_dogY b0_row b0_round b0_farOne b0_leads b0_drags b0_from b0_near g0_hasImage g0_remembered g0_taped g0_point g0_end g0_begin g0_deep g0_faultAt g0_steps g0_men g0_dogs f1 g0_thrown)) [0, 1] rfl
      have hD := hD.sub (ws' := (ceX11_fits cyI cyB cyJ cyZ a0 a1 b0_image b0_before b0_taken b0_tape b0_five b0_value b0_far b0_lead b0_walk b0_ends b0_manX b0_manY b0_dogX b0_dogY b0_row b0_round b0_farOne b0_leads b0_drags b0_from b0_near g0_hasImage g0_remembered g0_taped g0_point g0_end g0_begin g0_deep g0_faultAt g0_steps g0_men g0_dogs f1 g0_thrown)) [0, 1] (by decide) rfl
      generalize H1 = H at hP hS ⊢
      refine lv_icmp_ne (tgt := 121) hx hb dX11_fits_114 (by decide) (fun hc => ?_) (fun hc => ?_)
      · have hw := hw.1 hc
        refine lv_iload_n hx hb dX11_fits_121 rfl (lv_at hl 1 rfl) ?_
        exact bX11_fits_122 C0 hK hN hA hQ ih hk50 g0_thrown x1 x2 x3 x4 x5 x6 x7 ((x2.toInt64) * ((iAbs (r3 - r5)).toInt64)) x1 hw _ _ hP hD hS ls (lv_sub hl [0, 1, 2, 3, 4, 5, 6, 7] rfl)
      · have hw := hw.2 hc
        refine lv_iconst (v := 0) hx hb dX11_fits_117 (by decide) ?_
        refine lv_goto (tgt := 122) hx hb dX11_fits_118 (by decide) ?_
        exact bX11_fits_122 C0 hK hN hA hQ ih hk50 g0_thrown x1 x2 x3 x4 x5 x6 x7 ((x2.toInt64) * ((iAbs (r3 - r5)).toInt64)) 0 hw _ _ hP hD hS ls (lv_sub hl [0, 1, 2, 3, 4, 5, 6, 7] rfl)
set_option maxRecDepth 100000 in
set_option maxHeartbeats 4000000 in
theorem bX11_fits_50 {p : Program} {l : Launch} {e : Env} {s : State} {m : MethodId} {args : Array Value} {below : List Frame} {meth : Method} {c : Code} {dC : Nat → ClassId} {dI : Nat → Nat → Nat} {cyI cyB cyJ cyZ : ClassId} {A : Nat → Prop} {a0 a1 b0_image b0_before b0_taken b0_tape b0_five b0_value b0_far b0_lead b0_walk b0_ends b0_manX b0_manY b0_dogX b0_dogY b0_row b0_round b0_farOne b0_leads b0_drags b0_from b0_near : Nat} {g0_hasImage : Int32} {g0_remembered : Int32} {g0_taped : Int32} {g0_point : Int32} {g0_end : Int32} {g0_begin : Int32} {g0_deep : Int32} {g0_faultAt : Int32} {g0_steps : Int32} {g0_men : Int32} {g0_dogs : Int32} (C0 : cxM p s m meth c args wsX11_fits RX11 cX11_fits 10 (some .int)) (hK : va_K (dC, dI) vwCl (tyA cyI cyB cyJ cyZ) s) (hN : nwA s) (hA : ∀ q : Nat, s.heap.size ≤ q → A q) {post : Int32 → Int32 → Prop} {f1 : Nat → Int32} {Q : State → Prop} (hQ : Q = MQ below (va_Qi post (fun u : Int32 => wAt dC dI cyI cyB cyJ cyZ A (ceX11_fits cyI cyB cyJ cyZ a0 a1 b0_image b0_before b0_taken b0_tape b0_five b0_value b0_far b0_lead b0_walk b0_ends b0_manX b0_manY b0_dogX b0_dogY b0_row b0_round b0_farOne b0_leads b0_drags b0_from b0_near g0_hasImage g0_remembered g0_taped g0_point g0_end g0_begin g0_deep g0_faultAt g0_steps g0_men g0_dogs f1 u)) A) args s 0 0 A) : ∀ (n : Nat) (g0_thrown : Int32) (x1 : Int32) (x2 : Int32) (x3 : Int32) (x4 : Int32) (x5 : Int32) (x6 : Int32), wpX11_fits_50 post f1 n g0_thrown x1 x2 x3 x4 x5 x6 → AtW p l e rmX11_fits s m args below meth c dC dI A Q 10 0 0 (ceX11_fits cyI cyB cyJ cyZ a0 a1 b0_image b0_before b0_taken b0_tape b0_five b0_value b0_far b0_lead b0_walk b0_ends b0_manX b0_manY b0_dogX b0_dogY b0_row b0_round b0_farOne b0_leads b0_drags b0_from b0_near g0_hasImage g0_remembered g0_taped g0_point g0_end g0_begin g0_deep g0_faultAt g0_steps g0_men g0_dogs f1 g0_thrown) [(0, .ref a0), (1, .int x1), (2, .int x2), (3, .int x3), (4, .int x4), (5, .int x5), (6, .int x6)] 50 [] := by
  intro n
  induction n with
  | zero => intro g0_thrown x1 x2 x3 x4 x5 x6 hw; exact False.elim hw
  | succ n ih =>
    intro g0_thrown x1 x2 x3 x4 x5 x6 hw H locs hP hD hS ls hl
    have C1 := C0
    obtain ⟨hx, hb, hr, hml, hown, hts, hlocks⟩ := C1
    refine lv_iload hx hb dX11_fits_50 (lv_at hl 6 rfl) ?_
    refine lv_aload_n hx hb dX11_fits_52 rfl (lv_at hl 0 rfl) ?_
    refine va_get (D := (dC, dI)) (ci := 11) (v := .ref a1) (C := RX11) (T := TX11) (N := 34) hx hb hts inX11_fits_X11 hown hK hP 0 rfl rfl 1 (by decide) (hts (.fieldLink RX11 13 "LeadParkModel" "world" "[I") (List.mem_of_getElem? (i := 2) rfl)) (fun _ h9 => h9) rfl dX11_fits_53 ?_
    refine lv_iconst (v := 4) hx hb dX11_fits_56 (by decide) ?_
    obtain ⟨hi, hw⟩ := hw
    refine va_iald hx hb hK hP 1 0 rfl rfl hi dX11_fits_57 ?_
    refine lv_icmp_ge (tgt := 182) hx hb dX11_fits_58 (by decide) (fun hc => ?_) (fun hc => ?_)
    · have hw := hw.1 hc
      refine lv_iload_n hx hb dX11_fits_182 rfl (lv_at hl 3 rfl) ?_
      refine lv_if_eq (tgt := 191) hx hb dX11_fits_183 (by decide) (fun hc => ?_) (fun hc => ?_)
      · have hw := hw.1 hc
        refine lv_iload hx hb dX11_fits_191 (lv_at hl 4 rfl) ?_
        rw [hQ]
        exact W.iret (v := x4) hx hb hr (fun t ht hW => ⟨⟨x4, (g0_thrown), rfl, hw, by rw [ht]; exact hP, va_K.moved hW.alike hK, hD⟩, hS.F ht⟩) hS.2.2 dX11_fits_193
      · have hw := hw.2 hc
        refine lv_iload hx hb dX11_fits_186 (lv_at hl 5 rfl) ?_
        refine lv_goto (tgt := 193) hx hb dX11_fits_188 (by decide) ?_
        rw [hQ]
        exact W.iret (v := x5) hx hb hr (fun t ht hW => ⟨⟨x5, (g0_thrown), rfl, hw, by rw [ht]; exact hP, va_K.moved hW.alike hK, hD⟩, hS.F ht⟩) hS.2.2 dX11_fits_193
    · have hw := hw.2 hc
      refine lv_iload hx hb dX11_fits_61 (lv_at hl 6 rfl) ?_
      refine lv_iconst (v := 1) hx hb dX11_fits_63 (by decide) ?_
      refine lv_iadd hx hb dX11_fits_64 ?_
      refine lv_topi (fun v1 ev1 => ?_)
      have hw := hw v1 ev1
      refine lv_istore (lv' := [(7, .int v1), (0, .ref a0), (1, .int x1), (2, .int x2), (3, .int x3), (4, .int x4), (5, .int x5), (6, .int x6)]) hx hb dX11_fits_65 hl (by decide) rfl (fun ls hl => ?_)
      obtain ⟨nn, hw⟩ := hw
      exact bX11_fits_67 C0 hK hN hA hQ ih nn g0_thrown x1 x2 x3 x4 x5 x6 v1 hw _ _ hP hD hS ls (lv_sub hl [1, 2, 3, 4, 5, 6, 7, 0] rfl)
set_option maxRecDepth 100000 in
set_option maxHeartbeats 4000000 in
theorem bX11_fits_32 {p : Program} {l : Launch} {e : Env} {s : State} {m : MethodId} {args : Array Value} {below : List Frame} {meth : Method} {c : Code} {dC : Nat → ClassId} {dI : Nat → Nat → Nat} {cyI cyB cyJ cyZ : ClassId} {A : Nat → Prop} {a0 a1 b0_image b0_before b0_taken b0_tape b0_five b0_value b0_far b0_lead b0_walk b0_ends b0_manX b0_manY b0_dogX b0_dogY b0_row b0_round b0_farOne b0_leads b0_drags b0_from b0_near : Nat} {g0_hasImage : Int32} {g0_remembered : Int32} {g0_taped : Int32} {g0_point : Int32} {g0_end : Int32} {g0_begin : Int32} {g0_deep : Int32} {g0_faultAt : Int32} {g0_steps : Int32} {g0_men : Int32} {g0_dogs : Int32} (C0 : cxM p s m meth c args wsX11_fits RX11 cX11_fits 10 (some .int)) (hK : va_K (dC, dI) vwCl (tyA cyI cyB cyJ cyZ) s) (hN : nwA s) (hA : ∀ q : Nat, s.heap.size ≤ q → A q) {post : Int32 → Int32 → Prop} {f1 : Nat → Int32} {Q : State → Prop} (hQ : Q = MQ below (va_Qi post (fun u : Int32 => wAt dC dI cyI cyB cyJ cyZ A (ceX11_fits cyI cyB cyJ cyZ a0 a1 b0_image b0_before b0_taken b0_tape b0_five b0_value b0_far b0_lead b0_walk b0_ends b0_manX b0_manY b0_dogX b0_dogY b0_row b0_round b0_farOne b0_leads b0_drags b0_from b0_near g0_hasImage g0_remembered g0_taped g0_point g0_end g0_begin g0_deep g0_faultAt g0_steps g0_men g0_dogs f1 u)) A) args s 0 0 A) : ∀ (g0_thrown : Int32) (x1 : Int32) (x2 : Int32) (x3 : Int32) (s1 : Int32), wpX11_fits_32 post f1 g0_thrown x1 x2 x3 s1 → AtW p l e rmX11_fits s m args below meth c dC dI A Q 10 0 0 (ceX11_fits cyI cyB cyJ cyZ a0 a1 b0_image b0_before b0_taken b0_tape b0_five b0_value b0_far b0_lead b0_walk b0_ends b0_manX b0_manY b0_dogX b0_dogY b0_row b0_round b0_farOne b0_leads b0_drags b0_from b0_near g0_hasImage g0_remembered g0_taped g0_point g0_end g0_begin g0_deep g0_faultAt g0_steps g0_men g0_dogs f1 g0_thrown) [(0, .ref a0), (1, .int x1), (2, .int x2), (3, .int x3)] 32 [.int s1, .ref a0] := by
  intro g0_thrown x1 x2 x3 s1 hw H locs hP hD hS ls hl
  have C1 := C0
  obtain ⟨hx, hb, hr, hml, hown, hts, hlocks⟩ := C1
  refine lv_iconst (v := 1) hx hb dX11_fits_32 (by decide) ?_
  have hPc := hP.sub (ws' := (ceX11_throwsIf cyI cyB cyJ cyZ a0 a1 b0_image b0_before b0_taken b0_tape b0_five b0_value b0_far b0_lead b0_walk b0_ends b0_manX b0_manY b0_dogX b0_dogY b0_row b0_round b0_farOne b0_leads b0_drags b0_from b0_near g0_hasImage g0_remembered g0_taped g0_point g0_end g0_begin g0_deep g0_faultAt g0_steps g0_men g0_dogs g0_thrown)) [0] rfl
  have hDc := hD.sub (ws' := (ceX11_throwsIf cyI cyB cyJ cyZ a0 a1 b0_image b0_before b0_taken b0_tape b0_five b0_value b0_far b0_lead b0_walk b0_ends b0_manX b0_manY b0_dogX b0_dogY b0_row b0_round b0_farOne b0_leads b0_drags b0_from b0_near g0_hasImage g0_remembered g0_taped g0_point g0_end g0_begin g0_deep g0_faultAt g0_steps g0_men g0_dogs g0_thrown)) [0] (by decide) rfl
  have hFc := va_free (wc := (ceX11_throwsIf cyI cyB cyJ cyZ a0 a1 b0_image b0_before b0_taken b0_tape b0_five b0_value b0_far b0_lead b0_walk b0_ends b0_manX b0_manY b0_dogX b0_dogY b0_row b0_round b0_farOne b0_leads b0_drags b0_from b0_near g0_hasImage g0_remembered g0_taped g0_point g0_end g0_begin g0_deep g0_faultAt g0_steps g0_men g0_dogs g0_thrown)) hD hS hA [0] rfl
  refine va_calli (va_runV (As := [.int s1, .int 1]) (rest := []) ⟨hx, hb, hml, hown, hts⟩ (ctX11_throwsIf l dC dI cyI cyB cyJ cyZ _ a0 a1 b0_image b0_before b0_taken b0_tape b0_five b0_value b0_far b0_lead b0_walk b0_ends b0_manX b0_manY b0_dogX b0_dogY b0_row b0_round b0_farOne b0_leads b0_drags b0_from b0_near g0_hasImage g0_remembered g0_taped g0_point g0_end g0_begin g0_deep g0_faultAt g0_steps g0_men g0_dogs g0_thrown s1 1 _ hw) (cwV 2 hts gX11_fits_X11_throwsIf rfl rfl rfl (by decide +kernel) ⟨Nat.le_of_ble_eq_true rfl, Nat.le_of_ble_eq_true rfl⟩) ⟨wPre_blind, va_recv hK hPc (ci := 11) (q0 := 0) rfl rfl, fun U hU hW => wPre_of hPc hK hDc hN hU hW⟩ rfl rfl hl.1 rfl (lv_room (Nat.le_of_ble_eq_true rfl)) dX11_fits_33 ⟨(Nat.zero_le _), (Nat.zero_le _)⟩) hS (fun q _ h => hFc q h) hFc (fun r2 u1 t H1 locs ht hvm hw hB hz1 hk1 hS => ?_)
  obtain ⟨hP1, hK1, hD1⟩ := hB
  rw [ht] at hP1
  obtain ⟨hP, hD⟩ := va_join (wr := pickW (ceX11_fits cyI cyB cyJ cyZ a0 a1 b0_image b0_before b0_taken b0_tape b0_five b0_value b0_far b0_lead b0_walk b0_ends b0_manX b0_manY b0_dogX b0_dogY b0_row b0_round b0_farOne b0_leads b0_drags b0_from b0_near g0_hasImage g0_remembered g0_taped g0_point g0_end g0_begin g0_deep g0_faultAt g0_steps g0_men g0_dogs f1 g0_thrown) [1]) (w1 := (ceX11_throwsIf cyI cyB cyJ cyZ a0 a1 b0_image b0_before b0_taken b0_tape b0_five b0_value b0_far b0_lead b0_walk b0_ends b0_manX b0_manY b0_dogX b0_dogY b0_row b0_round b0_farOne b0_leads b0_drags b0_from b0_near g0_hasImage g0_remembered g0_taped g0_point g0_end g0_begin g0_deep g0_faultAt g0_steps g0_men g0_dogs u1)) hP hD [0] [1] rfl rfl (by decide) (by decide) hk1 hFc hP1 hD1
  have hP := hP.sub (ws' := (ceX11_fits cyI cyB cyJ cyZ a0 a1 b0_image b0_before b0_taken b0_tape b0_five b0_value b0_far b0_lead b0_walk b0_ends b0_manX b0_manY b0_dogX b0_dogY b0_row b0_round b0_farOne b0_leads b0_drags b0_from b0_near g0_hasImage g0_remembered g0_taped g0_point g0_end g0_begin g0_deep g0_faultAt g0_steps g0_men g0_dogs f1 u1)) [1, 0] rfl
  have hD := hD.sub (ws' := (ceX11_fits cyI cyB cyJ cyZ a0 a1 b0_image b0_before b0_taken b0_tape b0_five b0_value b0_far b0_lead b0_walk b0_ends b0_manX b0_manY b0_dogX b0_dogY b0_row b0_round b0_farOne b0_leads b0_drags b0_from b0_near g0_hasImage g0_remembered g0_taped g0_point g0_end g0_begin g0_deep g0_faultAt g0_steps g0_men g0_dogs f1 u1)) [1, 0] (by decide) rfl
  generalize H1 = H at hP hS ⊢
  refine lv_if_eq (tgt := 41) hx hb dX11_fits_36 (by decide) (fun hc => ?_) (fun hc => ?_)
  · have hw := hw.1 hc
    refine lv_iconst (v := 0) hx hb dX11_fits_41 (by decide) ?_
    refine lv_istore (lv' := [(4, .int 0), (0, .ref a0), (1, .int x1), (2, .int x2), (3, .int x3)]) hx hb dX11_fits_42 hl (by decide) rfl (fun ls hl => ?_)
    refine lv_iconst (v := (-1)) hx hb dX11_fits_44 (by decide) ?_
    refine lv_istore (lv' := [(5, .int (-1)), (4, .int 0), (0, .ref a0), (1, .int x1), (2, .int x2), (3, .int x3)]) hx hb dX11_fits_45 hl (by decide) rfl (fun ls hl => ?_)
    refine lv_iconst (v := 0) hx hb dX11_fits_47 (by decide) ?_
    refine lv_istore (lv' := [(6, .int 0), (5, .int (-1)), (4, .int 0), (0, .ref a0), (1, .int x1), (2, .int x2), (3, .int x3)]) hx hb dX11_fits_48 hl (by decide) rfl (fun ls hl => ?_)
    obtain ⟨nn, hw⟩ := hw
    exact bX11_fits_50 C0 hK hN hA hQ nn u1 x1 x2 x3 0 (-1) 0 hw _ _ hP hD hS ls (lv_sub hl [3, 4, 5, 6, 2, 1, 0] rfl)
  · have hw := hw.2 hc
    refine lv_iconst (v := 0) hx hb dX11_fits_39 (by decide) ?_
    rw [hQ]
    exact W.iret (v := 0) hx hb hr (fun t ht hW => ⟨⟨0, (u1), rfl, hw, by rw [ht]; exact hP, va_K.moved hW.alike hK, hD⟩, hS.F ht⟩) hS.2.2 dX11_fits_40
set_option maxRecDepth 100000 in
set_option maxHeartbeats 4000000 in
theorem bX11_fits_27 {p : Program} {l : Launch} {e : Env} {s : State} {m : MethodId} {args : Array Value} {below : List Frame} {meth : Method} {c : Code} {dC : Nat → ClassId} {dI : Nat → Nat → Nat} {cyI cyB cyJ cyZ : ClassId} {A : Nat → Prop} {a0 a1 b0_image b0_before b0_taken b0_tape b0_five b0_value b0_far b0_lead b0_walk b0_ends b0_manX b0_manY b0_dogX b0_dogY b0_row b0_round b0_farOne b0_leads b0_drags b0_from b0_near : Nat} {g0_hasImage : Int32} {g0_remembered : Int32} {g0_taped : Int32} {g0_point : Int32} {g0_end : Int32} {g0_begin : Int32} {g0_deep : Int32} {g0_faultAt : Int32} {g0_steps : Int32} {g0_men : Int32} {g0_dogs : Int32} (C0 : cxM p s m meth c args wsX11_fits RX11 cX11_fits 10 (some .int)) (hK : va_K (dC, dI) vwCl (tyA cyI cyB cyJ cyZ) s) (hN : nwA s) (hA : ∀ q : Nat, s.heap.size ≤ q → A q) {post : Int32 → Int32 → Prop} {f1 : Nat → Int32} {Q : State → Prop} (hQ : Q = MQ below (va_Qi post (fun u : Int32 => wAt dC dI cyI cyB cyJ cyZ A (ceX11_fits cyI cyB cyJ cyZ a0 a1 b0_image b0_before b0_taken b0_tape b0_five b0_value b0_far b0_lead b0_walk b0_ends b0_manX b0_manY b0_dogX b0_dogY b0_row b0_round b0_farOne b0_leads b0_drags b0_from b0_near g0_hasImage g0_remembered g0_taped g0_point g0_end g0_begin g0_deep g0_faultAt g0_steps g0_men g0_dogs f1 u)) A) args s 0 0 A) : ∀ (g0_thrown : Int32) (x1 : Int32) (x2 : Int32) (x3 : Int32), wpX11_fits_27 post f1 g0_thrown x1 x2 x3 → AtW p l e rmX11_fits s m args below meth c dC dI A Q 10 0 0 (ceX11_fits cyI cyB cyJ cyZ a0 a1 b0_image b0_before b0_taken b0_tape b0_five b0_value b0_far b0_lead b0_walk b0_ends b0_manX b0_manY b0_dogX b0_dogY b0_row b0_round b0_farOne b0_leads b0_drags b0_from b0_near g0_hasImage g0_remembered g0_taped g0_point g0_end g0_begin g0_deep g0_faultAt g0_steps g0_men g0_dogs f1 g0_thrown) [(0, .ref a0), (1, .int x1), (2, .int x2), (3, .int x3)] 27 [.ref a0] := by
  intro g0_thrown x1 x2 x3 hw H locs hP hD hS ls hl
  have C1 := C0
  obtain ⟨hx, hb, hr, hml, hown, hts, hlocks⟩ := C1
  refine lv_iconst (v := 1) hx hb dX11_fits_27 (by decide) ?_
  refine lv_goto (tgt := 32) hx hb dX11_fits_28 (by decide) ?_
  exact bX11_fits_32 C0 hK hN hA hQ g0_thrown x1 x2 x3 1 hw _ _ hP hD hS ls (lv_sub hl [0, 1, 2, 3] rfl)
set_option maxRecDepth 100000 in
set_option maxHeartbeats 4000000 in
theorem ctX11_fits (l : Launch) (dC : Nat → ClassId) (dI : Nat → Nat → Nat) (cyI cyB cyJ cyZ : ClassId) (sz : Nat) (a0 a1 b0_image b0_before b0_taken b0_tape b0_five b0_value b0_far b0_lead b0_walk b0_ends b0_manX b0_manY b0_dogX b0_dogY b0_row b0_round b0_farOne b0_leads b0_drags b0_from b0_near : Nat) (g0_hasImage : Int32) (g0_remembered : Int32) (g0_taped : Int32) (g0_point : Int32) (g0_end : Int32) (g0_begin : Int32) (g0_deep : Int32) (g0_faultAt : Int32) (g0_steps : Int32) (g0_men : Int32) (g0_dogs : Int32) (f1 : Nat → Int32) (g0_thrown : Int32) (p0 : Int32) (p1 : Int32) (p2 : Int32) (post : Int32 → Int32 → Prop) (hw : wpX11_fits post f1 g0_thrown p0 p1 p2) : Met l yX11_fits wsX11_fits rmX11_fits (va_Pc [.ref a0, .int p0, .int p1, .int p2] (wPre dC dI cyI cyB cyJ cyZ sz (ceX11_fits cyI cyB cyJ cyZ a0 a1 b0_image b0_before b0_taken b0_tape b0_five b0_value b0_far b0_lead b0_walk b0_ends b0_manX b0_manY b0_dogX b0_dogY b0_row b0_round b0_farOne b0_leads b0_drags b0_from b0_near g0_hasImage g0_remembered g0_taped g0_point g0_end g0_begin g0_deep g0_faultAt g0_steps g0_men g0_dogs f1 g0_thrown))) (va_Qi post (fun u : Int32 => wAt dC dI cyI cyB cyJ cyZ (va_A (ceX11_fits cyI cyB cyJ cyZ a0 a1 b0_image b0_before b0_taken b0_tape b0_five b0_value b0_far b0_lead b0_walk b0_ends b0_manX b0_manY b0_dogX b0_dogY b0_row b0_round b0_farOne b0_leads b0_drags b0_from b0_near g0_hasImage g0_remembered g0_taped g0_point g0_end g0_begin g0_deep g0_faultAt g0_steps g0_men g0_dogs f1 g0_thrown) sz) (ceX11_fits cyI cyB cyJ cyZ a0 a1 b0_image b0_before b0_taken b0_tape b0_five b0_value b0_far b0_lead b0_walk b0_ends b0_manX b0_manY b0_dogX b0_dogY b0_row b0_round b0_farOne b0_leads b0_drags b0_from b0_near g0_hasImage g0_remembered g0_taped g0_point g0_end g0_begin g0_deep g0_faultAt g0_steps g0_men g0_dogs f1 u)) (va_A (ceX11_fits cyI cyB cyJ cyZ a0 a1 b0_image b0_before b0_taken b0_tape b0_five b0_value b0_far b0_lead b0_walk b0_ends b0_manX b0_manY b0_dogX b0_dogY b0_row b0_round b0_farOne b0_leads b0_drags b0_from b0_near g0_hasImage g0_remembered g0_taped g0_point g0_end g0_begin g0_deep g0_faultAt g0_steps g0_men g0_dogs f1 g0_thrown) sz)) 0 0 (va_A (ceX11_fits cyI cyB cyJ cyZ a0 a1 b0_image b0_before b0_taken b0_tape b0_five b0_value b0_far b0_lead b0_walk b0_ends b0_manX b0_manY b0_dogX b0_dogY b0_row b0_round b0_farOne b0_leads b0_drags b0_from b0_near g0_hasImage g0_remembered g0_taped g0_point g0_end g0_begin g0_deep g0_faultAt g0_steps g0_men g0_dogs f1 g0_thrown) sz) := by
  refine Met.ofW (cc := cX11_fits) (maxL := 10) (ret := (some .int)) (by decide) rfl ?_
  intro p e s m args below meth c s₁ B hml hv
  obtain ⟨rfl, hsz, hP, hK, hD0, hN⟩ := hv
  have hx := B.exec
  have hb := B.bytes
  have hr := B.returns
  have hts := atoms_spec (ws := wsX11_fits) B.pre
  have hown : s.vm.findClass RX11 = some m.cls := findClass_of_methodNamed B.named
  have hlocks := B.notSynchronized
  subst hsz
  have hD := hD0.self (sz := s.heap.size)
  generalize hAe : va_A (ceX11_fits cyI cyB cyJ cyZ a0 a1 b0_image b0_before b0_taken b0_tape b0_five b0_value b0_far b0_lead b0_walk b0_ends b0_manX b0_manY b0_dogX b0_dogY b0_row b0_round b0_farOne b0_leads b0_drags b0_from b0_near g0_hasImage g0_remembered g0_taped g0_point g0_end g0_begin g0_deep g0_faultAt g0_steps g0_men g0_dogs f1 g0_thrown) s.heap.size = A at hD ⊢
  have hA : ∀ q : Nat, s.heap.size ≤ q → A q := fun q h => by rw [← hAe]; exact Or.inr h
  have hS : va_S A s.heap s.heap [] := va_S.rf
  have C0 : cxM p s m meth c _ wsX11_fits RX11 cX11_fits 10 (some .int) := ⟨hx, hb, hr, hml, hown, hts, hlocks⟩
  have hl := lv_entry ([.ref a0, .int p0, .int p1, .int p2]) (n := 10) (Nat.le_of_ble_eq_true rfl)
  rw [lg_entry_eq]
  generalize (lg_sl ([.ref a0, .int p0, .int p1, .int p2]) ++ List.replicate (10 - (lg_sl ([.ref a0, .int p0, .int p1, .int p2])).length) Slot.unset).toArray = ls at hl ⊢
  have hl : lv_has ls 10 [(0, .ref a0), (1, .int p0), (2, .int p1), (3, .int p2)] := hl
  show W p l e rmX11_fits s m _ below meth c _ _ _ _ _ _
  refine wq (fun Q hQ => ?_)
  refine lv_aload_n hx hb dX11_fits_0 rfl (lv_at hl 0 rfl) ?_
  refine lv_iconst (v := 0) hx hb dX11_fits_1 (by decide) ?_
  refine va_put (D := (dC, dI)) (ci := 11) (v := .int 0) (ty := .int) (C := RX11) (T := TX11) (N := 34) hx hb hts inX11_fits_X11 tyX11 tyX11_ok nmX11 hown hK hP hD hS 0 rfl rfl 0 (by decide) (hts (.fieldLink RX11 3 "LeadParkModel" "thrown" "I") (List.mem_of_getElem? (i := 1) rfl)) (fun _ h9 => h9) rfl (by decide +kernel) rfl rfl (Nat.le_of_ble_eq_true rfl) dX11_fits_2 (fun H locs hP hD hS => ?_)
  have hP : va_P (dC, dI) vwCl (ceX11_fits cyI cyB cyJ cyZ a0 a1 b0_image b0_before b0_taken b0_tape b0_five b0_value b0_far b0_lead b0_walk b0_ends b0_manX b0_manY b0_dogX b0_dogY b0_row b0_round b0_farOne b0_leads b0_drags b0_from b0_near g0_hasImage g0_remembered g0_taped g0_point g0_end g0_begin g0_deep g0_faultAt g0_steps g0_men g0_dogs f1 0) H := hP
  have hD : va_D A (ceX11_fits cyI cyB cyJ cyZ a0 a1 b0_image b0_before b0_taken b0_tape b0_five b0_value b0_far b0_lead b0_walk b0_ends b0_manX b0_manY b0_dogX b0_dogY b0_row b0_round b0_farOne b0_leads b0_drags b0_from b0_near g0_hasImage g0_remembered g0_taped g0_point g0_end g0_begin g0_deep g0_faultAt g0_steps g0_men g0_dogs f1 0) := hD
  refine lv_aload_n hx hb dX11_fits_5 rfl (lv_at hl 0 rfl) ?_
  refine lv_iload_n hx hb dX11_fits_6 rfl (lv_at hl 1 rfl) ?_
  refine lv_iconst (v := 0) hx hb dX11_fits_7 (by decide) ?_
  refine lv_sipush (v := 999) hx hb dX11_fits_8 (by decide) ?_
  have hPc := hP.sub (ws' := ([] : va_W)) [] rfl
  have hDc := hD.sub (ws' := ([] : va_W)) [] (by decide) rfl
  have hFc := va_free (wc := ([] : va_W)) hD hS hA [] rfl
  refine va_calli (va_runS (As := [.int p0, .int 0, .int 999]) (rest := [.ref a0]) ⟨hx, hb, hml, hown, hts⟩ (ctX11_in l dC dI cyI cyB cyJ cyZ _ p0 0 999 _ hw) (va_cwS 3 hts gX11_fits_X11_in rfl rfl rfl (by decide +kernel) ⟨Nat.le_of_ble_eq_true rfl, Nat.le_of_ble_eq_true rfl⟩) ⟨wPre_blind, fun U hU hW => wPre_of hPc hK hDc hN hU hW⟩ rfl rfl hl.1 rfl (lv_room (Nat.le_of_ble_eq_true rfl)) dX11_fits_11 ⟨(Nat.zero_le _), (Nat.zero_le _)⟩) hS (fun q _ h => hFc q h) hFc (fun r2 u1 t H1 locs ht hvm hw hB hz1 hk1 hS => ?_)
  obtain ⟨hP1, hK1, hD1⟩ := hB
  rw [ht] at hP1
  obtain ⟨hP, hD⟩ := va_join (wr := pickW (ceX11_fits cyI cyB cyJ cyZ a0 a1 b0_image b0_before b0_taken b0_tape b0_five b0_value b0_far b0_lead b0_walk b0_ends b0_manX b0_manY b0_dogX b0_dogY b0_row b0_round b0_farOne b0_leads b0_drags b0_from b0_near g0_hasImage g0_remembered g0_taped g0_point g0_end g0_begin g0_deep g0_faultAt g0_steps g0_men g0_dogs f1 0) [0, 1]) (w1 := ([] : va_W)) hP hD [] [0, 1] rfl rfl (by decide) (by decide) hk1 hFc hP1 hD1
  have hP := hP.sub (ws' := (ceX11_fits cyI cyB cyJ cyZ a0 a1 b0_image b0_before b0_taken b0_tape b0_five b0_value b0_far b0_lead b0_walk b0_ends b0_manX b0_manY b0_dogX b0_dogY b0_row b0_round b0_farOne b0_leads b0_drags b0_from b0_near g0_hasImage g0_remembered g0_taped g0_point g0_end g0_begin g0_deep g0_faultAt g0_steps g0_men g0_dogs f1 0)) [0, 1] rfl
  have hD := hD.sub (ws' := (ceX11_fits cyI cyB cyJ cyZ a0 a1 b0_image b0_before b0_taken b0_tape b0_five b0_value b0_far b0_lead b0_walk b0_ends b0_manX b0_manY b0_dogX b0_dogY b0_row b0_round b0_farOne b0_leads b0_drags b0_from b0_near g0_hasImage g0_remembered g0_taped g0_point g0_end g0_begin g0_deep g0_faultAt g0_steps g0_men g0_dogs f1 0)) [0, 1] (by decide) rfl
  generalize H1 = H at hP hS ⊢
  refine lv_if_eq (tgt := 27) hx hb dX11_fits_14 (by decide) (fun hc => ?_) (fun hc => ?_)
  · have hw := hw.1 hc
    exact bX11_fits_27 C0 hK hN hA hQ 0 p0 p1 p2 hw _ _ hP hD hS ls (lv_sub hl [0, 1, 2, 3] rfl)
  · have hw := hw.2 hc
    refine lv_iload_n hx hb dX11_fits_17 rfl (lv_at hl 2 rfl) ?_
    refine lv_iconst (v := 0) hx hb dX11_fits_18 (by decide) ?_
    refine lv_bipush (v := 99) hx hb dX11_fits_19 (by decide) ?_
    have hPc := hP.sub (ws' := ([] : va_W)) [] rfl
    have hDc := hD.sub (ws' := ([] : va_W)) [] (by decide) rfl
    have hFc := va_free (wc := ([] : va_W)) hD hS hA [] rfl
    refine va_calli (va_runS (As := [.int p1, .int 0, .int 99]) (rest := [.ref a0]) ⟨hx, hb, hml, hown, hts⟩ (ctX11_in l dC dI cyI cyB cyJ cyZ _ p1 0 99 _ hw) (va_cwS 3 hts gX11_fits_X11_in rfl rfl rfl (by decide +kernel) ⟨Nat.le_of_ble_eq_true rfl, Nat.le_of_ble_eq_true rfl⟩) ⟨wPre_blind, fun U hU hW => wPre_of hPc hK hDc hN hU hW⟩ rfl rfl hl.1 rfl (lv_room (Nat.le_of_ble_eq_true rfl)) dX11_fits_21 ⟨(Nat.zero_le _), (Nat.zero_le _)⟩) hS (fun q _ h => hFc q h) hFc (fun r4 u3 t H1 locs ht hvm hw hB hz1 hk1 hS => ?_)
    obtain ⟨hP1, hK1, hD1⟩ := hB
    rw [ht] at hP1
    obtain ⟨hP, hD⟩ := va_join (wr := pickW (ceX11_fits cyI cyB cyJ cyZ a0 a1 b0_image b0_before b0_taken b0_tape b0_five b0_value b0_far b0_lead b0_walk b0_ends b0_manX b0_manY b0_dogX b0_dogY b0_row b0_round b0_farOne b0_leads b0_drags b0_from b0_near g0_hasImage g0_remembered g0_taped g0_point g0_end g0_begin g0_deep g0_faultAt g0_steps g0_men g0_dogs f1 0) [0, 1]) (w1 := ([] : va_W)) hP hD [] [0, 1] rfl rfl (by decide) (by decide) hk1 hFc hP1 hD1
    have hP := hP.sub (ws' := (ceX11_fits cyI cyB cyJ cyZ a0 a1 b0_image b0_before b0_taken b0_tape b0_five b0_value b0_far b0_lead b0_walk b0_ends b0_manX b0_manY b0_dogX b0_dogY b0_row b0_round b0_farOne b0_leads b0_drags b0_from b0_near g0_hasImage g0_remembered g0_taped g0_point g0_end g0_begin g0_deep g0_faultAt g0_steps g0_men g0_dogs f1 0)) [0, 1] rfl
    have hD := hD.sub (ws' := (ceX11_fits cyI cyB cyJ cyZ a0 a1 b0_image b0_before b0_taken b0_tape b0_five b0_value b0_far b0_lead b0_walk b0_ends b0_manX b0_manY b0_dogX b0_dogY b0_row b0_round b0_farOne b0_leads b0_drags b0_from b0_near g0_hasImage g0_remembered g0_taped g0_point g0_end g0_begin g0_deep g0_faultAt g0_steps g0_men g0_dogs f1 0)) [0, 1] (by decide) rfl
    generalize H1 = H at hP hS ⊢
    refine lv_if_ne (tgt := 31) hx hb dX11_fits_24 (by decide) (fun hc => ?_) (fun hc => ?_)
    · have hw := hw.1 hc
      refine lv_iconst (v := 0) hx hb dX11_fits_31 (by decide) ?_
      exact bX11_fits_32 C0 hK hN hA hQ 0 p0 p1 p2 0 hw _ _ hP hD hS ls (lv_sub hl [0, 1, 2, 3] rfl)
    · have hw := hw.2 hc
      exact bX11_fits_27 C0 hK hN hA hQ 0 p0 p1 p2 hw _ _ hP hD hS ls (lv_sub hl [0, 1, 2, 3] rfl)
