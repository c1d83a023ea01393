/-! LeadParkModel.least (II)I -/
abbrev ceX11_least (cyI cyB cyJ cyZ : ClassId) (a0 a1 a2 a3 a4 b0_image b0_before b0_taken b0_tape b0_five b0_walk b0_ends b0_manX b0_manY b0_dogX b0_dogY b0_row b0_round b0_farOne b0_leads b0_drags b0_from b0_near : Nat) (g0_hasImage : Int32) (g0_remembered : Int32) (g0_taped : Int32) (g0_point : Int32) (g0_end : Int32) (g0_begin : Int32) (g0_deep : Int32) (g0_faultAt : Int32) (g0_steps : Int32) (f1 : Nat → Int32) (g0_thrown : Int32) (g0_men : Int32) (g0_dogs : Int32) (f2 : Nat → Int32) (f3 : Nat → Int32) (f4 : Nat → Int32) : va_W := [(a0, .inr (11, [.int g0_thrown, .ref a1, .ref b0_image, .ref b0_before, .int g0_hasImage, .ref b0_taken, .int g0_remembered, .ref b0_tape, .int g0_taped, .int g0_point, .int g0_end, .int g0_begin, .int g0_deep, .int g0_faultAt, .ref b0_five, .int g0_steps, .ref a2, .ref a3, .int g0_men, .int g0_dogs, .ref a4, .ref b0_walk, .ref b0_ends, .ref b0_manX, .ref b0_manY, .ref b0_dogX, .ref b0_dogY, .ref b0_row, .ref b0_round, .ref b0_farOne, .ref b0_leads, .ref b0_drags, .ref b0_from, .ref b0_near])), (a1, .inl (cyI, 2508, .inl f1)), (a2, .inl (cyI, 400, .inl f2)), (a3, .inl (cyI, 900, .inl f3)), (a4, .inl (cyI, 900, .inl f4))]

theorem inX11_least_X11 : ∀ w ∈ wsX110, w ∈ wsX11_least := fun _ h => List.mem_cons_of_mem _ (List.mem_append_right _ h)
abbrev rmX11_least : Room := { frames := 7, cells := 0, slots := 0, locals := 188 }
set_option maxRecDepth 100000 in
set_option maxHeartbeats 4000000 in
theorem bX11_least_27 {p : Program} {l : Launch} {e : Env} {s : State} {m : MethodId} {args : Array Value} {below : List Frame} {meth : Method} {c : Code} {dC : Nat → ClassId} {dI : Nat → Nat → Nat} {cyI cyB cyJ cyZ : ClassId} {A : Nat → Prop} {a0 a1 a2 a3 a4 b0_image b0_before b0_taken b0_tape b0_five b0_walk b0_ends b0_manX b0_manY b0_dogX b0_dogY b0_row b0_round b0_farOne b0_leads b0_drags b0_from b0_near : Nat} {g0_hasImage : Int32} {g0_remembered : Int32} {g0_taped : Int32} {g0_point : Int32} {g0_end : Int32} {g0_begin : Int32} {g0_deep : Int32} {g0_faultAt : Int32} {g0_steps : Int32} (C0 : cxM p s m meth c args wsX11_least RX11 cX11_least 3 (some .int)) (hK : va_K (dC, dI) vwCl (tyA cyI cyB cyJ cyZ) s) (hN : nwA s) (hA : ∀ q : Nat, s.heap.size ≤ q → A q) {post : Int32 → (Int32 × Int32 × Int32 × (Nat → Int32) × (Nat → Int32) × (Nat → Int32)) → Prop} {f1 : Nat → Int32} {Q : State → Prop} (hQ : Q = MQ below (va_Qi post (fun u : Int32 × Int32 × Int32 × (Nat → Int32) × (Nat → Int32) × (Nat → Int32) => wAt dC dI cyI cyB cyJ cyZ A (ceX11_least cyI cyB cyJ cyZ a0 a1 a2 a3 a4 b0_image b0_before b0_taken b0_tape b0_five b0_walk b0_ends b0_manX b0_manY b0_dogX b0_dogY b0_row b0_round b0_farOne b0_leads b0_drags b0_from b0_near g0_hasImage g0_remembered g0_taped g0_point g0_end g0_begin g0_deep g0_faultAt g0_steps f1 u.1 u.2.1 u.2.2.1 u.2.2.2.1 u.2.2.2.2.1 u.2.2.2.2.2)) A) args s 0 0 A) : ∀ (g0_thrown : Int32) (g0_men : Int32) (g0_dogs : Int32) (f2 : Nat → Int32) (f3 : Nat → Int32) (f4 : Nat → Int32) (x1 : Int32) (x2 : Int32) (s1 : Int32), wpX11_least_27 post f1 g0_thrown g0_men g0_dogs f2 f3 f4 x1 x2 s1 → AtW p l e rmX11_least s m args below meth c dC dI A Q 3 0 0 (ceX11_least cyI cyB cyJ cyZ a0 a1 a2 a3 a4 b0_image b0_before b0_taken b0_tape b0_five b0_walk b0_ends b0_manX b0_manY b0_dogX b0_dogY b0_row b0_round b0_farOne b0_leads b0_drags b0_from b0_near g0_hasImage g0_remembered g0_taped g0_point g0_end g0_begin g0_deep g0_faultAt g0_steps f1 g0_thrown g0_men g0_dogs f2 f3 f4) [(0, .ref a0), (1, .int x1), (2, .int x2)] 27 [.int s1, .ref a0] := by
  intro g0_thrown g0_men g0_dogs f2 f3 f4 x1 x2 s1 hw H locs hP hD hS ls hl
  have C1 := C0
  obtain ⟨hx, hb, hr, hml, hown, hts, hlocks⟩ := C1
  refine lv_iconst (v := 1) hx hb dX11_least_27 (by decide) ?_
  have hPc := hP.sub (ws' := (ceX11_throwsIf cyI cyB cyJ cyZ a0 a1 b0_image b0_before b0_taken b0_tape b0_five a2 a3 a4 b0_walk b0_ends b0_manX b0_manY b0_dogX b0_dogY b0_row b0_round b0_farOne b0_leads b0_drags b0_from b0_near g0_hasImage g0_remembered g0_taped g0_point g0_end g0_begin g0_deep g0_faultAt g0_steps g0_men g0_dogs g0_thrown)) [0] rfl
  have hDc := hD.sub (ws' := (ceX11_throwsIf cyI cyB cyJ cyZ a0 a1 b0_image b0_before b0_taken b0_tape b0_five a2 a3 a4 b0_walk b0_ends b0_manX b0_manY b0_dogX b0_dogY b0_row b0_round b0_farOne b0_leads b0_drags b0_from b0_near g0_hasImage g0_remembered g0_taped g0_point g0_end g0_begin g0_deep g0_faultAt g0_steps g0_men g0_dogs g0_thrown)) [0] (by decide) rfl
  have hFc := va_free (wc := (ceX11_throwsIf cyI cyB cyJ cyZ a0 a1 b0_image b0_before b0_taken b0_tape b0_five a2 a3 a4 b0_walk b0_ends b0_manX b0_manY b0_dogX b0_dogY b0_row b0_round b0_farOne b0_leads b0_drags b0_from b0_near g0_hasImage g0_remembered g0_taped g0_point g0_end g0_begin g0_deep g0_faultAt g0_steps g0_men g0_dogs g0_thrown)) hD hS hA [0] rfl
  refine va_calli (va_runV (As := [.int s1, .int 1]) (rest := []) ⟨hx, hb, hml, hown, hts⟩ (ctX11_throwsIf l dC dI cyI cyB cyJ cyZ _ a0 a1 b0_image b0_before b0_taken b0_tape b0_five a2 a3 a4 b0_walk b0_ends b0_manX b0_manY b0_dogX b0_dogY b0_row b0_round b0_farOne b0_leads b0_drags b0_from b0_near g0_hasImage g0_remembered g0_taped g0_point g0_end g0_begin g0_deep g0_faultAt g0_steps g0_men g0_dogs g0_thrown s1 1 _ hw) (cwV 2 hts gX11_least_X11_throwsIf rfl rfl rfl (by decide +kernel) ⟨Nat.le_of_ble_eq_true rfl, Nat.le_of_ble_eq_true rfl⟩) ⟨wPre_blind, va_recv hK hPc (ci := 11) (q0 := 0) rfl rfl, fun U hU hW => wPre_of hPc hK hDc hN hU hW⟩ rfl rfl hl.1 rfl (lv_room (Nat.le_of_ble_eq_true rfl)) dX11_least_28 ⟨(Nat.zero_le _), (Nat.zero_le _)⟩) hS (fun q _ h => hFc q h) hFc (fun r2 u1 t H1 locs ht hvm hw hB hz1 hk1 hS => ?_)
  obtain ⟨hP1, hK1, hD1⟩ := hB
  rw [ht] at hP1
  obtain ⟨hP, hD⟩ := va_join (wr := pickW (ceX11_least cyI cyB cyJ cyZ a0 a1 a2 a3 a4 b0_image b0_before b0_taken b0_tape b0_five b0_walk b0_ends b0_manX b0_manY b0_dogX b0_dogY b0_row b0_round b0_farOne b0_leads b0_drags b0_from b0_near g0_hasImage g0_remembered g0_taped g0_point g0_end g0_begin g0_deep g0_faultAt g0_steps f1 g0_thrown g0_men g0_dogs f2 f3 f4) [1, 2, 3, 4]) (w1 := (ceX11_throwsIf cyI cyB cyJ cyZ a0 a1 b0_image b0_before b0_taken b0_tape b0_five a2 a3 a4 b0_walk b0_ends b0_manX b0_manY b0_dogX b0_dogY b0_row b0_round b0_farOne b0_leads b0_drags b0_from b0_near g0_hasImage g0_remembered g0_taped g0_point g0_end g0_begin g0_deep g0_faultAt g0_steps g0_men g0_dogs u1)) hP hD [0] [1, 2, 3, 4] rfl rfl (by decide) (by decide) hk1 hFc hP1 hD1
  have hP := hP.sub (ws' := (ceX11_least cyI cyB cyJ cyZ a0 a1 a2 a3 a4 b0_image b0_before b0_taken b0_tape b0_five b0_walk b0_ends b0_manX b0_manY b0_dogX b0_dogY b0_row b0_round b0_farOne b0_leads b0_drags b0_from b0_near g0_hasImage g0_remembered g0_taped g0_point g0_end g0_begin g0_deep g0_faultAt g0_steps f1 u1 g0_men g0_dogs f2 f3 f4)) [4, 0, 1, 2, 3] rfl
  have hD := hD.sub (ws' := (ceX11_least cyI cyB cyJ cyZ a0 a1 a2 a3 a4 b0_image b0_before b0_taken b0_tape b0_five b0_walk b0_ends b0_manX b0_manY b0_dogX b0_dogY b0_row b0_round b0_farOne b0_leads b0_drags b0_from b0_near g0_hasImage g0_remembered g0_taped g0_point g0_end g0_begin g0_deep g0_faultAt g0_steps f1 u1 g0_men g0_dogs f2 f3 f4)) [4, 0, 1, 2, 3] (by decide) rfl
  generalize H1 = H at hP hS ⊢
  refine lv_if_eq (tgt := 38) hx hb dX11_least_31 (by decide) (fun hc => ?_) (fun hc => ?_)
  · have hw := hw.1 hc
    refine lv_aload_n hx hb dX11_least_38 rfl (lv_at hl 0 rfl) ?_
    refine lv_iload_n hx hb dX11_least_39 rfl (lv_at hl 1 rfl) ?_
    refine lv_iload_n hx hb dX11_least_40 rfl (lv_at hl 2 rfl) ?_
    have hPc := hP.sub (ws' := (ceX11_leastOf cyI cyB cyJ cyZ a0 a1 a2 a3 a4 b0_image b0_before b0_taken b0_tape b0_five b0_walk b0_ends b0_manX b0_manY b0_dogX b0_dogY b0_row b0_round b0_farOne b0_leads b0_drags b0_from b0_near u1 g0_hasImage g0_remembered g0_taped g0_point g0_end g0_begin g0_deep g0_faultAt g0_steps f1 g0_men g0_dogs f2 f3 f4)) [0, 1, 2, 3, 4] rfl
    have hDc := hD.sub (ws' := (ceX11_leastOf cyI cyB cyJ cyZ a0 a1 a2 a3 a4 b0_image b0_before b0_taken b0_tape b0_five b0_walk b0_ends b0_manX b0_manY b0_dogX b0_dogY b0_row b0_round b0_farOne b0_leads b0_drags b0_from b0_near u1 g0_hasImage g0_remembered g0_taped g0_point g0_end g0_begin g0_deep g0_faultAt g0_steps f1 g0_men g0_dogs f2 f3 f4)) [0, 1, 2, 3, 4] (by decide) rfl
    have hFc := va_free (wc := (ceX11_leastOf cyI cyB cyJ cyZ a0 a1 a2 a3 a4 b0_image b0_before b0_taken b0_tape b0_five b0_walk b0_ends b0_manX b0_manY b0_dogX b0_dogY b0_row b0_round b0_farOne b0_leads b0_drags b0_from b0_near u1 g0_hasImage g0_remembered g0_taped g0_point g0_end g0_begin g0_deep g0_faultAt g0_steps f1 g0_men g0_dogs f2 f3 f4)) hD hS hA [0, 1, 2, 3, 4] rfl
    refine va_calli (va_runV (As := [.int x1, .int x2]) (rest := []) ⟨hx, hb, hml, hown, hts⟩ (ctX11_leastOf l dC dI cyI cyB cyJ cyZ _ a0 a1 a2 a3 a4 b0_image b0_before b0_taken b0_tape b0_five b0_walk b0_ends b0_manX b0_manY b0_dogX b0_dogY b0_row b0_round b0_farOne b0_leads b0_drags b0_from b0_near u1 g0_hasImage g0_remembered g0_taped g0_point g0_end g0_begin g0_deep g0_faultAt g0_steps f1 g0_men g0_dogs f2 f3 f4 x1 x2 _ hw) (cwV 2 hts gX11_least_X11_leastOf rfl rfl rfl (by decide +kernel) ⟨Nat.le_of_ble_eq_true rfl, Nat.le_of_ble_eq_true rfl⟩) ⟨wPre_blind, va_recv hK hPc (ci := 11) (q0 := 0) rfl rfl, fun U hU hW => wPre_of hPc hK hDc hN hU hW⟩ rfl rfl hl.1 rfl (lv_room (Nat.le_of_ble_eq_true rfl)) dX11_least_41 ⟨(Nat.zero_le _), (Nat.zero_le _)⟩) hS (fun q _ h => hFc q h) hFc (fun r4 u3 t H1 locs ht hvm hw hB hz1 hk1 hS => ?_)
    obtain ⟨hP1, hK1, hD1⟩ := hB
    rw [ht] at hP1
    obtain ⟨hP, hD⟩ := va_join (wr := pickW (ceX11_least cyI cyB cyJ cyZ a0 a1 a2 a3 a4 b0_image b0_before b0_taken b0_tape b0_five b0_walk b0_ends b0_manX b0_manY b0_dogX b0_dogY b0_row b0_round b0_farOne b0_leads b0_drags b0_from b0_near g0_hasImage g0_remembered g0_taped g0_point g0_end g0_begin g0_deep g0_faultAt g0_steps f1 u1 g0_men g0_dogs f2 f3 f4) []) (w1 := (ceX11_leastOf cyI cyB cyJ cyZ a0 a1 a2 a3 a4 b0_image b0_before b0_taken b0_tape b0_five b0_walk b0_ends b0_manX b0_manY b0_dogX b0_dogY b0_row b0_round b0_farOne b0_leads b0_drags b0_from b0_near u1 g0_hasImage g0_remembered g0_taped g0_point g0_end g0_begin g0_deep g0_faultAt g0_steps f1 u3.1 u3.2.1 u3.2.2.1 u3.2.2.2.1 u3.2.2.2.2)) hP hD [0, 1, 2, 3, 4] [] rfl rfl (by decide) (by decide) hk1 hFc hP1 hD1
    have hP := hP.sub (ws' := (ceX11_least cyI cyB cyJ cyZ a0 a1 a2 a3 a4 b0_image b0_before b0_taken b0_tape b0_five b0_walk b0_ends b0_manX b0_manY b0_dogX b0_dogY b0_row b0_round b0_farOne b0_leads b0_drags b0_from b0_near g0_hasImage g0_remembered g0_taped g0_point g0_end g0_begin g0_deep g0_faultAt g0_steps f1 u1 u3.1 u3.2.1 u3.2.2.1 u3.2.2.2.1 u3.2.2.2.2)) [0, 1, 2, 3, 4] rfl
    have hD := hD.sub (ws' := (ceX11_least cyI cyB cyJ cyZ a0 a1 a2 a3 a4 b0_image b0_before b0_taken b0_tape b0_five b0_walk b0_ends b0_manX b0_manY b0_dogX b0_dogY b0_row b0_round b0_farOne b0_leads b0_drags b0_from b0_near g0_hasImage g0_remembered g0_taped g0_point g0_end g0_begin g0_deep g0_faultAt g0_steps f1 u1 u3.1 u3.2.1 u3.2.2.1 u3.2.2.2.1 u3.2.2.2.2)) [0, 1, 2, 3, 4] (by decide) rfl
    generalize H1 = H at hP hS ⊢
    have hPc := hP.sub (ws' := ([] : va_W)) [] rfl
    have hDc := hD.sub (ws' := ([] : va_W)) [] (by decide) rfl
    have hFc := va_free (wc := ([] : va_W)) hD hS hA [] rfl
    refine va_calli (va_runS (As := [.int r4]) (rest := []) ⟨hx, hb, hml, hown, hts⟩ (ctX11_orNone l dC dI cyI cyB cyJ cyZ _ r4 _ hw) (va_cwS 1 hts gX11_least_X11_orNone rfl rfl rfl (by decide +kernel) ⟨Nat.le_of_ble_eq_true rfl, Nat.le_of_ble_eq_true rfl⟩) ⟨wPre_blind, fun U hU hW => wPre_of hPc hK hDc hN hU hW⟩ rfl rfl hl.1 rfl (lv_room (Nat.le_of_ble_eq_true rfl)) dX11_least_44 ⟨(Nat.zero_le _), (Nat.zero_le _)⟩) hS (fun q _ h => hFc q h) hFc (fun r6 u5 t H1 locs ht hvm hw hB hz1 hk1 hS => ?_)
    obtain ⟨hP1, hK1, hD1⟩ := hB
    rw [ht] at hP1
    obtain ⟨hP, hD⟩ := va_join (wr := pickW (ceX11_least cyI cyB cyJ cyZ a0 a1 a2 a3 a4 b0_image b0_before b0_taken b0_tape b0_five b0_walk b0_ends b0_manX b0_manY b0_dogX b0_dogY b0_row b0_round b0_farOne b0_leads b0_drags b0_from b0_near g0_hasImage g0_remembered g0_taped g0_point g0_end g0_begin g0_deep g0_faultAt g0_steps f1 u1 u3.1 u3.2.1 u3.2.2.1 u3.2.2.2.1 u3.2.2.2.2) [0, 1, 2, 3, 4]) (w1 := ([] : va_W)) hP hD [] [0, 1, 2, 3, 4] rfl rfl (by decide) (by decide) hk1 hFc hP1 hD1
    have hP := hP.sub (ws' := (ceX11_least cyI cyB cyJ cyZ a0 a1 a2 a3 a4 b0_image b0_before b0_taken b0_tape b0_five b0_walk b0_ends b0_manX b0_manY b0_dogX b0_dogY b0_row b0_round b0_farOne b0_leads b0_drags b0_from b0_near g0_hasImage g0_remembered g0_taped g0_point g0_end g0_begin g0_deep g0_faultAt g0_steps f1 u1 u3.1 u3.2.1 u3.2.2.1 u3.2.2.2.1 u3.2.2.2.2)) [0, 1, 2, 3, 4] rfl
    have hD := hD.sub (ws' := (ceX11_least cyI cyB cyJ cyZ a0 a1 a2 a3 a4 b0_image b0_before b0_taken b0_tape b0_five b0_walk b0_ends b0_manX b0_manY b0_dogX b0_dogY b0_row b0_round b0_farOne b0_leads b0_drags b0_from b0_near g0_hasImage g0_remembered g0_taped g0_point g0_end g0_begin g0_deep g0_faultAt g0_steps f1 u1 u3.1 u3.2.1 u3.2.2.1 u3.2.2.2.1 u3.2.2.2.2)) [0, 1, 2, 3, 4] (by decide) rfl
    generalize H1 = H at hP hS ⊢
    rw [hQ]
    exact W.iret (v := r6) hx hb hr (fun t ht hW => ⟨⟨r6, (u1, u3.1, u3.2.1, u3.2.2.1, u3.2.2.2.1, u3.2.2.2.2), rfl, hw, by rw [ht]; exact hP, va_K.moved hW.alike hK, hD⟩, hS.F ht⟩) hS.2.2 dX11_least_47
  · have hw := hw.2 hc
    refine lv_iconst (v := 0) hx hb dX11_least_34 (by decide) ?_
    refine lv_goto (tgt := 47) hx hb dX11_least_35 (by decide) ?_
    rw [hQ]
    exact W.iret (v := 0) hx hb hr (fun t ht hW => ⟨⟨0, (u1, g0_men, g0_dogs, f2, f3, f4), rfl, hw, by rw [ht]; exact hP, va_K.moved hW.alike hK, hD⟩, hS.F ht⟩) hS.2.2 dX11_least_47
set_option maxRecDepth 100000 in
set_option maxHeartbeats 4000000 in
theorem bX11_least_22 {p : Program} {l : Launch} {e : Env} {s : State} {m : MethodId} {args : Array Value} {below : List Frame} {meth : Method} {c : Code} {dC : Nat → ClassId} {dI : Nat → Nat → Nat} {cyI cyB cyJ cyZ : ClassId} {A : Nat → Prop} {a0 a1 a2 a3 a4 b0_image b0_before b0_taken b0_tape b0_five b0_walk b0_ends b0_manX b0_manY b0_dogX b0_dogY b0_row b0_round b0_farOne b0_leads b0_drags b0_from b0_near : Nat} {g0_hasImage : Int32} {g0_remembered : Int32} {g0_taped : Int32} {g0_point : Int32} {g0_end : Int32} {g0_begin : Int32} {g0_deep : Int32} {g0_faultAt : Int32} {g0_steps : Int32} (C0 : cxM p s m meth c args wsX11_least RX11 cX11_least 3 (some .int)) (hK : va_K (dC, dI) vwCl (tyA cyI cyB cyJ cyZ) s) (hN : nwA s) (hA : ∀ q : Nat, s.heap.size ≤ q → A q) {post : Int32 → (Int32 × Int32 × Int32 × (Nat → Int32) × (Nat → Int32) × (Nat → Int32)) → Prop} {f1 : Nat → Int32} {Q : State → Prop} (hQ : Q = MQ below (va_Qi post (fun u : Int32 × Int32 × Int32 × (Nat → Int32) × (Nat → Int32) × (Nat → Int32) => wAt dC dI cyI cyB cyJ cyZ A (ceX11_least cyI cyB cyJ cyZ a0 a1 a2 a3 a4 b0_image b0_before b0_taken b0_tape b0_five b0_walk b0_ends b0_manX b0_manY b0_dogX b0_dogY b0_row b0_round b0_farOne b0_leads b0_drags b0_from b0_near g0_hasImage g0_remembered g0_taped g0_point g0_end g0_begin g0_deep g0_faultAt g0_steps f1 u.1 u.2.1 u.2.2.1 u.2.2.2.1 u.2.2.2.2.1 u.2.2.2.2.2)) A) args s 0 0 A) : ∀ (g0_thrown : Int32) (g0_men : Int32) (g0_dogs : Int32) (f2 : Nat → Int32) (f3 : Nat → Int32) (f4 : Nat → Int32) (x1 : Int32) (x2 : Int32), wpX11_least_22 post f1 g0_thrown g0_men g0_dogs f2 f3 f4 x1 x2 → AtW p l e rmX11_least s m args below meth c dC dI A Q 3 0 0 (ceX11_least cyI cyB cyJ cyZ a0 a1 a2 a3 a4 b0_image b0_before b0_taken b0_tape b0_five b0_walk b0_ends b0_manX b0_manY b0_dogX b0_dogY b0_row b0_round b0_farOne b0_leads b0_drags b0_from b0_near g0_hasImage g0_remembered g0_taped g0_point g0_end g0_begin g0_deep g0_faultAt g0_steps f1 g0_thrown g0_men g0_dogs f2 f3 f4) [(0, .ref a0), (1, .int x1), (2, .int x2)] 22 [.ref a0] := by
  intro g0_thrown g0_men g0_dogs f2 f3 f4 x1 x2 hw H locs hP hD hS ls hl
  have C1 := C0
  obtain ⟨hx, hb, hr, hml, hown, hts, hlocks⟩ := C1
  refine lv_iconst (v := 1) hx hb dX11_least_22 (by decide) ?_
  refine lv_goto (tgt := 27) hx hb dX11_least_23 (by decide) ?_
  exact bX11_least_27 C0 hK hN hA hQ g0_thrown g0_men g0_dogs f2 f3 f4 x1 x2 1 hw _ _ hP hD hS ls (lv_sub hl [0, 1, 2] rfl)
set_option maxRecDepth 100000 in
set_option maxHeartbeats 4000000 in
theorem ctX11_least (l : Launch) (dC : Nat → ClassId) (dI : Nat → Nat → Nat) (cyI cyB cyJ cyZ : ClassId) (sz : Nat) (a0 a1 a2 a3 a4 b0_image b0_before b0_taken b0_tape b0_five b0_walk b0_ends b0_manX b0_manY b0_dogX b0_dogY b0_row b0_round b0_farOne b0_leads b0_drags b0_from b0_near : Nat) (g0_hasImage : Int32) (g0_remembered : Int32) (g0_taped : Int32) (g0_point : Int32) (g0_end : Int32) (g0_begin : Int32) (g0_deep : Int32) (g0_faultAt : Int32) (g0_steps : Int32) (f1 : Nat → Int32) (g0_thrown : Int32) (g0_men : Int32) (g0_dogs : Int32) (f2 : Nat → Int32) (f3 : Nat → Int32) (f4 : Nat → Int32) (p0 : Int32) (p1 : Int32) (post : Int32 → (Int32 × Int32 × Int32 × (Nat → Int32) × (Nat → Int32) × (Nat → Int32)) → Prop) (hw : wpX11_least post f1 g0_thrown g0_men g0_dogs f2 f3 f4 p0 p1) : Met l yX11_least wsX11_least rmX11_least (va_Pc [.ref a0, .int p0, .int p1] (wPre dC dI cyI cyB cyJ cyZ sz (ceX11_least cyI cyB cyJ cyZ a0 a1 a2 a3 a4 b0_image b0_before b0_taken b0_tape b0_five b0_walk b0_ends b0_manX b0_manY b0_dogX b0_dogY b0_row b0_round b0_farOne b0_leads b0_drags b0_from b0_near g0_hasImage g0_remembered g0_taped g0_point g0_end g0_begin g0_deep g0_faultAt g0_steps f1 g0_thrown g0_men g0_dogs f2 f3 f4))) (va_Qi post (fun u : Int32 × Int32 × Int32 × (Nat → Int32) × (Nat → Int32) × (Nat → Int32) => wAt dC dI cyI cyB cyJ cyZ (va_A (ceX11_least cyI cyB cyJ cyZ a0 a1 a2 a3 a4 b0_image b0_before b0_taken b0_tape b0_five b0_walk b0_ends b0_manX b0_manY b0_dogX b0_dogY b0_row b0_round b0_farOne b0_leads b0_drags b0_from b0_near g0_hasImage g0_remembered g0_taped g0_point g0_end g0_begin g0_deep g0_faultAt g0_steps f1 g0_thrown g0_men g0_dogs f2 f3 f4) sz) (ceX11_least cyI cyB cyJ cyZ a0 a1 a2 a3 a4 b0_image b0_before b0_taken b0_tape b0_five b0_walk b0_ends b0_manX b0_manY b0_dogX b0_dogY b0_row b0_round b0_farOne b0_leads b0_drags b0_from b0_near g0_hasImage g0_remembered g0_taped g0_point g0_end g0_begin g0_deep g0_faultAt g0_steps f1 u.1 u.2.1 u.2.2.1 u.2.2.2.1 u.2.2.2.2.1 u.2.2.2.2.2)) (va_A (ceX11_least cyI cyB cyJ cyZ a0 a1 a2 a3 a4 b0_image b0_before b0_taken b0_tape b0_five b0_walk b0_ends b0_manX b0_manY b0_dogX b0_dogY b0_row b0_round b0_farOne b0_leads b0_drags b0_from b0_near g0_hasImage g0_remembered g0_taped g0_point g0_end g0_begin g0_deep g0_faultAt g0_steps f1 g0_thrown g0_men g0_dogs f2 f3 f4) sz)) 0 0 (va_A (ceX11_least cyI cyB cyJ cyZ a0 a1 a2 a3 a4 b0_image b0_before b0_taken b0_tape b0_five b0_walk b0_ends b0_manX b0_manY b0_dogX b0_dogY b0_row b0_round b0_farOne b0_leads b0_drags b0_from b0_near g0_hasImage g0_remembered g0_taped g0_point g0_end g0_begin g0_deep g0_faultAt g0_steps f1 g0_thrown g0_men g0_dogs f2 f3 f4) sz) := by
  refine Met.ofW (cc := cX11_least) (maxL := 3) (ret := (some .int)) (by decide) rfl ?_
  intro p e s m args below meth c s₁ B hml hv
  obtain ⟨rfl, hsz, hP, hK, hD0, hN⟩ := hv
  have hx := B.exec
  have hb := B.bytes
  have hr := B.returns
  have hts := atoms_spec (ws := wsX11_least) B.pre
  have hown : s.vm.findClass RX11 = some m.cls := findClass_of_methodNamed B.named
  have hlocks := B.notSynchronized
  subst hsz
  have hD := hD0.self (sz := s.heap.size)
  generalize hAe : va_A (ceX11_least cyI cyB cyJ cyZ a0 a1 a2 a3 a4 b0_image b0_before b0_taken b0_tape b0_five b0_walk b0_ends b0_manX b0_manY b0_dogX b0_dogY b0_row b0_round b0_farOne b0_leads b0_drags b0_from b0_near g0_hasImage g0_remembered g0_taped g0_point g0_end g0_begin g0_deep g0_faultAt g0_steps f1 g0_thrown g0_men g0_dogs f2 f3 f4) s.heap.size = A at hD ⊢
  have hA : ∀ q : Nat, s.heap.size ≤ q → A q := fun q h => by rw [← hAe]; exact Or.inr h
  have hS : va_S A s.heap s.heap [] := va_S.rf
  have C0 : cxM p s m meth c _ wsX11_least RX11 cX11_least 3 (some .int) := ⟨hx, hb, hr, hml, hown, hts, hlocks⟩
  have hl := lv_entry ([.ref a0, .int p0, .int p1]) (n := 3) (Nat.le_of_ble_eq_true rfl)
  rw [lg_entry_eq]
  generalize (lg_sl ([.ref a0, .int p0, .int p1]) ++ List.replicate (3 - (lg_sl ([.ref a0, .int p0, .int p1])).length) Slot.unset).toArray = ls at hl ⊢
  have hl : lv_has ls 3 [(0, .ref a0), (1, .int p0), (2, .int p1)] := hl
  show W p l e rmX11_least s m _ below meth c _ _ _ _ _ _
  refine wq (fun Q hQ => ?_)
  refine lv_aload_n hx hb dX11_least_0 rfl (lv_at hl 0 rfl) ?_
  refine lv_iconst (v := 0) hx hb dX11_least_1 (by decide) ?_
  refine va_put (D := (dC, dI)) (ci := 11) (v := .int 0) (ty := .int) (C := RX11) (T := TX11) (N := 34) hx hb hts inX11_least_X11 tyX11 tyX11_ok nmX11 hown hK hP hD hS 0 rfl rfl 0 (by decide) (hts (.fieldLink RX11 3 "LeadParkModel" "thrown" "I") (List.mem_of_getElem? (i := 1) rfl)) (fun _ h9 => h9) rfl (by decide +kernel) rfl rfl (Nat.le_of_ble_eq_true rfl) dX11_least_2 (fun H locs hP hD hS => ?_)
  have hP : va_P (dC, dI) vwCl (ceX11_least cyI cyB cyJ cyZ a0 a1 a2 a3 a4 b0_image b0_before b0_taken b0_tape b0_five b0_walk b0_ends b0_manX b0_manY b0_dogX b0_dogY b0_row b0_round b0_farOne b0_leads b0_drags b0_from b0_near g0_hasImage g0_remembered g0_taped g0_point g0_end g0_begin g0_deep g0_faultAt g0_steps f1 0 g0_men g0_dogs f2 f3 f4) H := hP
  have hD : va_D A (ceX11_least cyI cyB cyJ cyZ a0 a1 a2 a3 a4 b0_image b0_before b0_taken b0_tape b0_five b0_walk b0_ends b0_manX b0_manY b0_dogX b0_dogY b0_row b0_round b0_farOne b0_leads b0_drags b0_from b0_near g0_hasImage g0_remembered g0_taped g0_point g0_end g0_begin g0_deep g0_faultAt g0_steps f1 0 g0_men g0_dogs f2 f3 f4) := hD
  refine lv_aload_n hx hb dX11_least_5 rfl (lv_at hl 0 rfl) ?_
  refine lv_aload_n hx hb dX11_least_6 rfl (lv_at hl 0 rfl) ?_
  refine lv_iload_n hx hb dX11_least_7 rfl (lv_at hl 1 rfl) ?_
  have hPc := hP.sub (ws' := (ceX11_noWay cyI cyB cyJ cyZ a0 a1 b0_image b0_before b0_taken b0_tape b0_five a2 a3 a4 b0_walk b0_ends b0_manX b0_manY b0_dogX b0_dogY b0_row b0_round b0_farOne b0_leads b0_drags b0_from b0_near 0 g0_hasImage g0_remembered g0_taped g0_point g0_end g0_begin g0_deep g0_faultAt g0_steps g0_men g0_dogs f1)) [0, 1] rfl
  have hDc := hD.sub (ws' := (ceX11_noWay cyI cyB cyJ cyZ a0 a1 b0_image b0_before b0_taken b0_tape b0_five a2 a3 a4 b0_walk b0_ends b0_manX b0_manY b0_dogX b0_dogY b0_row b0_round b0_farOne b0_leads b0_drags b0_from b0_near 0 g0_hasImage g0_remembered g0_taped g0_point g0_end g0_begin g0_deep g0_faultAt g0_steps g0_men g0_dogs f1)) [0, 1] (by decide) rfl
  have hFc := va_free (wc := (ceX11_noWay cyI cyB cyJ cyZ a0 a1 b0_image b0_before b0_taken b0_tape b0_five a2 a3 a4 b0_walk b0_ends b0_manX b0_manY b0_dogX b0_dogY b0_row b0_round b0_farOne b0_leads b0_drags b0_from b0_near 0 g0_hasImage g0_remembered g0_taped g0_point g0_end g0_begin g0_deep g0_faultAt g0_steps g0_men g0_dogs f1)) hD hS hA [0, 1] rfl
  refine va_calli (va_runV (As := [.int p0]) (rest := [.ref a0]) ⟨hx, hb, hml, hown, hts⟩ (ctX11_noWay l dC dI cyI cyB cyJ cyZ _ a0 a1 b0_image b0_before b0_taken b0_tape b0_five a2 a3 a4 b0_walk b0_ends b0_manX b0_manY b0_dogX b0_dogY b0_row b0_round b0_farOne b0_leads b0_drags b0_from b0_near 0 g0_hasImage g0_remembered g0_taped g0_point g0_end g0_begin g0_deep g0_faultAt g0_steps g0_men g0_dogs f1 p0 _ hw) (cwV 1 hts gX11_least_X11_noWay rfl rfl rfl (by decide +kernel) ⟨Nat.le_of_ble_eq_true rfl, Nat.le_of_ble_eq_true rfl⟩) ⟨wPre_blind, va_recv hK hPc (ci := 11) (q0 := 0) rfl rfl, fun U hU hW => wPre_of hPc hK hDc hN hU hW⟩ rfl rfl hl.1 rfl (lv_room (Nat.le_of_ble_eq_true rfl)) dX11_least_8 ⟨(Nat.zero_le _), (Nat.zero_le _)⟩) hS (fun q _ h => hFc q h) hFc (fun r2 u1 t H1 locs ht hvm hw hB hz1 hk1 hS => ?_)
  obtain ⟨hP1, hK1, hD1⟩ := hB
  rw [ht] at hP1
  obtain ⟨hP, hD⟩ := va_join (wr := pickW (ceX11_least cyI cyB cyJ cyZ a0 a1 a2 a3 a4 b0_image b0_before b0_taken b0_tape b0_five b0_walk b0_ends b0_manX b0_manY b0_dogX b0_dogY b0_row b0_round b0_farOne b0_leads b0_drags b0_from b0_near g0_hasImage g0_remembered g0_taped g0_point g0_end g0_begin g0_deep g0_faultAt g0_steps f1 0 g0_men g0_dogs f2 f3 f4) [2, 3, 4]) (w1 := (ceX11_noWay cyI cyB cyJ cyZ a0 a1 b0_image b0_before b0_taken b0_tape b0_five a2 a3 a4 b0_walk b0_ends b0_manX b0_manY b0_dogX b0_dogY b0_row b0_round b0_farOne b0_leads b0_drags b0_from b0_near 0 g0_hasImage g0_remembered g0_taped g0_point g0_end g0_begin g0_deep g0_faultAt g0_steps g0_men g0_dogs f1)) hP hD [0, 1] [2, 3, 4] rfl rfl (by decide) (by decide) hk1 hFc hP1 hD1
  have hP := hP.sub (ws' := (ceX11_least cyI cyB cyJ cyZ a0 a1 a2 a3 a4 b0_image b0_before b0_taken b0_tape b0_five b0_walk b0_ends b0_manX b0_manY b0_dogX b0_dogY b0_row b0_round b0_farOne b0_leads b0_drags b0_from b0_near g0_hasImage g0_remembered g0_taped g0_point g0_end g0_begin g0_deep g0_faultAt g0_steps f1 0 g0_men g0_dogs f2 f3 f4)) [3, 4, 0, 1, 2] rfl
  have hD := hD.sub (ws' := (ceX11_least cyI cyB cyJ cyZ a0 a1 a2 a3 a4 b0_image b0_before b0_taken b0_tape b0_five b0_walk b0_ends b0_manX b0_manY b0_dogX b0_dogY b0_row b0_round b0_farOne b0_leads b0_drags b0_from b0_near g0_hasImage g0_remembered g0_taped g0_point g0_end g0_begin g0_deep g0_faultAt g0_steps f1 0 g0_men g0_dogs f2 f3 f4)) [3, 4, 0, 1, 2] (by decide) rfl
  generalize H1 = H at hP hS ⊢
  refine lv_if_ne (tgt := 22) hx hb dX11_least_11 (by decide) (fun hc => ?_) (fun hc => ?_)
  · have hw := hw.1 hc
    exact bX11_least_22 C0 hK hN hA hQ 0 g0_men g0_dogs f2 f3 f4 p0 p1 hw _ _ hP hD hS ls (lv_sub hl [0, 1, 2] rfl)
  · have hw := hw.2 hc
    refine lv_aload_n hx hb dX11_least_14 rfl (lv_at hl 0 rfl) ?_
    refine lv_iload_n hx hb dX11_least_15 rfl (lv_at hl 2 rfl) ?_
    have hPc := hP.sub (ws' := (ceX11_noWay cyI cyB cyJ cyZ a0 a1 b0_image b0_before b0_taken b0_tape b0_five a2 a3 a4 b0_walk b0_ends b0_manX b0_manY b0_dogX b0_dogY b0_row b0_round b0_farOne b0_leads b0_drags b0_from b0_near 0 g0_hasImage g0_remembered g0_taped g0_point g0_end g0_begin g0_deep g0_faultAt g0_steps g0_men g0_dogs f1)) [0, 1] rfl
    have hDc := hD.sub (ws' := (ceX11_noWay cyI cyB cyJ cyZ a0 a1 b0_image b0_before b0_taken b0_tape b0_five a2 a3 a4 b0_walk b0_ends b0_manX b0_manY b0_dogX b0_dogY b0_row b0_round b0_farOne b0_leads b0_drags b0_from b0_near 0 g0_hasImage g0_remembered g0_taped g0_point g0_end g0_begin g0_deep g0_faultAt g0_steps g0_men g0_dogs f1)) [0, 1] (by decide) rfl
    have hFc := va_free (wc := (ceX11_noWay cyI cyB cyJ cyZ a0 a1 b0_image b0_before b0_taken b0_tape b0_five a2 a3 a4 b0_walk b0_ends b0_manX b0_manY b0_dogX b0_dogY b0_row b0_round b0_farOne b0_leads b0_drags b0_from b0_near 0 g0_hasImage g0_remembered g0_taped g0_point g0_end g0_begin g0_deep g0_faultAt g0_steps g0_men g0_dogs f1)) hD hS hA [0, 1] rfl
    refine va_calli (va_runV (As := [.int p1]) (rest := [.ref a0]) ⟨hx, hb, hml, hown, hts⟩ (ctX11_noWay l dC dI cyI cyB cyJ cyZ _ a0 a1 b0_image b0_before b0_taken b0_tape b0_five a2 a3 a4 b0_walk b0_ends b0_manX b0_manY b0_dogX b0_dogY b0_row b0_round b0_farOne b0_leads b0_drags b0_from b0_near 0 g0_hasImage g0_remembered g0_taped g0_point g0_end g0_begin g0_deep g0_faultAt g0_steps g0_men g0_dogs f1 p1 _ hw) (cwV 1 hts gX11_least_X11_noWay rfl rfl rfl (by decide +kernel) ⟨Nat.le_of_ble_eq_true rfl, Nat.le_of_ble_eq_true rfl⟩) ⟨wPre_blind, va_recv hK hPc (ci := 11) (q0 := 0) rfl rfl, fun U hU hW => wPre_of hPc hK hDc hN hU hW⟩ rfl rfl hl.1 rfl (lv_room (Nat.le_of_ble_eq_true rfl)) dX11_least_16 ⟨(Nat.zero_le _), (Nat.zero_le _)⟩) hS (fun q _ h => hFc q h) hFc (fun r4 u3 t H1 locs ht hvm hw hB hz1 hk1 hS => ?_)
    obtain ⟨hP1, hK1, hD1⟩ := hB
    rw [ht] at hP1
    obtain ⟨hP, hD⟩ := va_join (wr := pickW (ceX11_least cyI cyB cyJ cyZ a0 a1 a2 a3 a4 b0_image b0_before b0_taken b0_tape b0_five b0_walk b0_ends b0_manX b0_manY b0_dogX b0_dogY b0_row b0_round b0_farOne b0_leads b0_drags b0_from b0_near g0_hasImage g0_remembered g0_taped g0_point g0_end g0_begin g0_deep g0_faultAt g0_steps f1 0 g0_men g0_dogs f2 f3 f4) [2, 3, 4]) (w1 := (ceX11_noWay cyI cyB cyJ cyZ a0 a1 b0_image b0_before b0_taken b0_tape b0_five a2 a3 a4 b0_walk b0_ends b0_manX b0_manY b0_dogX b0_dogY b0_row b0_round b0_farOne b0_leads b0_drags b0_from b0_near 0 g0_hasImage g0_remembered g0_taped g0_point g0_end g0_begin g0_deep g0_faultAt g0_steps g0_men g0_dogs f1)) hP hD [0, 1] [2, 3, 4] rfl rfl (by decide) (by decide) hk1 hFc hP1 hD1
    have hP := hP.sub (ws' := (ceX11_least cyI cyB cyJ cyZ a0 a1 a2 a3 a4 b0_image b0_before b0_taken b0_tape b0_five b0_walk b0_ends b0_manX b0_manY b0_dogX b0_dogY b0_row b0_round b0_farOne b0_leads b0_drags b0_from b0_near g0_hasImage g0_remembered g0_taped g0_point g0_end g0_begin g0_deep g0_faultAt g0_steps f1 0 g0_men g0_dogs f2 f3 f4)) [3, 4, 0, 1, 2] rfl
    have hD := hD.sub (ws' := (ceX11_least cyI cyB cyJ cyZ a0 a1 a2 a3 a4 b0_image b0_before b0_taken b0_tape b0_five b0_walk b0_ends b0_manX b0_manY b0_dogX b0_dogY b0_row b0_round b0_farOne b0_leads b0_drags b0_from b0_near g0_hasImage g0_remembered g0_taped g0_point g0_end g0_begin g0_deep g0_faultAt g0_steps f1 0 g0_men g0_dogs f2 f3 f4)) [3, 4, 0, 1, 2] (by decide) rfl
    generalize H1 = H at hP hS ⊢
    refine lv_if_eq (tgt := 26) hx hb dX11_least_19 (by decide) (fun hc => ?_) (fun hc => ?_)
    · have hw := hw.1 hc
      refine lv_iconst (v := 0) hx hb dX11_least_26 (by decide) ?_
      exact bX11_least_27 C0 hK hN hA hQ 0 g0_men g0_dogs f2 f3 f4 p0 p1 0 hw _ _ hP hD hS ls (lv_sub hl [0, 1, 2] rfl)
    · have hw := hw.2 hc
      exact bX11_least_22 C0 hK hN hA hQ 0 g0_men g0_dogs f2 f3 f4 p0 p1 hw _ _ hP hD hS ls (lv_sub hl [0, 1, 2] rfl)
/-! LeadParkModel.isEnding (II)Z -/
abbrev ceX11_isEnding (cyI cyB cyJ cyZ : ClassId) (a0 a1 b0_world b0_image b0_before b0_taken b0_tape b0_five b0_value b0_far b0_lead b0_walk b0_manX b0_manY b0_dogX b0_dogY b0_row b0_round b0_farOne b0_leads b0_drags b0_from b0_near : Nat) (g0_thrown : Int32) (g0_hasImage : Int32) (g0_remembered : Int32) (g0_taped : Int32) (g0_point : Int32) (g0_end : Int32) (g0_begin : Int32) (g0_deep : Int32) (g0_faultAt : Int32) (g0_steps : Int32) (g0_men : Int32) (g0_dogs : Int32) (f1 : Nat → Int32) : va_W := [(a0, .inr (11, [.int g0_thrown, .ref b0_world, .ref b0_image, .ref b0_before, .int g0_hasImage, .ref b0_taken, .int g0_remembered, .ref b0_tape, .int g0_taped, .int g0_point, .int g0_end, .int g0_begin, .int g0_deep, .int g0_faultAt, .ref b0_five, .int g0_steps, .ref b0_value, .ref b0_far, .int g0_men, .int g0_dogs, .ref b0_lead, .ref b0_walk, .ref a1, .ref b0_manX, .ref b0_manY, .ref b0_dogX, .ref b0_dogY, .ref b0_row, .ref b0_round, .ref b0_farOne, .ref b0_leads, .ref b0_drags, .ref b0_from, .ref b0_near])), (a1, .inl (cyZ, 900, .inl f1))]

theorem inX11_isEnding_X11 : ∀ w ∈ wsX110, w ∈ wsX11_isEnding := fun _ h => List.mem_cons_of_mem _ (List.mem_append_right _ h)
abbrev rmX11_isEnding : Room := { frames := 0, cells := 0, slots := 0, locals := 0 }
set_option maxRecDepth 100000 in
set_option maxHeartbeats 4000000 in
theorem ctX11_isEnding (l : Launch) (dC : Nat → ClassId) (dI : Nat → Nat → Nat) (cyI cyB cyJ cyZ : ClassId) (sz : Nat) (a0 a1 b0_world b0_image b0_before b0_taken b0_tape b0_five b0_value b0_far b0_lead b0_walk b0_manX b0_manY b0_dogX b0_dogY b0_row b0_round b0_farOne b0_leads b0_drags b0_from b0_near : Nat) (g0_thrown : Int32) (g0_hasImage : Int32) (g0_remembered : Int32) (g0_taped : Int32) (g0_point : Int32) (g0_end : Int32) (g0_begin : Int32) (g0_deep : Int32) (g0_faultAt : Int32) (g0_steps : Int32) (g0_men : Int32) (g0_dogs : Int32) (f1 : Nat → Int32) (p0 : Int32) (p1 : Int32) (post : Int32 → Unit → Prop) (hw : wpX11_isEnding post g0_men g0_dogs f1 p0 p1) : Met l yX11_isEnding wsX11_isEnding rmX11_isEnding (va_Pc [.ref a0, .int p0, .int p1] (wPre dC dI cyI cyB cyJ cyZ sz (ceX11_isEnding cyI cyB cyJ cyZ a0 a1 b0_world b0_image b0_before b0_taken b0_tape b0_five b0_value b0_far b0_lead b0_walk b0_manX b0_manY b0_dogX b0_dogY b0_row b0_round b0_farOne b0_leads b0_drags b0_from b0_near g0_thrown g0_hasImage g0_remembered g0_taped g0_point g0_end g0_begin g0_deep g0_faultAt g0_steps g0_men g0_dogs f1))) (va_Qi post (fun u : Unit => wAt dC dI cyI cyB cyJ cyZ (va_A (ceX11_isEnding cyI cyB cyJ cyZ a0 a1 b0_world b0_image b0_before b0_taken b0_tape b0_five b0_value b0_far b0_lead b0_walk b0_manX b0_manY b0_dogX b0_dogY b0_row b0_round b0_farOne b0_leads b0_drags b0_from b0_near g0_thrown g0_hasImage g0_remembered g0_taped g0_point g0_end g0_begin g0_deep g0_faultAt g0_steps g0_men g0_dogs f1) sz) (ceX11_isEnding cyI cyB cyJ cyZ a0 a1 b0_world b0_image b0_before b0_taken b0_tape b0_five b0_value b0_far b0_lead b0_walk b0_manX b0_manY b0_dogX b0_dogY b0_row b0_round b0_farOne b0_leads b0_drags b0_from b0_near g0_thrown g0_hasImage g0_remembered g0_taped g0_point g0_end g0_begin g0_deep g0_faultAt g0_steps g0_men g0_dogs f1)) (va_A (ceX11_isEnding cyI cyB cyJ cyZ a0 a1 b0_world b0_image b0_before b0_taken b0_tape b0_five b0_value b0_far b0_lead b0_walk b0_manX b0_manY b0_dogX b0_dogY b0_row b0_round b0_farOne b0_leads b0_drags b0_from b0_near g0_thrown g0_hasImage g0_remembered g0_taped g0_point g0_end g0_begin g0_deep g0_faultAt g0_steps g0_men g0_dogs f1) sz)) 0 0 (va_A (ceX11_isEnding cyI cyB cyJ cyZ a0 a1 b0_world b0_image b0_before b0_taken b0_tape b0_five b0_value b0_far b0_lead b0_walk b0_manX b0_manY b0_dogX b0_dogY b0_row b0_round b0_farOne b0_leads b0_drags b0_from b0_near g0_thrown g0_hasImage g0_remembered g0_taped g0_point g0_end g0_begin g0_deep g0_faultAt g0_steps g0_men g0_dogs f1) sz) := by
  refine Met.ofW (cc := cX11_isEnding) (maxL := 3) (ret := (some .boolean)) (by decide) rfl ?_
  intro p e s m args below meth c s₁ B hml hv
  obtain ⟨rfl, hsz, hP, hK, hD0, hN⟩ := hv
  have hx := B.exec
  have hb := B.bytes
  have hr := B.returns
  have hts := atoms_spec (ws := wsX11_isEnding) B.pre
  have hown : s.vm.findClass RX11 = some m.cls := findClass_of_methodNamed B.named
  have hlocks := B.notSynchronized
  subst hsz
  have hD := hD0.self (sz := s.heap.size)
  generalize hAe : va_A (ceX11_isEnding cyI cyB cyJ cyZ a0 a1 b0_world b0_image b0_before b0_taken b0_tape b0_five b0_value b0_far b0_lead b0_walk b0_manX b0_manY b0_dogX b0_dogY b0_row b0_round b0_farOne b0_leads b0_drags b0_from b0_near g0_thrown g0_hasImage g0_remembered g0_taped g0_point g0_end g0_begin g0_deep g0_faultAt g0_steps g0_men g0_dogs f1) s.heap.size = A at hD ⊢
  have hA : ∀ q : Nat, s.heap.size ≤ q → A q := fun q h => by rw [← hAe]; exact Or.inr h
  have hS : va_S A s.heap s.heap [] := va_S.rf
  have C0 : cxM p s m meth c _ wsX11_isEnding RX11 cX11_isEnding 3 (some .boolean) := ⟨hx, hb, hr, hml, hown, hts, hlocks⟩
  have hl := lv_entry ([.ref a0, .int p0, .int p1]) (n := 3) (Nat.le_of_ble_eq_true rfl)
  rw [lg_entry_eq]
  generalize (lg_sl ([.ref a0, .int p0, .int p1]) ++ List.replicate (3 - (lg_sl ([.ref a0, .int p0, .int p1])).length) Slot.unset).toArray = ls at hl ⊢
  have hl : lv_has ls 3 [(0, .ref a0), (1, .int p0), (2, .int p1)] := hl
  show W p l e rmX11_isEnding s m _ below meth c _ _ _ _ _ _
  refine wq (fun Q hQ => ?_)
  refine lv_iload_n hx hb dX11_isEnding_0 rfl (lv_at hl 1 rfl) ?_
  refine lv_aload_n hx hb dX11_isEnding_1 rfl (lv_at hl 0 rfl) ?_
  refine va_get (D := (dC, dI)) (ci := 11) (v := .int g0_men) (C := RX11) (T := TX11) (N := 34) hx hb hts inX11_isEnding_X11 hown hK hP 0 rfl rfl 18 (by decide) (hts (.fieldLink RX11 300 "LeadParkModel" "men" "I") (List.mem_of_getElem? (i := 1) rfl)) (fun _ h9 => h9) rfl dX11_isEnding_2 ?_
  refine lv_icmp_ge (tgt := 34) hx hb dX11_isEnding_5 (by decide) (fun hc => ?_) (fun hc => ?_)
  · have hw := hw.1 hc
    refine lv_iconst (v := 0) hx hb dX11_isEnding_34 (by decide) ?_
    rw [hQ]
    exact W.zret (v := 0) (ty := .boolean) hx hb hr rfl (fun t ht hW => ⟨⟨0, (), rfl, hw, by rw [ht]; exact hP, va_K.moved hW.alike hK, hD⟩, hS.F ht⟩) hS.2.2 dX11_isEnding_35
  · have hw := hw.2 hc
    refine lv_iload_n hx hb dX11_isEnding_8 rfl (lv_at hl 2 rfl) ?_
    refine lv_aload_n hx hb dX11_isEnding_9 rfl (lv_at hl 0 rfl) ?_
    refine va_get (D := (dC, dI)) (ci := 11) (v := .int g0_dogs) (C := RX11) (T := TX11) (N := 34) hx hb hts inX11_isEnding_X11 hown hK hP 0 rfl rfl 19 (by decide) (hts (.fieldLink RX11 303 "LeadParkModel" "dogs" "I") (List.mem_of_getElem? (i := 2) rfl)) (fun _ h9 => h9) rfl dX11_isEnding_10 ?_
    refine lv_icmp_ge (tgt := 34) hx hb dX11_isEnding_13 (by decide) (fun hc => ?_) (fun hc => ?_)
    · have hw := hw.1 hc
      refine lv_iconst (v := 0) hx hb dX11_isEnding_34 (by decide) ?_
      rw [hQ]
      exact W.zret (v := 0) (ty := .boolean) hx hb hr rfl (fun t ht hW => ⟨⟨0, (), rfl, hw, by rw [ht]; exact hP, va_K.moved hW.alike hK, hD⟩, hS.F ht⟩) hS.2.2 dX11_isEnding_35
    · have hw := hw.2 hc
      refine lv_aload_n hx hb dX11_isEnding_16 rfl (lv_at hl 0 rfl) ?_
      refine va_get (D := (dC, dI)) (ci := 11) (v := .ref a1) (C := RX11) (T := TX11) (N := 34) hx hb hts inX11_isEnding_X11 hown hK hP 0 rfl rfl 22 (by decide) (hts (.fieldLink RX11 48 "LeadParkModel" "ends" "[Z") (List.mem_of_getElem? (i := 3) rfl)) (fun _ h9 => h9) rfl dX11_isEnding_17 ?_
      refine lv_bipush (v := 30) hx hb dX11_isEnding_20 (by decide) ?_
      refine lv_iload_n hx hb dX11_isEnding_22 rfl (lv_at hl 1 rfl) ?_
      refine lv_imul hx hb dX11_isEnding_23 ?_
      refine lv_iload_n hx hb dX11_isEnding_24 rfl (lv_at hl 2 rfl) ?_
      refine lv_iadd hx hb dX11_isEnding_25 ?_
      obtain ⟨hi, hw⟩ := hw
      refine va_zald hx hb hK hP 1 3 rfl rfl hi dX11_isEnding_26 ?_
      refine lv_if_eq (tgt := 34) hx hb dX11_isEnding_27 (by decide) (fun hc => ?_) (fun hc => ?_)
      · have hw := hw.1 hc
        refine lv_iconst (v := 0) hx hb dX11_isEnding_34 (by decide) ?_
        rw [hQ]
        exact W.zret (v := 0) (ty := .boolean) hx hb hr rfl (fun t ht hW => ⟨⟨0, (), rfl, hw, by rw [ht]; exact hP, va_K.moved hW.alike hK, hD⟩, hS.F ht⟩) hS.2.2 dX11_isEnding_35
      · have hw := hw.2 hc
        refine lv_iconst (v := 1) hx hb dX11_isEnding_30 (by decide) ?_
        refine lv_goto (tgt := 35) hx hb dX11_isEnding_31 (by decide) ?_
        rw [hQ]
        exact W.zret (v := 1) (ty := .boolean) hx hb hr rfl (fun t ht hW => ⟨⟨1, (), rfl, hw, by rw [ht]; exact hP, va_K.moved hW.alike hK, hD⟩, hS.F ht⟩) hS.2.2 dX11_isEnding_35
/-! LeadParkModel.manBy (I)I -/

abbrev rmX11_manBy : Room := { frames := 0, cells := 0, slots := 0, locals := 0 }
set_option maxRecDepth 100000 in
set_option maxHeartbeats 4000000 in
theorem ctX11_manBy (l : Launch) (dC : Nat → ClassId) (dI : Nat → Nat → Nat) (cyI cyB cyJ cyZ : ClassId) (sz : Nat) (p0 : Int32) (post : Int32 → Unit → Prop) (hw : wpX11_manBy post p0) : Met l yX11_manBy wsX11_manBy rmX11_manBy (va_Pc [.int p0] (wPre dC dI cyI cyB cyJ cyZ sz ([] : va_W))) (va_Qi post (fun u : Unit => wAt dC dI cyI cyB cyJ cyZ (va_A ([] : va_W) sz) ([] : va_W)) (va_A ([] : va_W) sz)) 0 0 (va_A ([] : va_W) sz) := by
  refine Met.ofW (cc := cX11_manBy) (maxL := 1) (ret := (some .int)) (by decide) rfl ?_
  intro p e s m args below meth c s₁ B hml hv
  obtain ⟨rfl, hsz, hP, hK, hD0, hN⟩ := hv
  have hx := B.exec
  have hb := B.bytes
  have hr := B.returns
  have hts := atoms_spec (ws := wsX11_manBy) B.pre
  have hown : s.vm.findClass RX11 = some m.cls := findClass_of_methodNamed B.named
  have hlocks := B.notSynchronized
  subst hsz
  have hD := hD0.self (sz := s.heap.size)
  generalize hAe : va_A ([] : va_W) s.heap.size = A at hD ⊢
  have hA : ∀ q : Nat, s.heap.size ≤ q → A q := fun q h => by rw [← hAe]; exact Or.inr h
  have hS : va_S A s.heap s.heap [] := va_S.rf
  have C0 : cxM p s m meth c _ wsX11_manBy RX11 cX11_manBy 1 (some .int) := ⟨hx, hb, hr, hml, hown, hts, hlocks⟩
  have hl := lv_entry ([.int p0]) (n := 1) (Nat.le_of_ble_eq_true rfl)
  rw [lg_entry_eq]
  generalize (lg_sl ([.int p0]) ++ List.replicate (1 - (lg_sl ([.int p0])).length) Slot.unset).toArray = ls at hl ⊢
  have hl : lv_has ls 1 [(0, .int p0)] := hl
  show W p l e rmX11_manBy s m _ below meth c _ _ _ _ _ _
  refine wq (fun Q hQ => ?_)
  refine lv_iload_n hx hb dX11_manBy_0 rfl (lv_at hl 0 rfl) ?_
  refine lv_iconst (v := 2) hx hb dX11_manBy_1 (by decide) ?_
  refine lv_icmp_ne (tgt := 9) hx hb dX11_manBy_2 (by decide) (fun hc => ?_) (fun hc => ?_)
  · have hw := hw.1 hc
    refine lv_iconst (v := 1) hx hb dX11_manBy_9 (by decide) ?_
    rw [hQ]
    exact W.iret (v := 1) hx hb hr (fun t ht hW => ⟨⟨1, (), rfl, hw, by rw [ht]; exact hP, va_K.moved hW.alike hK, hD⟩, hS.F ht⟩) hS.2.2 dX11_manBy_10
  · have hw := hw.2 hc
    refine lv_iconst (v := 0) hx hb dX11_manBy_5 (by decide) ?_
    refine lv_goto (tgt := 10) hx hb dX11_manBy_6 (by decide) ?_
    rw [hQ]
    exact W.iret (v := 0) hx hb hr (fun t ht hW => ⟨⟨0, (), rfl, hw, by rw [ht]; exact hP, va_K.moved hW.alike hK, hD⟩, hS.F ht⟩) hS.2.2 dX11_manBy_10
/-! LeadParkModel.dogBy (I)I -/

abbrev rmX11_dogBy : Room := { frames := 0, cells := 0, slots := 0, locals := 0 }
set_option maxRecDepth 100000 in
set_option maxHeartbeats 4000000 in
theorem ctX11_dogBy (l : Launch) (dC : Nat → ClassId) (dI : Nat → Nat → Nat) (cyI cyB cyJ cyZ : ClassId) (sz : Nat) (p0 : Int32) (post : Int32 → Unit → Prop) (hw : wpX11_dogBy post p0) : Met l yX11_dogBy wsX11_dogBy rmX11_dogBy (va_Pc [.int p0] (wPre dC dI cyI cyB cyJ cyZ sz ([] : va_W))) (va_Qi post (fun u : Unit => wAt dC dI cyI cyB cyJ cyZ (va_A ([] : va_W) sz) ([] : va_W)) (va_A ([] : va_W) sz)) 0 0 (va_A ([] : va_W) sz) := by
  refine Met.ofW (cc := cX11_dogBy) (maxL := 1) (ret := (some .int)) (by decide) rfl ?_
  intro p e s m args below meth c s₁ B hml hv
  obtain ⟨rfl, hsz, hP, hK, hD0, hN⟩ := hv
  have hx := B.exec
  have hb := B.bytes
  have hr := B.returns
  have hts := atoms_spec (ws := wsX11_dogBy) B.pre
  have hown : s.vm.findClass RX11 = some m.cls := findClass_of_methodNamed B.named
  have hlocks := B.notSynchronized
  subst hsz
  have hD := hD0.self (sz := s.heap.size)
  generalize hAe : va_A ([] : va_W) s.heap.size = A at hD ⊢
  have hA : ∀ q : Nat, s.heap.size ≤ q → A q := fun q h => by rw [← hAe]; exact Or.inr h
  have hS : va_S A s.heap s.heap [] := va_S.rf
  have C0 : cxM p s m meth c _ wsX11_dogBy RX11 cX11_dogBy 1 (some .int) := ⟨hx, hb, hr, hml, hown, hts, hlocks⟩
  have hl := lv_entry ([.int p0]) (n := 1) (Nat.le_of_ble_eq_true rfl)
  rw [lg_entry_eq]
  generalize (lg_sl ([.int p0]) ++ List.replicate (1 - (lg_sl ([.int p0])).length) Slot.unset).toArray = ls at hl ⊢
  have hl : lv_has ls 1 [(0, .int p0)] := hl
  show W p l e rmX11_dogBy s m _ below meth c _ _ _ _ _ _
  refine wq (fun Q hQ => ?_)
  refine lv_iload_n hx hb dX11_dogBy_0 rfl (lv_at hl 0 rfl) ?_
  refine lv_iconst (v := 1) hx hb dX11_dogBy_1 (by decide) ?_
  refine lv_icmp_ne (tgt := 9) hx hb dX11_dogBy_2 (by decide) (fun hc => ?_) (fun hc => ?_)
  · have hw := hw.1 hc
    refine lv_iconst (v := 1) hx hb dX11_dogBy_9 (by decide) ?_
    rw [hQ]
    exact W.iret (v := 1) hx hb hr (fun t ht hW => ⟨⟨1, (), rfl, hw, by rw [ht]; exact hP, va_K.moved hW.alike hK, hD⟩, hS.F ht⟩) hS.2.2 dX11_dogBy_10
  · have hw := hw.2 hc
    refine lv_iconst (v := 0) hx hb dX11_dogBy_5 (by decide) ?_
    refine lv_goto (tgt := 10) hx hb dX11_dogBy_6 (by decide) ?_
    rw [hQ]
    exact W.iret (v := 0) hx hb hr (fun t ht hW => ⟨⟨0, (), rfl, hw, by rw [ht]; exact hP, va_K.moved hW.alike hK, hD⟩, hS.F ht⟩) hS.2.2 dX11_dogBy_10
/-! LeadParkModel.firstWalk (II)I -/
abbrev ceX11_firstWalk (cyI cyB cyJ cyZ : ClassId) (a0 a1 a2 a3 a4 a5 a6 b0_image b0_before b0_taken b0_tape b0_five b0_manX b0_manY b0_dogX b0_dogY b0_row b0_round b0_farOne b0_leads b0_drags b0_from b0_near : Nat) (g0_thrown : Int32) (g0_hasImage : Int32) (g0_remembered : Int32) (g0_taped : Int32) (g0_point : Int32) (g0_end : Int32) (g0_begin : Int32) (g0_deep : Int32) (g0_faultAt : Int32) (g0_steps : Int32) (f1 : Nat → Int32) (g0_men : Int32) (g0_dogs : Int32) (f2 : Nat → Int32) (f3 : Nat → Int32) (f4 : Nat → Int32) (f5 : Nat → Int32) (f6 : Nat → Int32) : va_W := [(a0, .inr (11, [.int g0_thrown, .ref a1, .ref b0_image, .ref b0_before, .int g0_hasImage, .ref b0_taken, .int g0_remembered, .ref b0_tape, .int g0_taped, .int g0_point, .int g0_end, .int g0_begin, .int g0_deep, .int g0_faultAt, .ref b0_five, .int g0_steps, .ref a2, .ref a3, .int g0_men, .int g0_dogs, .ref a4, .ref a6, .ref a5, .ref b0_manX, .ref b0_manY, .ref b0_dogX, .ref b0_dogY, .ref b0_row, .ref b0_round, .ref b0_farOne, .ref b0_leads, .ref b0_drags, .ref b0_from, .ref b0_near])), (a1, .inl (cyI, 2508, .inl f1)), (a2, .inl (cyI, 400, .inl f2)), (a3, .inl (cyI, 900, .inl f3)), (a4, .inl (cyI, 900, .inl f4)), (a5, .inl (cyZ, 900, .inl f5)), (a6, .inl (cyI, 60, .inl f6))]

theorem inX11_firstWalk_X11 : ∀ w ∈ wsX110, w ∈ wsX11_firstWalk := fun _ h => List.mem_cons_of_mem _ (List.mem_append_right _ h)
abbrev rmX11_firstWalk : Room := { frames := 7, cells := 0, slots := 0, locals := 188 }
set_option maxRecDepth 100000 in
set_option maxHeartbeats 4000000 in
theorem bX11_firstWalk_230 {p : Program} {l : Launch} {e : Env} {s : State} {m : MethodId} {args : Array Value} {below : List Frame} {meth : Method} {c : Code} {dC : Nat → ClassId} {dI : Nat → Nat → Nat} {cyI cyB cyJ cyZ : ClassId} {A : Nat → Prop} {a0 a1 a2 a3 a4 a5 a6 b0_image b0_before b0_taken b0_tape b0_five b0_manX b0_manY b0_dogX b0_dogY b0_row b0_round b0_farOne b0_leads b0_drags b0_from b0_near : Nat} {g0_thrown : Int32} {g0_hasImage : Int32} {g0_remembered : Int32} {g0_taped : Int32} {g0_point : Int32} {g0_end : Int32} {g0_begin : Int32} {g0_deep : Int32} {g0_faultAt : Int32} {g0_steps : Int32} (C0 : cxM p s m meth c args wsX11_firstWalk RX11 cX11_firstWalk 8 (some .int)) (hK : va_K (dC, dI) vwCl (tyA cyI cyB cyJ cyZ) s) (hN : nwA s) (hA : ∀ q : Nat, s.heap.size ≤ q → A q) {post : Int32 → (Int32 × Int32 × (Nat → Int32) × (Nat → Int32) × (Nat → Int32) × (Nat → Int32) × (Nat → Int32)) → Prop} {f1 : Nat → Int32} {k173 : Int32 → Int32 → (Nat → Int32) → (Nat → Int32) → (Nat → Int32) → (Nat → Int32) → (Nat → Int32) → Int32 → Int32 → Int32 → Prop} {Q : State → Prop} (hQ : Q = MQ below (va_Qi post (fun u : Int32 × Int32 × (Nat → Int32) × (Nat → Int32) × (Nat → Int32) × (Nat → Int32) × (Nat → Int32) => wAt dC dI cyI cyB cyJ cyZ A (ceX11_firstWalk cyI cyB cyJ cyZ a0 a1 a2 a3 a4 a5 a6 b0_image b0_before b0_taken b0_tape b0_five b0_manX b0_manY b0_dogX b0_dogY b0_row b0_round b0_farOne b0_leads b0_drags b0_from b0_near g0_thrown g0_hasImage g0_remembered g0_taped g0_point g0_end g0_begin g0_deep g0_faultAt g0_steps f1 u.1 u.2.1 u.2.2.1 u.2.2.2.1 u.2.2.2.2.1 u.2.2.2.2.2.1 u.2.2.2.2.2.2)) A) args s 0 0 A) (hk173 : ∀ (g0_men : Int32) (g0_dogs : Int32) (f2 : Nat → Int32) (f3 : Nat → Int32) (f4 : Nat → Int32) (f5 : Nat → Int32) (f6 : Nat → Int32) (x4 : Int32) (x5 : Int32) (x6 : Int32), k173 g0_men g0_dogs f2 f3 f4 f5 f6 x4 x5 x6 → AtW p l e rmX11_firstWalk s m args below meth c dC dI A Q 8 0 0 (ceX11_firstWalk cyI cyB cyJ cyZ a0 a1 a2 a3 a4 a5 a6 b0_image b0_before b0_taken b0_tape b0_five b0_manX b0_manY b0_dogX b0_dogY b0_row b0_round b0_farOne b0_leads b0_drags b0_from b0_near g0_thrown g0_hasImage g0_remembered g0_taped g0_point g0_end g0_begin g0_deep g0_faultAt g0_steps f1 g0_men g0_dogs f2 f3 f4 f5 f6) [(0, .ref a0), (4, .int x4), (5, .int x5), (6, .int x6)] 173 []) : ∀ (g0_men : Int32) (g0_dogs : Int32) (f2 : Nat → Int32) (f3 : Nat → Int32) (f4 : Nat → Int32) (f5 : Nat → Int32) (f6 : Nat → Int32) (x4 : Int32) (x5 : Int32) (x6 : Int32) (s0 : Int32), wpX11_firstWalk_230 k173 post f1 g0_men g0_dogs f2 f3 f4 f5 f6 x4 x5 x6 s0 → AtW p l e rmX11_firstWalk s m args below meth c dC dI A Q 8 0 0 (ceX11_firstWalk cyI cyB cyJ cyZ a0 a1 a2 a3 a4 a5 a6 b0_image b0_before b0_taken b0_tape b0_five b0_manX b0_manY b0_dogX b0_dogY b0_row b0_round b0_farOne b0_leads b0_drags b0_from b0_near g0_thrown g0_hasImage g0_remembered g0_taped g0_point g0_end g0_begin g0_deep g0_faultAt g0_steps f1 g0_men g0_dogs f2 f3 f4 f5 f6) [(0, .ref a0), (4, .int x4), (5, .int x5), (6, .int x6)] 230 [.int s0] := by
  intro g0_men g0_dogs f2 f3 f4 f5 f6 x4 x5 x6 s0 hw H locs hP hD hS ls hl
  have C1 := C0
  obtain ⟨hx, hb, hr, hml, hown, hts, hlocks⟩ := C1
  refine lv_istore (lv' := [(7, .int s0), (0, .ref a0), (4, .int x4), (5, .int x5), (6, .int x6)]) hx hb dX11_firstWalk_230 hl (by decide) rfl (fun ls hl => ?_)
  refine lv_aload_n hx hb dX11_firstWalk_232 rfl (lv_at hl 1 rfl) ?_
  refine va_get (D := (dC, dI)) (ci := 11) (v := .ref a6) (C := RX11) (T := TX11) (N := 34) hx hb hts inX11_firstWalk_X11 hown hK hP 0 rfl rfl 21 (by decide) (hts (.fieldLink RX11 45 "LeadParkModel" "walk" "[I") (List.mem_of_getElem? (i := 6) rfl)) (fun _ h9 => h9) rfl dX11_firstWalk_233 ?_
  refine lv_iload hx hb dX11_firstWalk_236 (lv_at hl 2 rfl) ?_
  refine lv_iload hx hb dX11_firstWalk_238 (lv_at hl 0 rfl) ?_
  obtain ⟨hi, hw⟩ := hw
  refine va_iast hx hb hK hP hD hS 6 0 rfl rfl hi dX11_firstWalk_240 (fun H locs hP hD hS => ?_)
  have hP : va_P (dC, dI) vwCl (ceX11_firstWalk cyI cyB cyJ cyZ a0 a1 a2 a3 a4 a5 a6 b0_image b0_before b0_taken b0_tape b0_five b0_manX b0_manY b0_dogX b0_dogY b0_row b0_round b0_farOne b0_leads b0_drags b0_from b0_near g0_thrown g0_hasImage g0_remembered g0_taped g0_point g0_end g0_begin g0_deep g0_faultAt g0_steps f1 g0_men g0_dogs f2 f3 f4 f5 (upd f6 x4.toNatClampNeg s0)) H := hP
  have hD : va_D A (ceX11_firstWalk cyI cyB cyJ cyZ a0 a1 a2 a3 a4 a5 a6 b0_image b0_before b0_taken b0_tape b0_five b0_manX b0_manY b0_dogX b0_dogY b0_row b0_round b0_farOne b0_leads b0_drags b0_from b0_near g0_thrown g0_hasImage g0_remembered g0_taped g0_point g0_end g0_begin g0_deep g0_faultAt g0_steps f1 g0_men g0_dogs f2 f3 f4 f5 (upd f6 x4.toNatClampNeg s0)) := hD
  refine lv_iload hx hb dX11_firstWalk_241 (lv_at hl 3 rfl) ?_
  refine lv_iload hx hb dX11_firstWalk_243 (lv_at hl 0 rfl) ?_
  have hPc := hP.sub (ws' := ([] : va_W)) [] rfl
  have hDc := hD.sub (ws' := ([] : va_W)) [] (by decide) rfl
  have hFc := va_free (wc := ([] : va_W)) hD hS hA [] rfl
  refine va_calli (va_runS (As := [.int s0]) (rest := [.int x5]) ⟨hx, hb, hml, hown, hts⟩ (ctX11_manBy l dC dI cyI cyB cyJ cyZ _ s0 _ hw) (va_cwS 1 hts gX11_firstWalk_X11_manBy rfl rfl rfl (by decide +kernel) ⟨Nat.le_of_ble_eq_true rfl, Nat.le_of_ble_eq_true rfl⟩) ⟨wPre_blind, fun U hU hW => wPre_of hPc hK hDc hN hU hW⟩ rfl rfl hl.1 rfl (lv_room (Nat.le_of_ble_eq_true rfl)) dX11_firstWalk_245 ⟨(Nat.zero_le _), (Nat.zero_le _)⟩) hS (fun q _ h => hFc q h) hFc (fun r2 u1 t H1 locs ht hvm hw hB hz1 hk1 hS => ?_)
  obtain ⟨hP1, hK1, hD1⟩ := hB
  rw [ht] at hP1
  obtain ⟨hP, hD⟩ := va_join (wr := pickW (ceX11_firstWalk cyI cyB cyJ cyZ a0 a1 a2 a3 a4 a5 a6 b0_image b0_before b0_taken b0_tape b0_five b0_manX b0_manY b0_dogX b0_dogY b0_row b0_round b0_farOne b0_leads b0_drags b0_from b0_near g0_thrown g0_hasImage g0_remembered g0_taped g0_point g0_end g0_begin g0_deep g0_faultAt g0_steps f1 g0_men g0_dogs f2 f3 f4 f5 (upd f6 x4.toNatClampNeg s0)) [0, 1, 2, 3, 4, 5, 6]) (w1 := ([] : va_W)) hP hD [] [0, 1, 2, 3, 4, 5, 6] rfl rfl (by decide) (by decide) hk1 hFc hP1 hD1
  have hP := hP.sub (ws' := (ceX11_firstWalk cyI cyB cyJ cyZ a0 a1 a2 a3 a4 a5 a6 b0_image b0_before b0_taken b0_tape b0_five b0_manX b0_manY b0_dogX b0_dogY b0_row b0_round b0_farOne b0_leads b0_drags b0_from b0_near g0_thrown g0_hasImage g0_remembered g0_taped g0_point g0_end g0_begin g0_deep g0_faultAt g0_steps f1 g0_men g0_dogs f2 f3 f4 f5 (upd f6 x4.toNatClampNeg s0))) [0, 1, 2, 3, 4, 5, 6] rfl
  have hD := hD.sub (ws' := (ceX11_firstWalk cyI cyB cyJ cyZ a0 a1 a2 a3 a4 a5 a6 b0_image b0_before b0_taken b0_tape b0_five b0_manX b0_manY b0_dogX b0_dogY b0_row b0_round b0_farOne b0_leads b0_drags b0_from b0_near g0_thrown g0_hasImage g0_remembered g0_taped g0_point g0_end g0_begin g0_deep g0_faultAt g0_steps f1 g0_men g0_dogs f2 f3 f4 f5 (upd f6 x4.toNatClampNeg s0))) [0, 1, 2, 3, 4, 5, 6] (by decide) rfl
  generalize H1 = H at hP hS ⊢
  refine lv_iadd hx hb dX11_firstWalk_248 ?_
  refine lv_topi (fun v3 ev3 => ?_)
  have hw := hw v3 ev3
  refine lv_istore (lv' := [(5, .int v3), (7, .int s0), (0, .ref a0), (4, .int x4), (6, .int x6)]) hx hb dX11_firstWalk_249 hl (by decide) rfl (fun ls hl => ?_)
  refine lv_iload hx hb dX11_firstWalk_251 (lv_at hl 4 rfl) ?_
  refine lv_iload hx hb dX11_firstWalk_253 (lv_at hl 1 rfl) ?_
  have hPc := hP.sub (ws' := ([] : va_W)) [] rfl
  have hDc := hD.sub (ws' := ([] : va_W)) [] (by decide) rfl
  have hFc := va_free (wc := ([] : va_W)) hD hS hA [] rfl
  refine va_calli (va_runS (As := [.int s0]) (rest := [.int x6]) ⟨hx, hb, hml, hown, hts⟩ (ctX11_dogBy l dC dI cyI cyB cyJ cyZ _ s0 _ hw) (va_cwS 1 hts gX11_firstWalk_X11_dogBy rfl rfl rfl (by decide +kernel) ⟨Nat.le_of_ble_eq_true rfl, Nat.le_of_ble_eq_true rfl⟩) ⟨wPre_blind, fun U hU hW => wPre_of hPc hK hDc hN hU hW⟩ rfl rfl hl.1 rfl (lv_room (Nat.le_of_ble_eq_true rfl)) dX11_firstWalk_255 ⟨(Nat.zero_le _), (Nat.zero_le _)⟩) hS (fun q _ h => hFc q h) hFc (fun r5 u4 t H1 locs ht hvm hw hB hz1 hk1 hS => ?_)
  obtain ⟨hP1, hK1, hD1⟩ := hB
  rw [ht] at hP1
  obtain ⟨hP, hD⟩ := va_join (wr := pickW (ceX11_firstWalk cyI cyB cyJ cyZ a0 a1 a2 a3 a4 a5 a6 b0_image b0_before b0_taken b0_tape b0_five b0_manX b0_manY b0_dogX b0_dogY b0_row b0_round b0_farOne b0_leads b0_drags b0_from b0_near g0_thrown g0_hasImage g0_remembered g0_taped g0_point g0_end g0_begin g0_deep g0_faultAt g0_steps f1 g0_men g0_dogs f2 f3 f4 f5 (upd f6 x4.toNatClampNeg s0)) [0, 1, 2, 3, 4, 5, 6]) (w1 := ([] : va_W)) hP hD [] [0, 1, 2, 3, 4, 5, 6] rfl rfl (by decide) (by decide) hk1 hFc hP1 hD1
  have hP := hP.sub (ws' := (ceX11_firstWalk cyI cyB cyJ cyZ a0 a1 a2 a3 a4 a5 a6 b0_image b0_before b0_taken b0_tape b0_five b0_manX b0_manY b0_dogX b0_dogY b0_row b0_round b0_farOne b0_leads b0_drags b0_from b0_near g0_thrown g0_hasImage g0_remembered g0_taped g0_point g0_end g0_begin g0_deep g0_faultAt g0_steps f1 g0_men g0_dogs f2 f3 f4 f5 (upd f6 x4.toNatClampNeg s0))) [0, 1, 2, 3, 4, 5, 6] rfl
  have hD := hD.sub (ws' := (ceX11_firstWalk cyI cyB cyJ cyZ a0 a1 a2 a3 a4 a5 a6 b0_image b0_before b0_taken b0_tape b0_five b0_manX b0_manY b0_dogX b0_dogY b0_row b0_round b0_farOne b0_leads b0_drags b0_from b0_near g0_thrown g0_hasImage g0_remembered g0_taped g0_point g0_end g0_begin g0_deep g0_faultAt g0_steps f1 g0_men g0_dogs f2 f3 f4 f5 (upd f6 x4.toNatClampNeg s0))) [0, 1, 2, 3, 4, 5, 6] (by decide) rfl
  generalize H1 = H at hP hS ⊢
  refine lv_iadd hx hb dX11_firstWalk_258 ?_
  refine lv_topi (fun v6 ev6 => ?_)
  have hw := hw v6 ev6
  refine lv_istore (lv' := [(6, .int v6), (5, .int v3), (7, .int s0), (0, .ref a0), (4, .int x4)]) hx hb dX11_firstWalk_259 hl (by decide) rfl (fun ls hl => ?_)
  obtain ⟨v7, ev7⟩ : ∃ y : Int32, y = x4 + 1 := ⟨_, rfl⟩
  have hw := hw v7 ev7
  refine lv_iinc (v := v7) (lv' := [(4, .int v7), (6, .int v6), (5, .int v3), (7, .int s0), (0, .ref a0)]) hx hb dX11_firstWalk_261 hl (k := 4) rfl (by rw [ev7]; rfl) (by decide) rfl (fun ls hl => ?_)
  refine lv_goto (tgt := 173) hx hb dX11_firstWalk_264 (by decide) ?_
  exact hk173 g0_men g0_dogs f2 f3 f4 f5 (upd f6 x4.toNatClampNeg s0) v7 v3 v6 hw H locs hP hD hS ls (lv_sub hl [4, 0, 2, 1] rfl)
set_option maxRecDepth 100000 in
set_option maxHeartbeats 4000000 in
theorem bX11_firstWalk_195 {p : Program} {l : Launch} {e : Env} {s : State} {m : MethodId} {args : Array Value} {below : List Frame} {meth : Method} {c : Code} {dC : Nat → ClassId} {dI : Nat → Nat → Nat} {cyI cyB cyJ cyZ : ClassId} {A : Nat → Prop} {a0 a1 a2 a3 a4 a5 a6 b0_image b0_before b0_taken b0_tape b0_five b0_manX b0_manY b0_dogX b0_dogY b0_row b0_round b0_farOne b0_leads b0_drags b0_from b0_near : Nat} {g0_thrown : Int32} {g0_hasImage : Int32} {g0_remembered : Int32} {g0_taped : Int32} {g0_point : Int32} {g0_end : Int32} {g0_begin : Int32} {g0_deep : Int32} {g0_faultAt : Int32} {g0_steps : Int32} (C0 : cxM p s m meth c args wsX11_firstWalk RX11 cX11_firstWalk 8 (some .int)) (hK : va_K (dC, dI) vwCl (tyA cyI cyB cyJ cyZ) s) (hN : nwA s) (hA : ∀ q : Nat, s.heap.size ≤ q → A q) {post : Int32 → (Int32 × Int32 × (Nat → Int32) × (Nat → Int32) × (Nat → Int32) × (Nat → Int32) × (Nat → Int32)) → Prop} {f1 : Nat → Int32} {k173 : Int32 → Int32 → (Nat → Int32) → (Nat → Int32) → (Nat → Int32) → (Nat → Int32) → (Nat → Int32) → Int32 → Int32 → Int32 → Prop} {Q : State → Prop} (hQ : Q = MQ below (va_Qi post (fun u : Int32 × Int32 × (Nat → Int32) × (Nat → Int32) × (Nat → Int32) × (Nat → Int32) × (Nat → Int32) => wAt dC dI cyI cyB cyJ cyZ A (ceX11_firstWalk cyI cyB cyJ cyZ a0 a1 a2 a3 a4 a5 a6 b0_image b0_before b0_taken b0_tape b0_five b0_manX b0_manY b0_dogX b0_dogY b0_row b0_round b0_farOne b0_leads b0_drags b0_from b0_near g0_thrown g0_hasImage g0_remembered g0_taped g0_point g0_end g0_begin g0_deep g0_faultAt g0_steps f1 u.1 u.2.1 u.2.2.1 u.2.2.2.1 u.2.2.2.2.1 u.2.2.2.2.2.1 u.2.2.2.2.2.2)) A) args s 0 0 A) (hk173 : ∀ (g0_men : Int32) (g0_dogs : Int32) (f2 : Nat → Int32) (f3 : Nat → Int32) (f4 : Nat → Int32) (f5 : Nat → Int32) (f6 : Nat → Int32) (x4 : Int32) (x5 : Int32) (x6 : Int32), k173 g0_men g0_dogs f2 f3 f4 f5 f6 x4 x5 x6 → AtW p l e rmX11_firstWalk s m args below meth c dC dI A Q 8 0 0 (ceX11_firstWalk cyI cyB cyJ cyZ a0 a1 a2 a3 a4 a5 a6 b0_image b0_before b0_taken b0_tape b0_five b0_manX b0_manY b0_dogX b0_dogY b0_row b0_round b0_farOne b0_leads b0_drags b0_from b0_near g0_thrown g0_hasImage g0_remembered g0_taped g0_point g0_end g0_begin g0_deep g0_faultAt g0_steps f1 g0_men g0_dogs f2 f3 f4 f5 f6) [(0, .ref a0), (4, .int x4), (5, .int x5), (6, .int x6)] 173 []) : ∀ (g0_men : Int32) (g0_dogs : Int32) (f2 : Nat → Int32) (f3 : Nat → Int32) (f4 : Nat → Int32) (f5 : Nat → Int32) (f6 : Nat → Int32) (x4 : Int32) (x5 : Int32) (x6 : Int32), wpX11_firstWalk_195 k173 post f1 g0_men g0_dogs f2 f3 f4 f5 f6 x4 x5 x6 → AtW p l e rmX11_firstWalk s m args below meth c dC dI A Q 8 0 0 (ceX11_firstWalk cyI cyB cyJ cyZ a0 a1 a2 a3 a4 a5 a6 b0_image b0_before b0_taken b0_tape b0_five b0_manX b0_manY b0_dogX b0_dogY b0_row b0_round b0_farOne b0_leads b0_drags b0_from b0_near g0_thrown g0_hasImage g0_remembered g0_taped g0_point g0_end g0_begin g0_deep g0_faultAt g0_steps f1 g0_men g0_dogs f2 f3 f4 f5 f6) [(0, .ref a0), (4, .int x4), (5, .int x5), (6, .int x6)] 195 [] := by
  intro g0_men g0_dogs f2 f3 f4 f5 f6 x4 x5 x6 hw H locs hP hD hS ls hl
  have C1 := C0
  obtain ⟨hx, hb, hr, hml, hown, hts, hlocks⟩ := C1
  refine lv_aload_n hx hb dX11_firstWalk_195 rfl (lv_at hl 0 rfl) ?_
  refine lv_iload hx hb dX11_firstWalk_196 (lv_at hl 2 rfl) ?_
  refine lv_iconst (v := 1) hx hb dX11_firstWalk_198 (by decide) ?_
  refine lv_iadd hx hb dX11_firstWalk_199 ?_
  refine lv_iload hx hb dX11_firstWalk_200 (lv_at hl 3 rfl) ?_
  have hPc := hP.sub (ws' := (ceX11_isEnding cyI cyB cyJ cyZ a0 a5 a1 b0_image b0_before b0_taken b0_tape b0_five a2 a3 a4 a6 b0_manX b0_manY b0_dogX b0_dogY b0_row b0_round b0_farOne b0_leads b0_drags b0_from b0_near g0_thrown g0_hasImage g0_remembered g0_taped g0_point g0_end g0_begin g0_deep g0_faultAt g0_steps g0_men g0_dogs f5)) [0, 5] rfl
  have hDc := hD.sub (ws' := (ceX11_isEnding cyI cyB cyJ cyZ a0 a5 a1 b0_image b0_before b0_taken b0_tape b0_five a2 a3 a4 a6 b0_manX b0_manY b0_dogX b0_dogY b0_row b0_round b0_farOne b0_leads b0_drags b0_from b0_near g0_thrown g0_hasImage g0_remembered g0_taped g0_point g0_end g0_begin g0_deep g0_faultAt g0_steps g0_men g0_dogs f5)) [0, 5] (by decide) rfl
  have hFc := va_free (wc := (ceX11_isEnding cyI cyB cyJ cyZ a0 a5 a1 b0_image b0_before b0_taken b0_tape b0_five a2 a3 a4 a6 b0_manX b0_manY b0_dogX b0_dogY b0_row b0_round b0_farOne b0_leads b0_drags b0_from b0_near g0_thrown g0_hasImage g0_remembered g0_taped g0_point g0_end g0_begin g0_deep g0_faultAt g0_steps g0_men g0_dogs f5)) hD hS hA [0, 5] rfl
  refine va_calli (va_runV (As := [.int (x5 + 1), .int x6]) (rest := []) ⟨hx, hb, hml, hown, hts⟩ (ctX11_isEnding l dC dI cyI cyB cyJ cyZ _ a0 a5 a1 b0_image b0_before b0_taken b0_tape b0_five a2 a3 a4 a6 b0_manX b0_manY b0_dogX b0_dogY b0_row b0_round b0_farOne b0_leads b0_drags b0_from b0_near g0_thrown g0_hasImage g0_remembered g0_taped g0_point g0_end g0_begin g0_deep g0_faultAt g0_steps g0_men g0_dogs f5 (x5 + 1) x6 _ hw) (cwV 2 hts gX11_firstWalk_X11_isEnding rfl rfl rfl (by decide +kernel) ⟨Nat.le_of_ble_eq_true rfl, Nat.le_of_ble_eq_true rfl⟩) ⟨wPre_blind, va_recv hK hPc (ci := 11) (q0 := 0) rfl rfl, fun U hU hW => wPre_of hPc hK hDc hN hU hW⟩ rfl rfl hl.1 rfl (lv_room (Nat.le_of_ble_eq_true rfl)) dX11_firstWalk_202 ⟨(Nat.zero_le _), (Nat.zero_le _)⟩) hS (fun q _ h => hFc q h) hFc (fun r2 u1 t H1 locs ht hvm hw hB hz1 hk1 hS => ?_)
  obtain ⟨hP1, hK1, hD1⟩ := hB
  rw [ht] at hP1
  obtain ⟨hP, hD⟩ := va_join (wr := pickW (ceX11_firstWalk cyI cyB cyJ cyZ a0 a1 a2 a3 a4 a5 a6 b0_image b0_before b0_taken b0_tape b0_five b0_manX b0_manY b0_dogX b0_dogY b0_row b0_round b0_farOne b0_leads b0_drags b0_from b0_near g0_thrown g0_hasImage g0_remembered g0_taped g0_point g0_end g0_begin g0_deep g0_faultAt g0_steps f1 g0_men g0_dogs f2 f3 f4 f5 f6) [1, 2, 3, 4, 6]) (w1 := (ceX11_isEnding cyI cyB cyJ cyZ a0 a5 a1 b0_image b0_before b0_taken b0_tape b0_five a2 a3 a4 a6 b0_manX b0_manY b0_dogX b0_dogY b0_row b0_round b0_farOne b0_leads b0_drags b0_from b0_near g0_thrown g0_hasImage g0_remembered g0_taped g0_point g0_end g0_begin g0_deep g0_faultAt g0_steps g0_men g0_dogs f5)) hP hD [0, 5] [1, 2, 3, 4, 6] rfl rfl (by decide) (by decide) hk1 hFc hP1 hD1
  have hP := hP.sub (ws' := (ceX11_firstWalk cyI cyB cyJ cyZ a0 a1 a2 a3 a4 a5 a6 b0_image b0_before b0_taken b0_tape b0_five b0_manX b0_manY b0_dogX b0_dogY b0_row b0_round b0_farOne b0_leads b0_drags b0_from b0_near g0_thrown g0_hasImage g0_remembered g0_taped g0_point g0_end g0_begin g0_deep g0_faultAt g0_steps f1 g0_men g0_dogs f2 f3 f4 f5 f6)) [5, 0, 1, 2, 3, 6, 4] rfl
  have hD := hD.sub (ws' := (ceX11_firstWalk cyI cyB cyJ cyZ a0 a1 a2 a3 a4 a5 a6 b0_image b0_before b0_taken b0_tape b0_five b0_manX b0_manY b0_dogX b0_dogY b0_row b0_round b0_farOne b0_leads b0_drags b0_from b0_near g0_thrown g0_hasImage g0_remembered g0_taped g0_point g0_end g0_begin g0_deep g0_faultAt g0_steps f1 g0_men g0_dogs f2 f3 f4 f5 f6)) [5, 0, 1, 2, 3, 6, 4] (by decide) rfl
  generalize H1 = H at hP hS ⊢
  refine lv_if_eq (tgt := 212) hx hb dX11_firstWalk_205 (by decide) (fun hc => ?_) (fun hc => ?_)
  · have hw := hw.1 hc
    refine lv_aload_n hx hb dX11_firstWalk_212 rfl (lv_at hl 0 rfl) ?_
    refine lv_iload hx hb dX11_firstWalk_213 (lv_at hl 2 rfl) ?_
    refine lv_iload hx hb dX11_firstWalk_215 (lv_at hl 3 rfl) ?_
    refine lv_iconst (v := 1) hx hb dX11_firstWalk_217 (by decide) ?_
    refine lv_iadd hx hb dX11_firstWalk_218 ?_
    have hPc := hP.sub (ws' := (ceX11_isEnding cyI cyB cyJ cyZ a0 a5 a1 b0_image b0_before b0_taken b0_tape b0_five a2 a3 a4 a6 b0_manX b0_manY b0_dogX b0_dogY b0_row b0_round b0_farOne b0_leads b0_drags b0_from b0_near g0_thrown g0_hasImage g0_remembered g0_taped g0_point g0_end g0_begin g0_deep g0_faultAt g0_steps g0_men g0_dogs f5)) [0, 5] rfl
    have hDc := hD.sub (ws' := (ceX11_isEnding cyI cyB cyJ cyZ a0 a5 a1 b0_image b0_before b0_taken b0_tape b0_five a2 a3 a4 a6 b0_manX b0_manY b0_dogX b0_dogY b0_row b0_round b0_farOne b0_leads b0_drags b0_from b0_near g0_thrown g0_hasImage g0_remembered g0_taped g0_point g0_end g0_begin g0_deep g0_faultAt g0_steps g0_men g0_dogs f5)) [0, 5] (by decide) rfl
    have hFc := va_free (wc := (ceX11_isEnding cyI cyB cyJ cyZ a0 a5 a1 b0_image b0_before b0_taken b0_tape b0_five a2 a3 a4 a6 b0_manX b0_manY b0_dogX b0_dogY b0_row b0_round b0_farOne b0_leads b0_drags b0_from b0_near g0_thrown g0_hasImage g0_remembered g0_taped g0_point g0_end g0_begin g0_deep g0_faultAt g0_steps g0_men g0_dogs f5)) hD hS hA [0, 5] rfl
    refine va_calli (va_runV (As := [.int x5, .int (x6 + 1)]) (rest := []) ⟨hx, hb, hml, hown, hts⟩ (ctX11_isEnding l dC dI cyI cyB cyJ cyZ _ a0 a5 a1 b0_image b0_before b0_taken b0_tape b0_five a2 a3 a4 a6 b0_manX b0_manY b0_dogX b0_dogY b0_row b0_round b0_farOne b0_leads b0_drags b0_from b0_near g0_thrown g0_hasImage g0_remembered g0_taped g0_point g0_end g0_begin g0_deep g0_faultAt g0_steps g0_men g0_dogs f5 x5 (x6 + 1) _ hw) (cwV 2 hts gX11_firstWalk_X11_isEnding rfl rfl rfl (by decide +kernel) ⟨Nat.le_of_ble_eq_true rfl, Nat.le_of_ble_eq_true rfl⟩) ⟨wPre_blind, va_recv hK hPc (ci := 11) (q0 := 0) rfl rfl, fun U hU hW => wPre_of hPc hK hDc hN hU hW⟩ rfl rfl hl.1 rfl (lv_room (Nat.le_of_ble_eq_true rfl)) dX11_firstWalk_219 ⟨(Nat.zero_le _), (Nat.zero_le _)⟩) hS (fun q _ h => hFc q h) hFc (fun r4 u3 t H1 locs ht hvm hw hB hz1 hk1 hS => ?_)
    obtain ⟨hP1, hK1, hD1⟩ := hB
    rw [ht] at hP1
    obtain ⟨hP, hD⟩ := va_join (wr := pickW (ceX11_firstWalk cyI cyB cyJ cyZ a0 a1 a2 a3 a4 a5 a6 b0_image b0_before b0_taken b0_tape b0_five b0_manX b0_manY b0_dogX b0_dogY b0_row b0_round b0_farOne b0_leads b0_drags b0_from b0_near g0_thrown g0_hasImage g0_remembered g0_taped g0_point g0_end g0_begin g0_deep g0_faultAt g0_steps f1 g0_men g0_dogs f2 f3 f4 f5 f6) [1, 2, 3, 4, 6]) (w1 := (ceX11_isEnding cyI cyB cyJ cyZ a0 a5 a1 b0_image b0_before b0_taken b0_tape b0_five a2 a3 a4 a6 b0_manX b0_manY b0_dogX b0_dogY b0_row b0_round b0_farOne b0_leads b0_drags b0_from b0_near g0_thrown g0_hasImage g0_remembered g0_taped g0_point g0_end g0_begin g0_deep g0_faultAt g0_steps g0_men g0_dogs f5)) hP hD [0, 5] [1, 2, 3, 4, 6] rfl rfl (by decide) (by decide) hk1 hFc hP1 hD1
    have hP := hP.sub (ws' := (ceX11_firstWalk cyI cyB cyJ cyZ a0 a1 a2 a3 a4 a5 a6 b0_image b0_before b0_taken b0_tape b0_five b0_manX b0_manY b0_dogX b0_dogY b0_row b0_round b0_farOne b0_leads b0_drags b0_from b0_near g0_thrown g0_hasImage g0_remembered g0_taped g0_point g0_end g0_begin g0_deep g0_faultAt g0_steps f1 g0_men g0_dogs f2 f3 f4 f5 f6)) [5, 0, 1, 2, 3, 6, 4] rfl
    have hD := hD.sub (ws' := (ceX11_firstWalk cyI cyB cyJ cyZ a0 a1 a2 a3 a4 a5 a6 b0_image b0_before b0_taken b0_tape b0_five b0_manX b0_manY b0_dogX b0_dogY b0_row b0_round b0_farOne b0_leads b0_drags b0_from b0_near g0_thrown g0_hasImage g0_remembered g0_taped g0_point g0_end g0_begin g0_deep g0_faultAt g0_steps f1 g0_men g0_dogs f2 f3 f4 f5 f6)) [5, 0, 1, 2, 3, 6, 4] (by decide) rfl
    generalize H1 = H at hP hS ⊢
    refine lv_if_eq (tgt := 229) hx hb dX11_firstWalk_222 (by decide) (fun hc => ?_) (fun hc => ?_)
    · have hw := hw.1 hc
      refine lv_iconst (v := 3) hx hb dX11_firstWalk_229 (by decide) ?_
      exact bX11_firstWalk_230 C0 hK hN hA hQ hk173 g0_men g0_dogs f2 f3 f4 f5 f6 x4 x5 x6 3 hw _ _ hP hD hS ls (lv_sub hl [0, 1, 2, 3] rfl)
    · have hw := hw.2 hc
      refine lv_iconst (v := 2) hx hb dX11_firstWalk_225 (by decide) ?_
      refine lv_goto (tgt := 230) hx hb dX11_firstWalk_226 (by decide) ?_
      exact bX11_firstWalk_230 C0 hK hN hA hQ hk173 g0_men g0_dogs f2 f3 f4 f5 f6 x4 x5 x6 2 hw _ _ hP hD hS ls (lv_sub hl [0, 1, 2, 3] rfl)
  · have hw := hw.2 hc
    refine lv_iconst (v := 1) hx hb dX11_firstWalk_208 (by decide) ?_
    refine lv_goto (tgt := 230) hx hb dX11_firstWalk_209 (by decide) ?_
    exact bX11_firstWalk_230 C0 hK hN hA hQ hk173 g0_men g0_dogs f2 f3 f4 f5 f6 x4 x5 x6 1 hw _ _ hP hD hS ls (lv_sub hl [0, 1, 2, 3] rfl)
set_option maxRecDepth 100000 in
set_option maxHeartbeats 4000000 in
theorem bX11_firstWalk_173 {p : Program} {l : Launch} {e : Env} {s : State} {m : MethodId} {args : Array Value} {below : List Frame} {meth : Method} {c : Code} {dC : Nat → ClassId} {dI : Nat → Nat → Nat} {cyI cyB cyJ cyZ : ClassId} {A : Nat → Prop} {a0 a1 a2 a3 a4 a5 a6 b0_image b0_before b0_taken b0_tape b0_five b0_manX b0_manY b0_dogX b0_dogY b0_row b0_round b0_farOne b0_leads b0_drags b0_from b0_near : Nat} {g0_thrown : Int32} {g0_hasImage : Int32} {g0_remembered : Int32} {g0_taped : Int32} {g0_point : Int32} {g0_end : Int32} {g0_begin : Int32} {g0_deep : Int32} {g0_faultAt : Int32} {g0_steps : Int32} (C0 : cxM p s m meth c args wsX11_firstWalk RX11 cX11_firstWalk 8 (some .int)) (hK : va_K (dC, dI) vwCl (tyA cyI cyB cyJ cyZ) s) (hN : nwA s) (hA : ∀ q : Nat, s.heap.size ≤ q → A q) {post : Int32 → (Int32 × Int32 × (Nat → Int32) × (Nat → Int32) × (Nat → Int32) × (Nat → Int32) × (Nat → Int32)) → Prop} {f1 : Nat → Int32} {Q : State → Prop} (hQ : Q = MQ below (va_Qi post (fun u : Int32 × Int32 × (Nat → Int32) × (Nat → Int32) × (Nat → Int32) × (Nat → Int32) × (Nat → Int32) => wAt dC dI cyI cyB cyJ cyZ A (ceX11_firstWalk cyI cyB cyJ cyZ a0 a1 a2 a3 a4 a5 a6 b0_image b0_before b0_taken b0_tape b0_five b0_manX b0_manY b0_dogX b0_dogY b0_row b0_round b0_farOne b0_leads b0_drags b0_from b0_near g0_thrown g0_hasImage g0_remembered g0_taped g0_point g0_end g0_begin g0_deep g0_faultAt g0_steps f1 u.1 u.2.1 u.2.2.1 u.2.2.2.1 u.2.2.2.2.1 u.2.2.2.2.2.1 u.2.2.2.2.2.2)) A) args s 0 0 A) : ∀ (n : Nat) (g0_men : Int32) (g0_dogs : Int32) (f2 : Nat → Int32) (f3 : Nat → Int32) (f4 : Nat → Int32) (f5 : Nat → Int32) (f6 : Nat → Int32) (x4 : Int32) (x5 : Int32) (x6 : Int32), wpX11_firstWalk_173 post f1 n g0_men g0_dogs f2 f3 f4 f5 f6 x4 x5 x6 → AtW p l e rmX11_firstWalk s m args below meth c dC dI A Q 8 0 0 (ceX11_firstWalk cyI cyB cyJ cyZ a0 a1 a2 a3 a4 a5 a6 b0_image b0_before b0_taken b0_tape b0_five b0_manX b0_manY b0_dogX b0_dogY b0_row b0_round b0_farOne b0_leads b0_drags b0_from b0_near g0_thrown g0_hasImage g0_remembered g0_taped g0_point g0_end g0_begin g0_deep g0_faultAt g0_steps f1 g0_men g0_dogs f2 f3 f4 f5 f6) [(0, .ref a0), (4, .int x4), (5, .int x5), (6, .int x6)] 173 [] := by
  intro n
  induction n with
  | zero => intro g0_men g0_dogs f2 f3 f4 f5 f6 x4 x5 x6 hw; exact False.elim hw
  | succ n ih =>
    intro g0_men g0_dogs f2 f3 f4 f5 f6 x4 x5 x6 hw H locs hP hD hS ls hl
    have C1 := C0
    obtain ⟨hx, hb, hr, hml, hown, hts, hlocks⟩ := C1
    refine lv_iload hx hb dX11_firstWalk_173 (lv_at hl 2 rfl) ?_
    refine lv_aload_n hx hb dX11_firstWalk_175 rfl (lv_at hl 0 rfl) ?_
    refine va_get (D := (dC, dI)) (ci := 11) (v := .int g0_men) (C := RX11) (T := TX11) (N := 34) hx hb hts inX11_firstWalk_X11 hown hK hP 0 rfl rfl 18 (by decide) (hts (.fieldLink RX11 300 "LeadParkModel" "men" "I") (List.mem_of_getElem? (i := 2) rfl)) (fun _ h9 => h9) rfl dX11_firstWalk_176 ?_
    refine lv_iconst (v := 1) hx hb dX11_firstWalk_179 (by decide) ?_
    refine lv_isub hx hb dX11_firstWalk_180 ?_
    refine lv_icmp_lt (tgt := 195) hx hb dX11_firstWalk_181 (by decide) (fun hc => ?_) (fun hc => ?_)
    · have hw := hw.1 hc
      exact bX11_firstWalk_195 C0 hK hN hA hQ ih g0_men g0_dogs f2 f3 f4 f5 f6 x4 x5 x6 hw _ _ hP hD hS ls (lv_sub hl [0, 1, 2, 3] rfl)
    · have hw := hw.2 hc
      refine lv_iload hx hb dX11_firstWalk_184 (lv_at hl 3 rfl) ?_
      refine lv_aload_n hx hb dX11_firstWalk_186 rfl (lv_at hl 0 rfl) ?_
      refine va_get (D := (dC, dI)) (ci := 11) (v := .int g0_dogs) (C := RX11) (T := TX11) (N := 34) hx hb hts inX11_firstWalk_X11 hown hK hP 0 rfl rfl 19 (by decide) (hts (.fieldLink RX11 303 "LeadParkModel" "dogs" "I") (List.mem_of_getElem? (i := 3) rfl)) (fun _ h9 => h9) rfl dX11_firstWalk_187 ?_
      refine lv_iconst (v := 1) hx hb dX11_firstWalk_190 (by decide) ?_
      refine lv_isub hx hb dX11_firstWalk_191 ?_
      refine lv_icmp_ge (tgt := 267) hx hb dX11_firstWalk_192 (by decide) (fun hc => ?_) (fun hc => ?_)
      · have hw := hw.1 hc
        refine lv_iload hx hb dX11_firstWalk_267 (lv_at hl 1 rfl) ?_
        rw [hQ]
        exact W.iret (v := x4) hx hb hr (fun t ht hW => ⟨⟨x4, (g0_men, g0_dogs, f2, f3, f4, f5, f6), rfl, hw, by rw [ht]; exact hP, va_K.moved hW.alike hK, hD⟩, hS.F ht⟩) hS.2.2 dX11_firstWalk_269
      · have hw := hw.2 hc
        exact bX11_firstWalk_195 C0 hK hN hA hQ ih g0_men g0_dogs f2 f3 f4 f5 f6 x4 x5 x6 hw _ _ hP hD hS ls (lv_sub hl [0, 1, 2, 3] rfl)
set_option maxRecDepth 100000 in
set_option maxHeartbeats 4000000 in
theorem bX11_firstWalk_151 {p : Program} {l : Launch} {e : Env} {s : State} {m : MethodId} {args : Array Value} {below : List Frame} {meth : Method} {c : Code} {dC : Nat → ClassId} {dI : Nat → Nat → Nat} {cyI cyB cyJ cyZ : ClassId} {A : Nat → Prop} {a0 a1 a2 a3 a4 a5 a6 b0_image b0_before b0_taken b0_tape b0_five b0_manX b0_manY b0_dogX b0_dogY b0_row b0_round b0_farOne b0_leads b0_drags b0_from b0_near : Nat} {g0_thrown : Int32} {g0_hasImage : Int32} {g0_remembered : Int32} {g0_taped : Int32} {g0_point : Int32} {g0_end : Int32} {g0_begin : Int32} {g0_deep : Int32} {g0_faultAt : Int32} {g0_steps : Int32} (C0 : cxM p s m meth c args wsX11_firstWalk RX11 cX11_firstWalk 8 (some .int)) (hK : va_K (dC, dI) vwCl (tyA cyI cyB cyJ cyZ) s) (hN : nwA s) (hA : ∀ q : Nat, s.heap.size ≤ q → A q) {post : Int32 → (Int32 × Int32 × (Nat → Int32) × (Nat → Int32) × (Nat → Int32) × (Nat → Int32) × (Nat → Int32)) → Prop} {f1 : Nat → Int32} {k37 : Int32 → Int32 → (Nat → Int32) → (Nat → Int32) → (Nat → Int32) → (Nat → Int32) → (Nat → Int32) → Int32 → Int32 → Int32 → Prop} {k24 : Int32 → Int32 → (Nat → Int32) → (Nat → Int32) → (Nat → Int32) → (Nat → Int32) → (Nat → Int32) → Int32 → Int32 → Prop} {Q : State → Prop} (hQ : Q = MQ below (va_Qi post (fun u : Int32 × Int32 × (Nat → Int32) × (Nat → Int32) × (Nat → Int32) × (Nat → Int32) × (Nat → Int32) => wAt dC dI cyI cyB cyJ cyZ A (ceX11_firstWalk cyI cyB cyJ cyZ a0 a1 a2 a3 a4 a5 a6 b0_image b0_before b0_taken b0_tape b0_five b0_manX b0_manY b0_dogX b0_dogY b0_row b0_round b0_farOne b0_leads b0_drags b0_from b0_near g0_thrown g0_hasImage g0_remembered g0_taped g0_point g0_end g0_begin g0_deep g0_faultAt g0_steps f1 u.1 u.2.1 u.2.2.1 u.2.2.2.1 u.2.2.2.2.1 u.2.2.2.2.2.1 u.2.2.2.2.2.2)) A) args s 0 0 A) (hk37 : ∀ (g0_men : Int32) (g0_dogs : Int32) (f2 : Nat → Int32) (f3 : Nat → Int32) (f4 : Nat → Int32) (f5 : Nat → Int32) (f6 : Nat → Int32) (x3 : Int32) (x4 : Int32) (x5 : Int32), k37 g0_men g0_dogs f2 f3 f4 f5 f6 x3 x4 x5 → AtW p l e rmX11_firstWalk s m args below meth c dC dI A Q 8 0 0 (ceX11_firstWalk cyI cyB cyJ cyZ a0 a1 a2 a3 a4 a5 a6 b0_image b0_before b0_taken b0_tape b0_five b0_manX b0_manY b0_dogX b0_dogY b0_row b0_round b0_farOne b0_leads b0_drags b0_from b0_near g0_thrown g0_hasImage g0_remembered g0_taped g0_point g0_end g0_begin g0_deep g0_faultAt g0_steps f1 g0_men g0_dogs f2 f3 f4 f5 f6) [(0, .ref a0), (3, .int x3), (4, .int x4), (5, .int x5)] 37 []) (hk24 : ∀ (g0_men : Int32) (g0_dogs : Int32) (f2 : Nat → Int32) (f3 : Nat → Int32) (f4 : Nat → Int32) (f5 : Nat → Int32) (f6 : Nat → Int32) (x3 : Int32) (x4 : Int32), k24 g0_men g0_dogs f2 f3 f4 f5 f6 x3 x4 → AtW p l e rmX11_firstWalk s m args below meth c dC dI A Q 8 0 0 (ceX11_firstWalk cyI cyB cyJ cyZ a0 a1 a2 a3 a4 a5 a6 b0_image b0_before b0_taken b0_tape b0_five b0_manX b0_manY b0_dogX b0_dogY b0_row b0_round b0_farOne b0_leads b0_drags b0_from b0_near g0_thrown g0_hasImage g0_remembered g0_taped g0_point g0_end g0_begin g0_deep g0_faultAt g0_steps f1 g0_men g0_dogs f2 f3 f4 f5 f6) [(0, .ref a0), (3, .int x3), (4, .int x4)] 24 []) : ∀ (g0_men : Int32) (g0_dogs : Int32) (f2 : Nat → Int32) (f3 : Nat → Int32) (f4 : Nat → Int32) (f5 : Nat → Int32) (f6 : Nat → Int32) (x3 : Int32) (x4 : Int32) (x5 : Int32) (s1 : Int32) (s2 : Int32), wpX11_firstWalk_151 k37 k24 post f1 g0_men g0_dogs f2 f3 f4 f5 f6 x3 x4 x5 s1 s2 → AtW p l e rmX11_firstWalk s m args below meth c dC dI A Q 8 0 0 (ceX11_firstWalk cyI cyB cyJ cyZ a0 a1 a2 a3 a4 a5 a6 b0_image b0_before b0_taken b0_tape b0_five b0_manX b0_manY b0_dogX b0_dogY b0_row b0_round b0_farOne b0_leads b0_drags b0_from b0_near g0_thrown g0_hasImage g0_remembered g0_taped g0_point g0_end g0_begin g0_deep g0_faultAt g0_steps f1 g0_men g0_dogs f2 f3 f4 f5 f6) [(0, .ref a0), (3, .int x3), (4, .int x4), (5, .int x5)] 151 [.int s2, .int s1, .ref a5] := by
  intro g0_men g0_dogs f2 f3 f4 f5 f6 x3 x4 x5 s1 s2 hw H locs hP hD hS ls hl
  have C1 := C0
  obtain ⟨hx, hb, hr, hml, hown, hts, hlocks⟩ := C1
  obtain ⟨hi, hw⟩ := hw
  refine va_zast hx hb hK hP hD hS 5 3 rfl rfl hi dX11_firstWalk_151 (fun H locs hP hD hS => ?_)
  have hP : va_P (dC, dI) vwCl (ceX11_firstWalk cyI cyB cyJ cyZ a0 a1 a2 a3 a4 a5 a6 b0_image b0_before b0_taken b0_tape b0_five b0_manX b0_manY b0_dogX b0_dogY b0_row b0_round b0_farOne b0_leads b0_drags b0_from b0_near g0_thrown g0_hasImage g0_remembered g0_taped g0_point g0_end g0_begin g0_deep g0_faultAt g0_steps f1 g0_men g0_dogs f2 f3 f4 (upd f5 s1.toNatClampNeg (vp_nar .boolean s2)) f6) H := hP
  have hD : va_D A (ceX11_firstWalk cyI cyB cyJ cyZ a0 a1 a2 a3 a4 a5 a6 b0_image b0_before b0_taken b0_tape b0_five b0_manX b0_manY b0_dogX b0_dogY b0_row b0_round b0_farOne b0_leads b0_drags b0_from b0_near g0_thrown g0_hasImage g0_remembered g0_taped g0_point g0_end g0_begin g0_deep g0_faultAt g0_steps f1 g0_men g0_dogs f2 f3 f4 (upd f5 s1.toNatClampNeg (vp_nar .boolean s2)) f6) := hD
  obtain ⟨v1, ev1⟩ : ∃ y : Int32, y = x5 + (-1) := ⟨_, rfl⟩
  have hw := hw v1 ev1
  refine lv_iinc (v := v1) (lv' := [(5, .int v1), (0, .ref a0), (3, .int x3), (4, .int x4)]) hx hb dX11_firstWalk_152 hl (k := 3) rfl (by rw [ev1]; rfl) (by decide) rfl (fun ls hl => ?_)
  refine lv_goto (tgt := 37) hx hb dX11_firstWalk_155 (by decide) ?_
  exact hk37 g0_men g0_dogs f2 f3 f4 (upd f5 s1.toNatClampNeg (vp_nar .boolean s2)) f6 x3 x4 v1 hw H locs hP hD hS ls (lv_sub hl [1, 2, 3, 0] rfl)
set_option maxRecDepth 100000 in
set_option maxHeartbeats 4000000 in
theorem bX11_firstWalk_150 {p : Program} {l : Launch} {e : Env} {s : State} {m : MethodId} {args : Array Value} {below : List Frame} {meth : Method} {c : Code} {dC : Nat → ClassId} {dI : Nat → Nat → Nat} {cyI cyB cyJ cyZ : ClassId} {A : Nat → Prop} {a0 a1 a2 a3 a4 a5 a6 b0_image b0_before b0_taken b0_tape b0_five b0_manX b0_manY b0_dogX b0_dogY b0_row b0_round b0_farOne b0_leads b0_drags b0_from b0_near : Nat} {g0_thrown : Int32} {g0_hasImage : Int32} {g0_remembered : Int32} {g0_taped : Int32} {g0_point : Int32} {g0_end : Int32} {g0_begin : Int32} {g0_deep : Int32} {g0_faultAt : Int32} {g0_steps : Int32} (C0 : cxM p s m meth c args wsX11_firstWalk RX11 cX11_firstWalk 8 (some .int)) (hK : va_K (dC, dI) vwCl (tyA cyI cyB cyJ cyZ) s) (hN : nwA s) (hA : ∀ q : Nat, s.heap.size ≤ q → A q) {post : Int32 → (Int32 × Int32 × (Nat → Int32) × (Nat → Int32) × (Nat → Int32) × (Nat → Int32) × (Nat → Int32)) → Prop} {f1 : Nat → Int32} {k37 : Int32 → Int32 → (Nat → Int32) → (Nat → Int32) → (Nat → Int32) → (Nat → Int32) → (Nat → Int32) → Int32 → Int32 → Int32 → Prop} {k24 : Int32 → Int32 → (Nat → Int32) → (Nat → Int32) → (Nat → Int32) → (Nat → Int32) → (Nat → Int32) → Int32 → Int32 → Prop} {Q : State → Prop} (hQ : Q = MQ below (va_Qi post (fun u : Int32 × Int32 × (Nat → Int32) × (Nat → Int32) × (Nat → Int32) × (Nat → Int32) × (Nat → Int32) => wAt dC dI cyI cyB cyJ cyZ A (ceX11_firstWalk cyI cyB cyJ cyZ a0 a1 a2 a3 a4 a5 a6 b0_image b0_before b0_taken b0_tape b0_five b0_manX b0_manY b0_dogX b0_dogY b0_row b0_round b0_farOne b0_leads b0_drags b0_from b0_near g0_thrown g0_hasImage g0_remembered g0_taped g0_point g0_end g0_begin g0_deep g0_faultAt g0_steps f1 u.1 u.2.1 u.2.2.1 u.2.2.2.1 u.2.2.2.2.1 u.2.2.2.2.2.1 u.2.2.2.2.2.2)) A) args s 0 0 A) (hk37 : ∀ (g0_men : Int32) (g0_dogs : Int32) (f2 : Nat → Int32) (f3 : Nat → Int32) (f4 : Nat → Int32) (f5 : Nat → Int32) (f6 : Nat → Int32) (x3 : Int32) (x4 : Int32) (x5 : Int32), k37 g0_men g0_dogs f2 f3 f4 f5 f6 x3 x4 x5 → AtW p l e rmX11_firstWalk s m args below meth c dC dI A Q 8 0 0 (ceX11_firstWalk cyI cyB cyJ cyZ a0 a1 a2 a3 a4 a5 a6 b0_image b0_before b0_taken b0_tape b0_five b0_manX b0_manY b0_dogX b0_dogY b0_row b0_round b0_farOne b0_leads b0_drags b0_from b0_near g0_thrown g0_hasImage g0_remembered g0_taped g0_point g0_end g0_begin g0_deep g0_faultAt g0_steps f1 g0_men g0_dogs f2 f3 f4 f5 f6) [(0, .ref a0), (3, .int x3), (4, .int x4), (5, .int x5)] 37 []) (hk24 : ∀ (g0_men : Int32) (g0_dogs : Int32) (f2 : Nat → Int32) (f3 : Nat → Int32) (f4 : Nat → Int32) (f5 : Nat → Int32) (f6 : Nat → Int32) (x3 : Int32) (x4 : Int32), k24 g0_men g0_dogs f2 f3 f4 f5 f6 x3 x4 → AtW p l e rmX11_firstWalk s m args below meth c dC dI A Q 8 0 0 (ceX11_firstWalk cyI cyB cyJ cyZ a0 a1 a2 a3 a4 a5 a6 b0_image b0_before b0_taken b0_tape b0_five b0_manX b0_manY b0_dogX b0_dogY b0_row b0_round b0_farOne b0_leads b0_drags b0_from b0_near g0_thrown g0_hasImage g0_remembered g0_taped g0_point g0_end g0_begin g0_deep g0_faultAt g0_steps f1 g0_men g0_dogs f2 f3 f4 f5 f6) [(0, .ref a0), (3, .int x3), (4, .int x4)] 24 []) : ∀ (g0_men : Int32) (g0_dogs : Int32) (f2 : Nat → Int32) (f3 : Nat → Int32) (f4 : Nat → Int32) (f5 : Nat → Int32) (f6 : Nat → Int32) (x3 : Int32) (x4 : Int32) (x5 : Int32) (s1 : Int32), wpX11_firstWalk_150 k37 k24 post f1 g0_men g0_dogs f2 f3 f4 f5 f6 x3 x4 x5 s1 → AtW p l e rmX11_firstWalk s m args below meth c dC dI A Q 8 0 0 (ceX11_firstWalk cyI cyB cyJ cyZ a0 a1 a2 a3 a4 a5 a6 b0_image b0_before b0_taken b0_tape b0_five b0_manX b0_manY b0_dogX b0_dogY b0_row b0_round b0_farOne b0_leads b0_drags b0_from b0_near g0_thrown g0_hasImage g0_remembered g0_taped g0_point g0_end g0_begin g0_deep g0_faultAt g0_steps f1 g0_men g0_dogs f2 f3 f4 f5 f6) [(0, .ref a0), (3, .int x3), (4, .int x4), (5, .int x5)] 150 [.int s1, .ref a5] := by
  intro g0_men g0_dogs f2 f3 f4 f5 f6 x3 x4 x5 s1 hw H locs hP hD hS ls hl
  have C1 := C0
  obtain ⟨hx, hb, hr, hml, hown, hts, hlocks⟩ := C1
  refine lv_iconst (v := 0) hx hb dX11_firstWalk_150 (by decide) ?_
  exact bX11_firstWalk_151 C0 hK hN hA hQ hk37 hk24 g0_men g0_dogs f2 f3 f4 f5 f6 x3 x4 x5 s1 0 hw _ _ hP hD hS ls (lv_sub hl [0, 1, 2, 3] rfl)
set_option maxRecDepth 100000 in
set_option maxHeartbeats 4000000 in
theorem bX11_firstWalk_146 {p : Program} {l : Launch} {e : Env} {s : State} {m : MethodId} {args : Array Value} {below : List Frame} {meth : Method} {c : Code} {dC : Nat → ClassId} {dI : Nat → Nat → Nat} {cyI cyB cyJ cyZ : ClassId} {A : Nat → Prop} {a0 a1 a2 a3 a4 a5 a6 b0_image b0_before b0_taken b0_tape b0_five b0_manX b0_manY b0_dogX b0_dogY b0_row b0_round b0_farOne b0_leads b0_drags b0_from b0_near : Nat} {g0_thrown : Int32} {g0_hasImage : Int32} {g0_remembered : Int32} {g0_taped : Int32} {g0_point : Int32} {g0_end : Int32} {g0_begin : Int32} {g0_deep : Int32} {g0_faultAt : Int32} {g0_steps : Int32} (C0 : cxM p s m meth c args wsX11_firstWalk RX11 cX11_firstWalk 8 (some .int)) (hK : va_K (dC, dI) vwCl (tyA cyI cyB cyJ cyZ) s) (hN : nwA s) (hA : ∀ q : Nat, s.heap.size ≤ q → A q) {post : Int32 → (Int32 × Int32 × (Nat → Int32) × (Nat → Int32) × (Nat → Int32) × (Nat → Int32) × (Nat → Int32)) → Prop} {f1 : Nat → Int32} {k37 : Int32 → Int32 → (Nat → Int32) → (Nat → Int32) → (Nat → Int32) → (Nat → Int32) → (Nat → Int32) → Int32 → Int32 → Int32 → Prop} {k24 : Int32 → Int32 → (Nat → Int32) → (Nat → Int32) → (Nat → Int32) → (Nat → Int32) → (Nat → Int32) → Int32 → Int32 → Prop} {Q : State → Prop} (hQ : Q = MQ below (va_Qi post (fun u : Int32 × Int32 × (Nat → Int32) × (Nat → Int32) × (Nat → Int32) × (Nat → Int32) × (Nat → Int32) => wAt dC dI cyI cyB cyJ cyZ A (ceX11_firstWalk cyI cyB cyJ cyZ a0 a1 a2 a3 a4 a5 a6 b0_image b0_before b0_taken b0_tape b0_five b0_manX b0_manY b0_dogX b0_dogY b0_row b0_round b0_farOne b0_leads b0_drags b0_from b0_near g0_thrown g0_hasImage g0_remembered g0_taped g0_point g0_end g0_begin g0_deep g0_faultAt g0_steps f1 u.1 u.2.1 u.2.2.1 u.2.2.2.1 u.2.2.2.2.1 u.2.2.2.2.2.1 u.2.2.2.2.2.2)) A) args s 0 0 A) (hk37 : ∀ (g0_men : Int32) (g0_dogs : Int32) (f2 : Nat → Int32) (f3 : Nat → Int32) (f4 : Nat → Int32) (f5 : Nat → Int32) (f6 : Nat → Int32) (x3 : Int32) (x4 : Int32) (x5 : Int32), k37 g0_men g0_dogs f2 f3 f4 f5 f6 x3 x4 x5 → AtW p l e rmX11_firstWalk s m args below meth c dC dI A Q 8 0 0 (ceX11_firstWalk cyI cyB cyJ cyZ a0 a1 a2 a3 a4 a5 a6 b0_image b0_before b0_taken b0_tape b0_five b0_manX b0_manY b0_dogX b0_dogY b0_row b0_round b0_farOne b0_leads b0_drags b0_from b0_near g0_thrown g0_hasImage g0_remembered g0_taped g0_point g0_end g0_begin g0_deep g0_faultAt g0_steps f1 g0_men g0_dogs f2 f3 f4 f5 f6) [(0, .ref a0), (3, .int x3), (4, .int x4), (5, .int x5)] 37 []) (hk24 : ∀ (g0_men : Int32) (g0_dogs : Int32) (f2 : Nat → Int32) (f3 : Nat → Int32) (f4 : Nat → Int32) (f5 : Nat → Int32) (f6 : Nat → Int32) (x3 : Int32) (x4 : Int32), k24 g0_men g0_dogs f2 f3 f4 f5 f6 x3 x4 → AtW p l e rmX11_firstWalk s m args below meth c dC dI A Q 8 0 0 (ceX11_firstWalk cyI cyB cyJ cyZ a0 a1 a2 a3 a4 a5 a6 b0_image b0_before b0_taken b0_tape b0_five b0_manX b0_manY b0_dogX b0_dogY b0_row b0_round b0_farOne b0_leads b0_drags b0_from b0_near g0_thrown g0_hasImage g0_remembered g0_taped g0_point g0_end g0_begin g0_deep g0_faultAt g0_steps f1 g0_men g0_dogs f2 f3 f4 f5 f6) [(0, .ref a0), (3, .int x3), (4, .int x4)] 24 []) : ∀ (g0_men : Int32) (g0_dogs : Int32) (f2 : Nat → Int32) (f3 : Nat → Int32) (f4 : Nat → Int32) (f5 : Nat → Int32) (f6 : Nat → Int32) (x3 : Int32) (x4 : Int32) (x5 : Int32) (s1 : Int32), wpX11_firstWalk_146 k37 k24 post f1 g0_men g0_dogs f2 f3 f4 f5 f6 x3 x4 x5 s1 → AtW p l e rmX11_firstWalk s m args below meth c dC dI A Q 8 0 0 (ceX11_firstWalk cyI cyB cyJ cyZ a0 a1 a2 a3 a4 a5 a6 b0_image b0_before b0_taken b0_tape b0_five b0_manX b0_manY b0_dogX b0_dogY b0_row b0_round b0_farOne b0_leads b0_drags b0_from b0_near g0_thrown g0_hasImage g0_remembered g0_taped g0_point g0_end g0_begin g0_deep g0_faultAt g0_steps f1 g0_men g0_dogs f2 f3 f4 f5 f6) [(0, .ref a0), (3, .int x3), (4, .int x4), (5, .int x5)] 146 [.int s1, .ref a5] := by
  intro g0_men g0_dogs f2 f3 f4 f5 f6 x3 x4 x5 s1 hw H locs hP hD hS ls hl
  have C1 := C0
  obtain ⟨hx, hb, hr, hml, hown, hts, hlocks⟩ := C1
  refine lv_iconst (v := 1) hx hb dX11_firstWalk_146 (by decide) ?_
  refine lv_goto (tgt := 151) hx hb dX11_firstWalk_147 (by decide) ?_
  exact bX11_firstWalk_151 C0 hK hN hA hQ hk37 hk24 g0_men g0_dogs f2 f3 f4 f5 f6 x3 x4 x5 s1 1 hw _ _ hP hD hS ls (lv_sub hl [0, 1, 2, 3] rfl)
set_option maxRecDepth 100000 in
set_option maxHeartbeats 4000000 in
theorem bX11_firstWalk_69 {p : Program} {l : Launch} {e : Env} {s : State} {m : MethodId} {args : Array Value} {below : List Frame} {meth : Method} {c : Code} {dC : Nat → ClassId} {dI : Nat → Nat → Nat} {cyI cyB cyJ cyZ : ClassId} {A : Nat → Prop} {a0 a1 a2 a3 a4 a5 a6 b0_image b0_before b0_taken b0_tape b0_five b0_manX b0_manY b0_dogX b0_dogY b0_row b0_round b0_farOne b0_leads b0_drags b0_from b0_near : Nat} {g0_thrown : Int32} {g0_hasImage : Int32} {g0_remembered : Int32} {g0_taped : Int32} {g0_point : Int32} {g0_end : Int32} {g0_begin : Int32} {g0_deep : Int32} {g0_faultAt : Int32} {g0_steps : Int32} (C0 : cxM p s m meth c args wsX11_firstWalk RX11 cX11_firstWalk 8 (some .int)) (hK : va_K (dC, dI) vwCl (tyA cyI cyB cyJ cyZ) s) (hN : nwA s) (hA : ∀ q : Nat, s.heap.size ≤ q → A q) {post : Int32 → (Int32 × Int32 × (Nat → Int32) × (Nat → Int32) × (Nat → Int32) × (Nat → Int32) × (Nat → Int32)) → Prop} {f1 : Nat → Int32} {k37 : Int32 → Int32 → (Nat → Int32) → (Nat → Int32) → (Nat → Int32) → (Nat → Int32) → (Nat → Int32) → Int32 → Int32 → Int32 → Prop} {k24 : Int32 → Int32 → (Nat → Int32) → (Nat → Int32) → (Nat → Int32) → (Nat → Int32) → (Nat → Int32) → Int32 → Int32 → Prop} {Q : State → Prop} (hQ : Q = MQ below (va_Qi post (fun u : Int32 × Int32 × (Nat → Int32) × (Nat → Int32) × (Nat → Int32) × (Nat → Int32) × (Nat → Int32) => wAt dC dI cyI cyB cyJ cyZ A (ceX11_firstWalk cyI cyB cyJ cyZ a0 a1 a2 a3 a4 a5 a6 b0_image b0_before b0_taken b0_tape b0_five b0_manX b0_manY b0_dogX b0_dogY b0_row b0_round b0_farOne b0_leads b0_drags b0_from b0_near g0_thrown g0_hasImage g0_remembered g0_taped g0_point g0_end g0_begin g0_deep g0_faultAt g0_steps f1 u.1 u.2.1 u.2.2.1 u.2.2.2.1 u.2.2.2.2.1 u.2.2.2.2.2.1 u.2.2.2.2.2.2)) A) args s 0 0 A) (hk37 : ∀ (g0_men : Int32) (g0_dogs : Int32) (f2 : Nat → Int32) (f3 : Nat → Int32) (f4 : Nat → Int32) (f5 : Nat → Int32) (f6 : Nat → Int32) (x3 : Int32) (x4 : Int32) (x5 : Int32), k37 g0_men g0_dogs f2 f3 f4 f5 f6 x3 x4 x5 → AtW p l e rmX11_firstWalk s m args below meth c dC dI A Q 8 0 0 (ceX11_firstWalk cyI cyB cyJ cyZ a0 a1 a2 a3 a4 a5 a6 b0_image b0_before b0_taken b0_tape b0_five b0_manX b0_manY b0_dogX b0_dogY b0_row b0_round b0_farOne b0_leads b0_drags b0_from b0_near g0_thrown g0_hasImage g0_remembered g0_taped g0_point g0_end g0_begin g0_deep g0_faultAt g0_steps f1 g0_men g0_dogs f2 f3 f4 f5 f6) [(0, .ref a0), (3, .int x3), (4, .int x4), (5, .int x5)] 37 []) (hk24 : ∀ (g0_men : Int32) (g0_dogs : Int32) (f2 : Nat → Int32) (f3 : Nat → Int32) (f4 : Nat → Int32) (f5 : Nat → Int32) (f6 : Nat → Int32) (x3 : Int32) (x4 : Int32), k24 g0_men g0_dogs f2 f3 f4 f5 f6 x3 x4 → AtW p l e rmX11_firstWalk s m args below meth c dC dI A Q 8 0 0 (ceX11_firstWalk cyI cyB cyJ cyZ a0 a1 a2 a3 a4 a5 a6 b0_image b0_before b0_taken b0_tape b0_five b0_manX b0_manY b0_dogX b0_dogY b0_row b0_round b0_farOne b0_leads b0_drags b0_from b0_near g0_thrown g0_hasImage g0_remembered g0_taped g0_point g0_end g0_begin g0_deep g0_faultAt g0_steps f1 g0_men g0_dogs f2 f3 f4 f5 f6) [(0, .ref a0), (3, .int x3), (4, .int x4)] 24 []) : ∀ (g0_men : Int32) (g0_dogs : Int32) (f2 : Nat → Int32) (f3 : Nat → Int32) (f4 : Nat → Int32) (f5 : Nat → Int32) (f6 : Nat → Int32) (x3 : Int32) (x4 : Int32) (x5 : Int32) (s0 : Int32), wpX11_firstWalk_69 k37 k24 post f1 g0_men g0_dogs f2 f3 f4 f5 f6 x3 x4 x5 s0 → AtW p l e rmX11_firstWalk s m args below meth c dC dI A Q 8 0 0 (ceX11_firstWalk cyI cyB cyJ cyZ a0 a1 a2 a3 a4 a5 a6 b0_image b0_before b0_taken b0_tape b0_five b0_manX b0_manY b0_dogX b0_dogY b0_row b0_round b0_farOne b0_leads b0_drags b0_from b0_near g0_thrown g0_hasImage g0_remembered g0_taped g0_point g0_end g0_begin g0_deep g0_faultAt g0_steps f1 g0_men g0_dogs f2 f3 f4 f5 f6) [(0, .ref a0), (3, .int x3), (4, .int x4), (5, .int x5)] 69 [.int s0] := by
  intro g0_men g0_dogs f2 f3 f4 f5 f6 x3 x4 x5 s0 hw H locs hP hD hS ls hl
  have C1 := C0
  obtain ⟨hx, hb, hr, hml, hown, hts, hlocks⟩ := C1
  refine lv_istore (lv' := [(6, .int s0), (0, .ref a0), (3, .int x3), (4, .int x4), (5, .int x5)]) hx hb dX11_firstWalk_69 hl (by decide) rfl (fun ls hl => ?_)
  refine lv_aload_n hx hb dX11_firstWalk_71 rfl (lv_at hl 1 rfl) ?_
  refine va_get (D := (dC, dI)) (ci := 11) (v := .ref a5) (C := RX11) (T := TX11) (N := 34) hx hb hts inX11_firstWalk_X11 hown hK hP 0 rfl rfl 22 (by decide) (hts (.fieldLink RX11 48 "LeadParkModel" "ends" "[Z") (List.mem_of_getElem? (i := 4) rfl)) (fun _ h9 => h9) rfl dX11_firstWalk_72 ?_
  refine lv_bipush (v := 30) hx hb dX11_firstWalk_75 (by decide) ?_
  refine lv_iload hx hb dX11_firstWalk_77 (lv_at hl 3 rfl) ?_
  refine lv_imul hx hb dX11_firstWalk_79 ?_
  refine lv_iload hx hb dX11_firstWalk_80 (lv_at hl 4 rfl) ?_
  refine lv_iadd hx hb dX11_firstWalk_82 ?_
  refine lv_aload_n hx hb dX11_firstWalk_83 rfl (lv_at hl 1 rfl) ?_
  refine va_get (D := (dC, dI)) (ci := 11) (v := .ref a3) (C := RX11) (T := TX11) (N := 34) hx hb hts inX11_firstWalk_X11 hown hK hP 0 rfl rfl 17 (by decide) (hts (.fieldLink RX11 39 "LeadParkModel" "far" "[I") (List.mem_of_getElem? (i := 5) rfl)) (fun _ h9 => h9) rfl dX11_firstWalk_84 ?_
  refine lv_bipush (v := 30) hx hb dX11_firstWalk_87 (by decide) ?_
  refine lv_iload hx hb dX11_firstWalk_89 (lv_at hl 3 rfl) ?_
  refine lv_imul hx hb dX11_firstWalk_91 ?_
  refine lv_iload hx hb dX11_firstWalk_92 (lv_at hl 4 rfl) ?_
  refine lv_iadd hx hb dX11_firstWalk_94 ?_
  obtain ⟨hi, hw⟩ := hw
  refine va_iald hx hb hK hP 3 0 rfl rfl hi dX11_firstWalk_95 ?_
  refine lv_iload_n hx hb dX11_firstWalk_96 rfl (lv_at hl 2 rfl) ?_
  refine lv_icmp_gt (tgt := 150) hx hb dX11_firstWalk_97 (by decide) (fun hc => ?_) (fun hc => ?_)
  · have hw := hw.1 hc
    exact bX11_firstWalk_150 C0 hK hN hA hQ hk37 hk24 g0_men g0_dogs f2 f3 f4 f5 f6 x3 x4 x5 ((30 * x4) + x5) hw _ _ hP hD hS ls (lv_sub hl [1, 2, 3, 4] rfl)
  · have hw := hw.2 hc
    refine lv_iload hx hb dX11_firstWalk_100 (lv_at hl 0 rfl) ?_
    refine lv_if_ne (tgt := 146) hx hb dX11_firstWalk_102 (by decide) (fun hc => ?_) (fun hc => ?_)
    · have hw := hw.1 hc
      exact bX11_firstWalk_146 C0 hK hN hA hQ hk37 hk24 g0_men g0_dogs f2 f3 f4 f5 f6 x3 x4 x5 ((30 * x4) + x5) hw _ _ hP hD hS ls (lv_sub hl [1, 2, 3, 4] rfl)
    · have hw := hw.2 hc
      refine lv_aload_n hx hb dX11_firstWalk_105 rfl (lv_at hl 1 rfl) ?_
      refine lv_iload hx hb dX11_firstWalk_106 (lv_at hl 3 rfl) ?_
      refine lv_iconst (v := 1) hx hb dX11_firstWalk_108 (by decide) ?_
      refine lv_iadd hx hb dX11_firstWalk_109 ?_
      refine lv_iload hx hb dX11_firstWalk_110 (lv_at hl 4 rfl) ?_
      have hPc := hP.sub (ws' := (ceX11_isEnding cyI cyB cyJ cyZ a0 a5 a1 b0_image b0_before b0_taken b0_tape b0_five a2 a3 a4 a6 b0_manX b0_manY b0_dogX b0_dogY b0_row b0_round b0_farOne b0_leads b0_drags b0_from b0_near g0_thrown g0_hasImage g0_remembered g0_taped g0_point g0_end g0_begin g0_deep g0_faultAt g0_steps g0_men g0_dogs f5)) [0, 5] rfl
      have hDc := hD.sub (ws' := (ceX11_isEnding cyI cyB cyJ cyZ a0 a5 a1 b0_image b0_before b0_taken b0_tape b0_five a2 a3 a4 a6 b0_manX b0_manY b0_dogX b0_dogY b0_row b0_round b0_farOne b0_leads b0_drags b0_from b0_near g0_thrown g0_hasImage g0_remembered g0_taped g0_point g0_end g0_begin g0_deep g0_faultAt g0_steps g0_men g0_dogs f5)) [0, 5] (by decide) rfl
      have hFc := va_free (wc := (ceX11_isEnding cyI cyB cyJ cyZ a0 a5 a1 b0_image b0_before b0_taken b0_tape b0_five a2 a3 a4 a6 b0_manX b0_manY b0_dogX b0_dogY b0_row b0_round b0_farOne b0_leads b0_drags b0_from b0_near g0_thrown g0_hasImage g0_remembered g0_taped g0_point g0_end g0_begin g0_deep g0_faultAt g0_steps g0_men g0_dogs f5)) hD hS hA [0, 5] rfl
      refine va_calli (va_runV (As := [.int (x4 + 1), .int x5]) (rest := [.int ((30 * x4) + x5), .ref a5]) ⟨hx, hb, hml, hown, hts⟩ (ctX11_isEnding l dC dI cyI cyB cyJ cyZ _ a0 a5 a1 b0_image b0_before b0_taken b0_tape b0_five a2 a3 a4 a6 b0_manX b0_manY b0_dogX b0_dogY b0_row b0_round b0_farOne b0_leads b0_drags b0_from b0_near g0_thrown g0_hasImage g0_remembered g0_taped g0_point g0_end g0_begin g0_deep g0_faultAt g0_steps g0_men g0_dogs f5 (x4 + 1) x5 _ hw) (cwV 2 hts gX11_firstWalk_X11_isEnding rfl rfl rfl (by decide +kernel) ⟨Nat.le_of_ble_eq_true rfl, Nat.le_of_ble_eq_true rfl⟩) ⟨wPre_blind, va_recv hK hPc (ci := 11) (q0 := 0) rfl rfl, fun U hU hW => wPre_of hPc hK hDc hN hU hW⟩ rfl rfl hl.1 rfl (lv_room (Nat.le_of_ble_eq_true rfl)) dX11_firstWalk_112 ⟨(Nat.zero_le _), (Nat.zero_le _)⟩) hS (fun q _ h => hFc q h) hFc (fun r2 u1 t H1 locs ht hvm hw hB hz1 hk1 hS => ?_)
      obtain ⟨hP1, hK1, hD1⟩ := hB
      rw [ht] at hP1
      obtain ⟨hP, hD⟩ := va_join (wr := pickW (ceX11_firstWalk cyI cyB cyJ cyZ a0 a1 a2 a3 a4 a5 a6 b0_image b0_before b0_taken b0_tape b0_five b0_manX b0_manY b0_dogX b0_dogY b0_row b0_round b0_farOne b0_leads b0_drags b0_from b0_near g0_thrown g0_hasImage g0_remembered g0_taped g0_point g0_end g0_begin g0_deep g0_faultAt g0_steps f1 g0_men g0_dogs f2 f3 f4 f5 f6) [1, 2, 3, 4, 6]) (w1 := (ceX11_isEnding cyI cyB cyJ cyZ a0 a5 a1 b0_image b0_before b0_taken b0_tape b0_five a2 a3 a4 a6 b0_manX b0_manY b0_dogX b0_dogY b0_row b0_round b0_farOne b0_leads b0_drags b0_from b0_near g0_thrown g0_hasImage g0_remembered g0_taped g0_point g0_end g0_begin g0_deep g0_faultAt g0_steps g0_men g0_dogs f5)) hP hD [0, 5] [1, 2, 3, 4, 6] rfl rfl (by decide) (by decide) hk1 hFc hP1 hD1
      have hP := hP.sub (ws' := (ceX11_firstWalk cyI cyB cyJ cyZ a0 a1 a2 a3 a4 a5 a6 b0_image b0_before b0_taken b0_tape b0_five b0_manX b0_manY b0_dogX b0_dogY b0_row b0_round b0_farOne b0_leads b0_drags b0_from b0_near g0_thrown g0_hasImage g0_remembered g0_taped g0_point g0_end g0_begin g0_deep g0_faultAt g0_steps f1 g0_men g0_dogs f2 f3 f4 f5 f6)) [5, 0, 1, 2, 3, 6, 4] rfl
      have hD := hD.sub (ws' := (ceX11_firstWalk cyI cyB cyJ cyZ a0 a1 a2 a3 a4 a5 a6 b0_image b0_before b0_taken b0_tape b0_five b0_manX b0_manY b0_dogX b0_dogY b0_row b0_round b0_farOne b0_leads b0_drags b0_from b0_near g0_thrown g0_hasImage g0_remembered g0_taped g0_point g0_end g0_begin g0_deep g0_faultAt g0_steps f1 g0_men g0_dogs f2 f3 f4 f5 f6)) [5, 0, 1, 2, 3, 6, 4] (by decide) rfl
      generalize H1 = H at hP hS ⊢
      refine lv_if_ne (tgt := 146) hx hb dX11_firstWalk_115 (by decide) (fun hc => ?_) (fun hc => ?_)
      · have hw := hw.1 hc
        exact bX11_firstWalk_146 C0 hK hN hA hQ hk37 hk24 g0_men g0_dogs f2 f3 f4 f5 f6 x3 x4 x5 ((30 * x4) + x5) hw _ _ hP hD hS ls (lv_sub hl [1, 2, 3, 4] rfl)
      · have hw := hw.2 hc
        refine lv_aload_n hx hb dX11_firstWalk_118 rfl (lv_at hl 1 rfl) ?_
        refine lv_iload hx hb dX11_firstWalk_119 (lv_at hl 3 rfl) ?_
        refine lv_iload hx hb dX11_firstWalk_121 (lv_at hl 4 rfl) ?_
        refine lv_iconst (v := 1) hx hb dX11_firstWalk_123 (by decide) ?_
        refine lv_iadd hx hb dX11_firstWalk_124 ?_
        have hPc := hP.sub (ws' := (ceX11_isEnding cyI cyB cyJ cyZ a0 a5 a1 b0_image b0_before b0_taken b0_tape b0_five a2 a3 a4 a6 b0_manX b0_manY b0_dogX b0_dogY b0_row b0_round b0_farOne b0_leads b0_drags b0_from b0_near g0_thrown g0_hasImage g0_remembered g0_taped g0_point g0_end g0_begin g0_deep g0_faultAt g0_steps g0_men g0_dogs f5)) [0, 5] rfl
        have hDc := hD.sub (ws' := (ceX11_isEnding cyI cyB cyJ cyZ a0 a5 a1 b0_image b0_before b0_taken b0_tape b0_five a2 a3 a4 a6 b0_manX b0_manY b0_dogX b0_dogY b0_row b0_round b0_farOne b0_leads b0_drags b0_from b0_near g0_thrown g0_hasImage g0_remembered g0_taped g0_point g0_end g0_begin g0_deep g0_faultAt g0_steps g0_men g0_dogs f5)) [0, 5] (by decide) rfl
        have hFc := va_free (wc := (ceX11_isEnding cyI cyB cyJ cyZ a0 a5 a1 b0_image b0_before b0_taken b0_tape b0_five a2 a3 a4 a6 b0_manX b0_manY b0_dogX b0_dogY b0_row b0_round b0_farOne b0_leads b0_drags b0_from b0_near g0_thrown g0_hasImage g0_remembered g0_taped g0_point g0_end g0_begin g0_deep g0_faultAt g0_steps g0_men g0_dogs f5)) hD hS hA [0, 5] rfl
        refine va_calli (va_runV (As := [.int x4, .int (x5 + 1)]) (rest := [.int ((30 * x4) + x5), .ref a5]) ⟨hx, hb, hml, hown, hts⟩ (ctX11_isEnding l dC dI cyI cyB cyJ cyZ _ a0 a5 a1 b0_image b0_before b0_taken b0_tape b0_five a2 a3 a4 a6 b0_manX b0_manY b0_dogX b0_dogY b0_row b0_round b0_farOne b0_leads b0_drags b0_from b0_near g0_thrown g0_hasImage g0_remembered g0_taped g0_point g0_end g0_begin g0_deep g0_faultAt g0_steps g0_men g0_dogs f5 x4 (x5 + 1) _ hw) (cwV 2 hts gX11_firstWalk_X11_isEnding rfl rfl rfl (by decide +kernel) ⟨Nat.le_of_ble_eq_true rfl, Nat.le_of_ble_eq_true rfl⟩) ⟨wPre_blind, va_recv hK hPc (ci := 11) (q0 := 0) rfl rfl, fun U hU hW => wPre_of hPc hK hDc hN hU hW⟩ rfl rfl hl.1 rfl (lv_room (Nat.le_of_ble_eq_true rfl)) dX11_firstWalk_125 ⟨(Nat.zero_le _), (Nat.zero_le _)⟩) hS (fun q _ h => hFc q h) hFc (fun r4 u3 t H1 locs ht hvm hw hB hz1 hk1 hS => ?_)
        obtain ⟨hP1, hK1, hD1⟩ := hB
        rw [ht] at hP1
        obtain ⟨hP, hD⟩ := va_join (wr := pickW (ceX11_firstWalk cyI cyB cyJ cyZ a0 a1 a2 a3 a4 a5 a6 b0_image b0_before b0_taken b0_tape b0_five b0_manX b0_manY b0_dogX b0_dogY b0_row b0_round b0_farOne b0_leads b0_drags b0_from b0_near g0_thrown g0_hasImage g0_remembered g0_taped g0_point g0_end g0_begin g0_deep g0_faultAt g0_steps f1 g0_men g0_dogs f2 f3 f4 f5 f6) [1, 2, 3, 4, 6]) (w1 := (ceX11_isEnding cyI cyB cyJ cyZ a0 a5 a1 b0_image b0_before b0_taken b0_tape b0_five a2 a3 a4 a6 b0_manX b0_manY b0_dogX b0_dogY b0_row b0_round b0_farOne b0_leads b0_drags b0_from b0_near g0_thrown g0_hasImage g0_remembered g0_taped g0_point g0_end g0_begin g0_deep g0_faultAt g0_steps g0_men g0_dogs f5)) hP hD [0, 5] [1, 2, 3, 4, 6] rfl rfl (by decide) (by decide) hk1 hFc hP1 hD1
        have hP := hP.sub (ws' := (ceX11_firstWalk cyI cyB cyJ cyZ a0 a1 a2 a3 a4 a5 a6 b0_image b0_before b0_taken b0_tape b0_five b0_manX b0_manY b0_dogX b0_dogY b0_row b0_round b0_farOne b0_leads b0_drags b0_from b0_near g0_thrown g0_hasImage g0_remembered g0_taped g0_point g0_end g0_begin g0_deep g0_faultAt g0_steps f1 g0_men g0_dogs f2 f3 f4 f5 f6)) [5, 0, 1, 2, 3, 6, 4] rfl
        have hD := hD.sub (ws' := (ceX11_firstWalk cyI cyB cyJ cyZ a0 a1 a2 a3 a4 a5 a6 b0_image b0_before b0_taken b0_tape b0_five b0_manX b0_manY b0_dogX b0_dogY b0_row b0_round b0_farOne b0_leads b0_drags b0_from b0_near g0_thrown g0_hasImage g0_remembered g0_taped g0_point g0_end g0_begin g0_deep g0_faultAt g0_steps f1 g0_men g0_dogs f2 f3 f4 f5 f6)) [5, 0, 1, 2, 3, 6, 4] (by decide) rfl
        generalize H1 = H at hP hS ⊢
        refine lv_if_ne (tgt := 146) hx hb dX11_firstWalk_128 (by decide) (fun hc => ?_) (fun hc => ?_)
        · have hw := hw.1 hc
          exact bX11_firstWalk_146 C0 hK hN hA hQ hk37 hk24 g0_men g0_dogs f2 f3 f4 f5 f6 x3 x4 x5 ((30 * x4) + x5) hw _ _ hP hD hS ls (lv_sub hl [1, 2, 3, 4] rfl)
        · have hw := hw.2 hc
          refine lv_aload_n hx hb dX11_firstWalk_131 rfl (lv_at hl 1 rfl) ?_
          refine lv_iload hx hb dX11_firstWalk_132 (lv_at hl 3 rfl) ?_
          refine lv_iconst (v := 1) hx hb dX11_firstWalk_134 (by decide) ?_
          refine lv_iadd hx hb dX11_firstWalk_135 ?_
          refine lv_iload hx hb dX11_firstWalk_136 (lv_at hl 4 rfl) ?_
          refine lv_iconst (v := 1) hx hb dX11_firstWalk_138 (by decide) ?_
          refine lv_iadd hx hb dX11_firstWalk_139 ?_
          have hPc := hP.sub (ws' := (ceX11_isEnding cyI cyB cyJ cyZ a0 a5 a1 b0_image b0_before b0_taken b0_tape b0_five a2 a3 a4 a6 b0_manX b0_manY b0_dogX b0_dogY b0_row b0_round b0_farOne b0_leads b0_drags b0_from b0_near g0_thrown g0_hasImage g0_remembered g0_taped g0_point g0_end g0_begin g0_deep g0_faultAt g0_steps g0_men g0_dogs f5)) [0, 5] rfl
          have hDc := hD.sub (ws' := (ceX11_isEnding cyI cyB cyJ cyZ a0 a5 a1 b0_image b0_before b0_taken b0_tape b0_five a2 a3 a4 a6 b0_manX b0_manY b0_dogX b0_dogY b0_row b0_round b0_farOne b0_leads b0_drags b0_from b0_near g0_thrown g0_hasImage g0_remembered g0_taped g0_point g0_end g0_begin g0_deep g0_faultAt g0_steps g0_men g0_dogs f5)) [0, 5] (by decide) rfl
          have hFc := va_free (wc := (ceX11_isEnding cyI cyB cyJ cyZ a0 a5 a1 b0_image b0_before b0_taken b0_tape b0_five a2 a3 a4 a6 b0_manX b0_manY b0_dogX b0_dogY b0_row b0_round b0_farOne b0_leads b0_drags b0_from b0_near g0_thrown g0_hasImage g0_remembered g0_taped g0_point g0_end g0_begin g0_deep g0_faultAt g0_steps g0_men g0_dogs f5)) hD hS hA [0, 5] rfl
          refine va_calli (va_runV (As := [.int (x4 + 1), .int (x5 + 1)]) (rest := [.int ((30 * x4) + x5), .ref a5]) ⟨hx, hb, hml, hown, hts⟩ (ctX11_isEnding l dC dI cyI cyB cyJ cyZ _ a0 a5 a1 b0_image b0_before b0_taken b0_tape b0_five a2 a3 a4 a6 b0_manX b0_manY b0_dogX b0_dogY b0_row b0_round b0_farOne b0_leads b0_drags b0_from b0_near g0_thrown g0_hasImage g0_remembered g0_taped g0_point g0_end g0_begin g0_deep g0_faultAt g0_steps g0_men g0_dogs f5 (x4 + 1) (x5 + 1) _ hw) (cwV 2 hts gX11_firstWalk_X11_isEnding rfl rfl rfl (by decide +kernel) ⟨Nat.le_of_ble_eq_true rfl, Nat.le_of_ble_eq_true rfl⟩) ⟨wPre_blind, va_recv hK hPc (ci := 11) (q0 := 0) rfl rfl, fun U hU hW => wPre_of hPc hK hDc hN hU hW⟩ rfl rfl hl.1 rfl (lv_room (Nat.le_of_ble_eq_true rfl)) dX11_firstWalk_140 ⟨(Nat.zero_le _), (Nat.zero_le _)⟩) hS (fun q _ h => hFc q h) hFc (fun r6 u5 t H1 locs ht hvm hw hB hz1 hk1 hS => ?_)
          obtain ⟨hP1, hK1, hD1⟩ := hB
          rw [ht] at hP1
          obtain ⟨hP, hD⟩ := va_join (wr := pickW (ceX11_firstWalk cyI cyB cyJ cyZ a0 a1 a2 a3 a4 a5 a6 b0_image b0_before b0_taken b0_tape b0_five b0_manX b0_manY b0_dogX b0_dogY b0_row b0_round b0_farOne b0_leads b0_drags b0_from b0_near g0_thrown g0_hasImage g0_remembered g0_taped g0_point g0_end g0_begin g0_deep g0_faultAt g0_steps f1 g0_men g0_dogs f2 f3 f4 f5 f6) [1, 2, 3, 4, 6]) (w1 := (ceX11_isEnding cyI cyB cyJ cyZ a0 a5 a1 b0_image b0_before b0_taken b0_tape b0_five a2 a3 a4 a6 b0_manX b0_manY b0_dogX b0_dogY b0_row b0_round b0_farOne b0_leads b0_drags b0_from b0_near g0_thrown g0_hasImage g0_remembered g0_taped g0_point g0_end g0_begin g0_deep g0_faultAt g0_steps g0_men g0_dogs f5)) hP hD [0, 5] [1, 2, 3, 4, 6] rfl rfl (by decide) (by decide) hk1 hFc hP1 hD1
          have hP := hP.sub (ws' := (ceX11_firstWalk cyI cyB cyJ cyZ a0 a1 a2 a3 a4 a5 a6 b0_image b0_before b0_taken b0_tape b0_five b0_manX b0_manY b0_dogX b0_dogY b0_row b0_round b0_farOne b0_leads b0_drags b0_from b0_near g0_thrown g0_hasImage g0_remembered g0_taped g0_point g0_end g0_begin g0_deep g0_faultAt g0_steps f1 g0_men g0_dogs f2 f3 f4 f5 f6)) [5, 0, 1, 2, 3, 6, 4] rfl
          have hD := hD.sub (ws' := (ceX11_firstWalk cyI cyB cyJ cyZ a0 a1 a2 a3 a4 a5 a6 b0_image b0_before b0_taken b0_tape b0_five b0_manX b0_manY b0_dogX b0_dogY b0_row b0_round b0_farOne b0_leads b0_drags b0_from b0_near g0_thrown g0_hasImage g0_remembered g0_taped g0_point g0_end g0_begin g0_deep g0_faultAt g0_steps f1 g0_men g0_dogs f2 f3 f4 f5 f6)) [5, 0, 1, 2, 3, 6, 4] (by decide) rfl
          generalize H1 = H at hP hS ⊢
          refine lv_if_eq (tgt := 150) hx hb dX11_firstWalk_143 (by decide) (fun hc => ?_) (fun hc => ?_)
          · have hw := hw.1 hc
            exact bX11_firstWalk_150 C0 hK hN hA hQ hk37 hk24 g0_men g0_dogs f2 f3 f4 f5 f6 x3 x4 x5 ((30 * x4) + x5) hw _ _ hP hD hS ls (lv_sub hl [1, 2, 3, 4] rfl)
          · have hw := hw.2 hc
            exact bX11_firstWalk_146 C0 hK hN hA hQ hk37 hk24 g0_men g0_dogs f2 f3 f4 f5 f6 x3 x4 x5 ((30 * x4) + x5) hw _ _ hP hD hS ls (lv_sub hl [1, 2, 3, 4] rfl)
set_option maxRecDepth 100000 in
set_option maxHeartbeats 4000000 in
theorem bX11_firstWalk_68 {p : Program} {l : Launch} {e : Env} {s : State} {m : MethodId} {args : Array Value} {below : List Frame} {meth : Method} {c : Code} {dC : Nat → ClassId} {dI : Nat → Nat → Nat} {cyI cyB cyJ cyZ : ClassId} {A : Nat → Prop} {a0 a1 a2 a3 a4 a5 a6 b0_image b0_before b0_taken b0_tape b0_five b0_manX b0_manY b0_dogX b0_dogY b0_row b0_round b0_farOne b0_leads b0_drags b0_from b0_near : Nat} {g0_thrown : Int32} {g0_hasImage : Int32} {g0_remembered : Int32} {g0_taped : Int32} {g0_point : Int32} {g0_end : Int32} {g0_begin : Int32} {g0_deep : Int32} {g0_faultAt : Int32} {g0_steps : Int32} (C0 : cxM p s m meth c args wsX11_firstWalk RX11 cX11_firstWalk 8 (some .int)) (hK : va_K (dC, dI) vwCl (tyA cyI cyB cyJ cyZ) s) (hN : nwA s) (hA : ∀ q : Nat, s.heap.size ≤ q → A q) {post : Int32 → (Int32 × Int32 × (Nat → Int32) × (Nat → Int32) × (Nat → Int32) × (Nat → Int32) × (Nat → Int32)) → Prop} {f1 : Nat → Int32} {k37 : Int32 → Int32 → (Nat → Int32) → (Nat → Int32) → (Nat → Int32) → (Nat → Int32) → (Nat → Int32) → Int32 → Int32 → Int32 → Prop} {k24 : Int32 → Int32 → (Nat → Int32) → (Nat → Int32) → (Nat → Int32) → (Nat → Int32) → (Nat → Int32) → Int32 → Int32 → Prop} {Q : State → Prop} (hQ : Q = MQ below (va_Qi post (fun u : Int32 × Int32 × (Nat → Int32) × (Nat → Int32) × (Nat → Int32) × (Nat → Int32) × (Nat → Int32) => wAt dC dI cyI cyB cyJ cyZ A (ceX11_firstWalk cyI cyB cyJ cyZ a0 a1 a2 a3 a4 a5 a6 b0_image b0_before b0_taken b0_tape b0_five b0_manX b0_manY b0_dogX b0_dogY b0_row b0_round b0_farOne b0_leads b0_drags b0_from b0_near g0_thrown g0_hasImage g0_remembered g0_taped g0_point g0_end g0_begin g0_deep g0_faultAt g0_steps f1 u.1 u.2.1 u.2.2.1 u.2.2.2.1 u.2.2.2.2.1 u.2.2.2.2.2.1 u.2.2.2.2.2.2)) A) args s 0 0 A) (hk37 : ∀ (g0_men : Int32) (g0_dogs : Int32) (f2 : Nat → Int32) (f3 : Nat → Int32) (f4 : Nat → Int32) (f5 : Nat → Int32) (f6 : Nat → Int32) (x3 : Int32) (x4 : Int32) (x5 : Int32), k37 g0_men g0_dogs f2 f3 f4 f5 f6 x3 x4 x5 → AtW p l e rmX11_firstWalk s m args below meth c dC dI A Q 8 0 0 (ceX11_firstWalk cyI cyB cyJ cyZ a0 a1 a2 a3 a4 a5 a6 b0_image b0_before b0_taken b0_tape b0_five b0_manX b0_manY b0_dogX b0_dogY b0_row b0_round b0_farOne b0_leads b0_drags b0_from b0_near g0_thrown g0_hasImage g0_remembered g0_taped g0_point g0_end g0_begin g0_deep g0_faultAt g0_steps f1 g0_men g0_dogs f2 f3 f4 f5 f6) [(0, .ref a0), (3, .int x3), (4, .int x4), (5, .int x5)] 37 []) (hk24 : ∀ (g0_men : Int32) (g0_dogs : Int32) (f2 : Nat → Int32) (f3 : Nat → Int32) (f4 : Nat → Int32) (f5 : Nat → Int32) (f6 : Nat → Int32) (x3 : Int32) (x4 : Int32), k24 g0_men g0_dogs f2 f3 f4 f5 f6 x3 x4 → AtW p l e rmX11_firstWalk s m args below meth c dC dI A Q 8 0 0 (ceX11_firstWalk cyI cyB cyJ cyZ a0 a1 a2 a3 a4 a5 a6 b0_image b0_before b0_taken b0_tape b0_five b0_manX b0_manY b0_dogX b0_dogY b0_row b0_round b0_farOne b0_leads b0_drags b0_from b0_near g0_thrown g0_hasImage g0_remembered g0_taped g0_point g0_end g0_begin g0_deep g0_faultAt g0_steps f1 g0_men g0_dogs f2 f3 f4 f5 f6) [(0, .ref a0), (3, .int x3), (4, .int x4)] 24 []) : ∀ (g0_men : Int32) (g0_dogs : Int32) (f2 : Nat → Int32) (f3 : Nat → Int32) (f4 : Nat → Int32) (f5 : Nat → Int32) (f6 : Nat → Int32) (x3 : Int32) (x4 : Int32) (x5 : Int32), wpX11_firstWalk_68 k37 k24 post f1 g0_men g0_dogs f2 f3 f4 f5 f6 x3 x4 x5 → AtW p l e rmX11_firstWalk s m args below meth c dC dI A Q 8 0 0 (ceX11_firstWalk cyI cyB cyJ cyZ a0 a1 a2 a3 a4 a5 a6 b0_image b0_before b0_taken b0_tape b0_five b0_manX b0_manY b0_dogX b0_dogY b0_row b0_round b0_farOne b0_leads b0_drags b0_from b0_near g0_thrown g0_hasImage g0_remembered g0_taped g0_point g0_end g0_begin g0_deep g0_faultAt g0_steps f1 g0_men g0_dogs f2 f3 f4 f5 f6) [(0, .ref a0), (3, .int x3), (4, .int x4), (5, .int x5)] 68 [] := by
  intro g0_men g0_dogs f2 f3 f4 f5 f6 x3 x4 x5 hw H locs hP hD hS ls hl
  have C1 := C0
  obtain ⟨hx, hb, hr, hml, hown, hts, hlocks⟩ := C1
  refine lv_iconst (v := 0) hx hb dX11_firstWalk_68 (by decide) ?_
  exact bX11_firstWalk_69 C0 hK hN hA hQ hk37 hk24 g0_men g0_dogs f2 f3 f4 f5 f6 x3 x4 x5 0 hw _ _ hP hD hS ls (lv_sub hl [0, 1, 2, 3] rfl)
set_option maxRecDepth 100000 in
set_option maxHeartbeats 4000000 in
theorem bX11_firstWalk_37 {p : Program} {l : Launch} {e : Env} {s : State} {m : MethodId} {args : Array Value} {below : List Frame} {meth : Method} {c : Code} {dC : Nat → ClassId} {dI : Nat → Nat → Nat} {cyI cyB cyJ cyZ : ClassId} {A : Nat → Prop} {a0 a1 a2 a3 a4 a5 a6 b0_image b0_before b0_taken b0_tape b0_five b0_manX b0_manY b0_dogX b0_dogY b0_row b0_round b0_farOne b0_leads b0_drags b0_from b0_near : Nat} {g0_thrown : Int32} {g0_hasImage : Int32} {g0_remembered : Int32} {g0_taped : Int32} {g0_point : Int32} {g0_end : Int32} {g0_begin : Int32} {g0_deep : Int32} {g0_faultAt : Int32} {g0_steps : Int32} (C0 : cxM p s m meth c args wsX11_firstWalk RX11 cX11_firstWalk 8 (some .int)) (hK : va_K (dC, dI) vwCl (tyA cyI cyB cyJ cyZ) s) (hN : nwA s) (hA : ∀ q : Nat, s.heap.size ≤ q → A q) {post : Int32 → (Int32 × Int32 × (Nat → Int32) × (Nat → Int32) × (Nat → Int32) × (Nat → Int32) × (Nat → Int32)) → Prop} {f1 : Nat → Int32} {k24 : Int32 → Int32 → (Nat → Int32) → (Nat → Int32) → (Nat → Int32) → (Nat → Int32) → (Nat → Int32) → Int32 → Int32 → Prop} {Q : State → Prop} (hQ : Q = MQ below (va_Qi post (fun u : Int32 × Int32 × (Nat → Int32) × (Nat → Int32) × (Nat → Int32) × (Nat → Int32) × (Nat → Int32) => wAt dC dI cyI cyB cyJ cyZ A (ceX11_firstWalk cyI cyB cyJ cyZ a0 a1 a2 a3 a4 a5 a6 b0_image b0_before b0_taken b0_tape b0_five b0_manX b0_manY b0_dogX b0_dogY b0_row b0_round b0_farOne b0_leads b0_drags b0_from b0_near g0_thrown g0_hasImage g0_remembered g0_taped g0_point g0_end g0_begin g0_deep g0_faultAt g0_steps f1 u.1 u.2.1 u.2.2.1 u.2.2.2.1 u.2.2.2.2.1 u.2.2.2.2.2.1 u.2.2.2.2.2.2)) A) args s 0 0 A) (hk24 : ∀ (g0_men : Int32) (g0_dogs : Int32) (f2 : Nat → Int32) (f3 : Nat → Int32) (f4 : Nat → Int32) (f5 : Nat → Int32) (f6 : Nat → Int32) (x3 : Int32) (x4 : Int32), k24 g0_men g0_dogs f2 f3 f4 f5 f6 x3 x4 → AtW p l e rmX11_firstWalk s m args below meth c dC dI A Q 8 0 0 (ceX11_firstWalk cyI cyB cyJ cyZ a0 a1 a2 a3 a4 a5 a6 b0_image b0_before b0_taken b0_tape b0_five b0_manX b0_manY b0_dogX b0_dogY b0_row b0_round b0_farOne b0_leads b0_drags b0_from b0_near g0_thrown g0_hasImage g0_remembered g0_taped g0_point g0_end g0_begin g0_deep g0_faultAt g0_steps f1 g0_men g0_dogs f2 f3 f4 f5 f6) [(0, .ref a0), (3, .int x3), (4, .int x4)] 24 []) : ∀ (n : Nat) (g0_men : Int32) (g0_dogs : Int32) (f2 : Nat → Int32) (f3 : Nat → Int32) (f4 : Nat → Int32) (f5 : Nat → Int32) (f6 : Nat → Int32) (x3 : Int32) (x4 : Int32) (x5 : Int32), wpX11_firstWalk_37 k24 post f1 n g0_men g0_dogs f2 f3 f4 f5 f6 x3 x4 x5 → AtW p l e rmX11_firstWalk s m args below meth c dC dI A Q 8 0 0 (ceX11_firstWalk cyI cyB cyJ cyZ a0 a1 a2 a3 a4 a5 a6 b0_image b0_before b0_taken b0_tape b0_five b0_manX b0_manY b0_dogX b0_dogY b0_row b0_round b0_farOne b0_leads b0_drags b0_from b0_near g0_thrown g0_hasImage g0_remembered g0_taped g0_point g0_end g0_begin g0_deep g0_faultAt g0_steps f1 g0_men g0_dogs f2 f3 f4 f5 f6) [(0, .ref a0), (3, .int x3), (4, .int x4), (5, .int x5)] 37 [] := by
  intro n
  induction n with
  | zero => intro g0_men g0_dogs f2 f3 f4 f5 f6 x3 x4 x5 hw; exact False.elim hw
  | succ n ih =>
    intro g0_men g0_dogs f2 f3 f4 f5 f6 x3 x4 x5 hw H locs hP hD hS ls hl
    have C1 := C0
    obtain ⟨hx, hb, hr, hml, hown, hts, hlocks⟩ := C1
    refine lv_iload hx hb dX11_firstWalk_37 (lv_at hl 3 rfl) ?_
    refine lv_if_lt (tgt := 158) hx hb dX11_firstWalk_39 (by decide) (fun hc => ?_) (fun hc => ?_)
    · have hw := hw.1 hc
      obtain ⟨v1, ev1⟩ : ∃ y : Int32, y = x4 + (-1) := ⟨_, rfl⟩
      have hw := hw v1 ev1
      refine lv_iinc (v := v1) (lv' := [(4, .int v1), (0, .ref a0), (3, .int x3), (5, .int x5)]) hx hb dX11_firstWalk_158 hl (k := 2) rfl (by rw [ev1]; rfl) (by decide) rfl (fun ls hl => ?_)
      refine lv_goto (tgt := 24) hx hb dX11_firstWalk_161 (by decide) ?_
      exact hk24 g0_men g0_dogs f2 f3 f4 f5 f6 x3 v1 hw H locs hP hD hS ls (lv_sub hl [1, 2, 0] rfl)
    · have hw := hw.2 hc
      refine lv_iload hx hb dX11_firstWalk_42 (lv_at hl 2 rfl) ?_
      refine lv_aload_n hx hb dX11_firstWalk_44 rfl (lv_at hl 0 rfl) ?_
      refine va_get (D := (dC, dI)) (ci := 11) (v := .int g0_men) (C := RX11) (T := TX11) (N := 34) hx hb hts inX11_firstWalk_X11 hown hK hP 0 rfl rfl 18 (by decide) (hts (.fieldLink RX11 300 "LeadParkModel" "men" "I") (List.mem_of_getElem? (i := 2) rfl)) (fun _ h9 => h9) rfl dX11_firstWalk_45 ?_
      refine lv_iconst (v := 1) hx hb dX11_firstWalk_48 (by decide) ?_
      refine lv_isub hx hb dX11_firstWalk_49 ?_
      refine lv_icmp_ne (tgt := 68) hx hb dX11_firstWalk_50 (by decide) (fun hc => ?_) (fun hc => ?_)
      · have hw := hw.1 hc
        exact bX11_firstWalk_68 C0 hK hN hA hQ ih hk24 g0_men g0_dogs f2 f3 f4 f5 f6 x3 x4 x5 hw _ _ hP hD hS ls (lv_sub hl [0, 1, 2, 3] rfl)
      · have hw := hw.2 hc
        refine lv_iload hx hb dX11_firstWalk_53 (lv_at hl 3 rfl) ?_
        refine lv_aload_n hx hb dX11_firstWalk_55 rfl (lv_at hl 0 rfl) ?_
        refine va_get (D := (dC, dI)) (ci := 11) (v := .int g0_dogs) (C := RX11) (T := TX11) (N := 34) hx hb hts inX11_firstWalk_X11 hown hK hP 0 rfl rfl 19 (by decide) (hts (.fieldLink RX11 303 "LeadParkModel" "dogs" "I") (List.mem_of_getElem? (i := 3) rfl)) (fun _ h9 => h9) rfl dX11_firstWalk_56 ?_
        refine lv_iconst (v := 1) hx hb dX11_firstWalk_59 (by decide) ?_
        refine lv_isub hx hb dX11_firstWalk_60 ?_
        refine lv_icmp_ne (tgt := 68) hx hb dX11_firstWalk_61 (by decide) (fun hc => ?_) (fun hc => ?_)
        · have hw := hw.1 hc
          exact bX11_firstWalk_68 C0 hK hN hA hQ ih hk24 g0_men g0_dogs f2 f3 f4 f5 f6 x3 x4 x5 hw _ _ hP hD hS ls (lv_sub hl [0, 1, 2, 3] rfl)
        · have hw := hw.2 hc
          refine lv_iconst (v := 1) hx hb dX11_firstWalk_64 (by decide) ?_
          refine lv_goto (tgt := 69) hx hb dX11_firstWalk_65 (by decide) ?_
          exact bX11_firstWalk_69 C0 hK hN hA hQ ih hk24 g0_men g0_dogs f2 f3 f4 f5 f6 x3 x4 x5 1 hw _ _ hP hD hS ls (lv_sub hl [0, 1, 2, 3] rfl)
set_option maxRecDepth 100000 in
set_option maxHeartbeats 4000000 in
theorem bX11_firstWalk_24 {p : Program} {l : Launch} {e : Env} {s : State} {m : MethodId} {args : Array Value} {below : List Frame} {meth : Method} {c : Code} {dC : Nat → ClassId} {dI : Nat → Nat → Nat} {cyI cyB cyJ cyZ : ClassId} {A : Nat → Prop} {a0 a1 a2 a3 a4 a5 a6 b0_image b0_before b0_taken b0_tape b0_five b0_manX b0_manY b0_dogX b0_dogY b0_row b0_round b0_farOne b0_leads b0_drags b0_from b0_near : Nat} {g0_thrown : Int32} {g0_hasImage : Int32} {g0_remembered : Int32} {g0_taped : Int32} {g0_point : Int32} {g0_end : Int32} {g0_begin : Int32} {g0_deep : Int32} {g0_faultAt : Int32} {g0_steps : Int32} (C0 : cxM p s m meth c args wsX11_firstWalk RX11 cX11_firstWalk 8 (some .int)) (hK : va_K (dC, dI) vwCl (tyA cyI cyB cyJ cyZ) s) (hN : nwA s) (hA : ∀ q : Nat, s.heap.size ≤ q → A q) {post : Int32 → (Int32 × Int32 × (Nat → Int32) × (Nat → Int32) × (Nat → Int32) × (Nat → Int32) × (Nat → Int32)) → Prop} {f1 : Nat → Int32} {Q : State → Prop} (hQ : Q = MQ below (va_Qi post (fun u : Int32 × Int32 × (Nat → Int32) × (Nat → Int32) × (Nat → Int32) × (Nat → Int32) × (Nat → Int32) => wAt dC dI cyI cyB cyJ cyZ A (ceX11_firstWalk cyI cyB cyJ cyZ a0 a1 a2 a3 a4 a5 a6 b0_image b0_before b0_taken b0_tape b0_five b0_manX b0_manY b0_dogX b0_dogY b0_row b0_round b0_farOne b0_leads b0_drags b0_from b0_near g0_thrown g0_hasImage g0_remembered g0_taped g0_point g0_end g0_begin g0_deep g0_faultAt g0_steps f1 u.1 u.2.1 u.2.2.1 u.2.2.2.1 u.2.2.2.2.1 u.2.2.2.2.2.1 u.2.2.2.2.2.2)) A) args s 0 0 A) : ∀ (n : Nat) (g0_men : Int32) (g0_dogs : Int32) (f2 : Nat → Int32) (f3 : Nat → Int32) (f4 : Nat → Int32) (f5 : Nat → Int32) (f6 : Nat → Int32) (x3 : Int32) (x4 : Int32), wpX11_firstWalk_24 post f1 n g0_men g0_dogs f2 f3 f4 f5 f6 x3 x4 → AtW p l e rmX11_firstWalk s m args below meth c dC dI A Q 8 0 0 (ceX11_firstWalk cyI cyB cyJ cyZ a0 a1 a2 a3 a4 a5 a6 b0_image b0_before b0_taken b0_tape b0_five b0_manX b0_manY b0_dogX b0_dogY b0_row b0_round b0_farOne b0_leads b0_drags b0_from b0_near g0_thrown g0_hasImage g0_remembered g0_taped g0_point g0_end g0_begin g0_deep g0_faultAt g0_steps f1 g0_men g0_dogs f2 f3 f4 f5 f6) [(0, .ref a0), (3, .int x3), (4, .int x4)] 24 [] := by
  intro n
  induction n with
  | zero => intro g0_men g0_dogs f2 f3 f4 f5 f6 x3 x4 hw; exact False.elim hw
  | succ n ih =>
    intro g0_men g0_dogs f2 f3 f4 f5 f6 x3 x4 hw H locs hP hD hS ls hl
    have C1 := C0
    obtain ⟨hx, hb, hr, hml, hown, hts, hlocks⟩ := C1
    refine lv_iload hx hb dX11_firstWalk_24 (lv_at hl 2 rfl) ?_
    refine lv_if_lt (tgt := 164) hx hb dX11_firstWalk_26 (by decide) (fun hc => ?_) (fun hc => ?_)
    · have hw := hw.1 hc
      refine lv_iconst (v := 0) hx hb dX11_firstWalk_164 (by decide) ?_
      refine lv_istore (lv' := [(4, .int 0), (0, .ref a0), (3, .int x3)]) hx hb dX11_firstWalk_165 hl (by decide) rfl (fun ls hl => ?_)
      refine lv_iconst (v := 0) hx hb dX11_firstWalk_167 (by decide) ?_
      refine lv_istore (lv' := [(5, .int 0), (4, .int 0), (0, .ref a0), (3, .int x3)]) hx hb dX11_firstWalk_168 hl (by decide) rfl (fun ls hl => ?_)
      refine lv_iconst (v := 0) hx hb dX11_firstWalk_170 (by decide) ?_
      refine lv_istore (lv' := [(6, .int 0), (5, .int 0), (4, .int 0), (0, .ref a0), (3, .int x3)]) hx hb dX11_firstWalk_171 hl (by decide) rfl (fun ls hl => ?_)
      obtain ⟨nn, hw⟩ := hw
      exact bX11_firstWalk_173 C0 hK hN hA hQ nn g0_men g0_dogs f2 f3 f4 f5 f6 0 0 0 hw _ _ hP hD hS ls (lv_sub hl [3, 2, 1, 0] rfl)
    · have hw := hw.2 hc
      refine lv_aload_n hx hb dX11_firstWalk_29 rfl (lv_at hl 0 rfl) ?_
      refine va_get (D := (dC, dI)) (ci := 11) (v := .int g0_dogs) (C := RX11) (T := TX11) (N := 34) hx hb hts inX11_firstWalk_X11 hown hK hP 0 rfl rfl 19 (by decide) (hts (.fieldLink RX11 303 "LeadParkModel" "dogs" "I") (List.mem_of_getElem? (i := 3) rfl)) (fun _ h9 => h9) rfl dX11_firstWalk_30 ?_
      refine lv_iconst (v := 1) hx hb dX11_firstWalk_33 (by decide) ?_
      refine lv_isub hx hb dX11_firstWalk_34 ?_
      refine lv_topi (fun v1 ev1 => ?_)
      have hw := hw v1 ev1
      refine lv_istore (lv' := [(5, .int v1), (0, .ref a0), (3, .int x3), (4, .int x4)]) hx hb dX11_firstWalk_35 hl (by decide) rfl (fun ls hl => ?_)
      obtain ⟨nn, hw⟩ := hw
      exact bX11_firstWalk_37 C0 hK hN hA hQ ih nn g0_men g0_dogs f2 f3 f4 f5 f6 x3 x4 v1 hw _ _ hP hD hS ls (lv_sub hl [1, 2, 3, 0] rfl)
set_option maxRecDepth 100000 in
set_option maxHeartbeats 4000000 in
theorem ctX11_firstWalk (l : Launch) (dC : Nat → ClassId) (dI : Nat → Nat → Nat) (cyI cyB cyJ cyZ : ClassId) (sz : Nat) (a0 a1 a2 a3 a4 a5 a6 b0_image b0_before b0_taken b0_tape b0_five b0_manX b0_manY b0_dogX b0_dogY b0_row b0_round b0_farOne b0_leads b0_drags b0_from b0_near : Nat) (g0_thrown : Int32) (g0_hasImage : Int32) (g0_remembered : Int32) (g0_taped : Int32) (g0_point : Int32) (g0_end : Int32) (g0_begin : Int32) (g0_deep : Int32) (g0_faultAt : Int32) (g0_steps : Int32) (f1 : Nat → Int32) (g0_men : Int32) (g0_dogs : Int32) (f2 : Nat → Int32) (f3 : Nat → Int32) (f4 : Nat → Int32) (f5 : Nat → Int32) (f6 : Nat → Int32) (p0 : Int32) (p1 : Int32) (post : Int32 → (Int32 × Int32 × (Nat → Int32) × (Nat → Int32) × (Nat → Int32) × (Nat → Int32) × (Nat → Int32)) → Prop) (hw : wpX11_firstWalk post f1 g0_men g0_dogs f2 f3 f4 f5 f6 p0 p1) : Met l yX11_firstWalk wsX11_firstWalk rmX11_firstWalk (va_Pc [.ref a0, .int p0, .int p1] (wPre dC dI cyI cyB cyJ cyZ sz (ceX11_firstWalk cyI cyB cyJ cyZ a0 a1 a2 a3 a4 a5 a6 b0_image b0_before b0_taken b0_tape b0_five b0_manX b0_manY b0_dogX b0_dogY b0_row b0_round b0_farOne b0_leads b0_drags b0_from b0_near g0_thrown g0_hasImage g0_remembered g0_taped g0_point g0_end g0_begin g0_deep g0_faultAt g0_steps f1 g0_men g0_dogs f2 f3 f4 f5 f6))) (va_Qi post (fun u : Int32 × Int32 × (Nat → Int32) × (Nat → Int32) × (Nat → Int32) × (Nat → Int32) × (Nat → Int32) => wAt dC dI cyI cyB cyJ cyZ (va_A (ceX11_firstWalk cyI cyB cyJ cyZ a0 a1 a2 a3 a4 a5 a6 b0_image b0_before b0_taken b0_tape b0_five b0_manX b0_manY b0_dogX b0_dogY b0_row b0_round b0_farOne b0_leads b0_drags b0_from b0_near g0_thrown g0_hasImage g0_remembered g0_taped g0_point g0_end g0_begin g0_deep g0_faultAt g0_steps f1 g0_men g0_dogs f2 f3 f4 f5 f6) sz) (ceX11_firstWalk cyI cyB cyJ cyZ a0 a1 a2 a3 a4 a5 a6 b0_image b0_before b0_taken b0_tape b0_five b0_manX b0_manY b0_dogX b0_dogY b0_row b0_round b0_farOne b0_leads b0_drags b0_from b0_near g0_thrown g0_hasImage g0_remembered g0_taped g0_point g0_end g0_begin g0_deep g0_faultAt g0_steps f1 u.1 u.2.1 u.2.2.1 u.2.2.2.1 u.2.2.2.2.1 u.2.2.2.2.2.1 u.2.2.2.2.2.2)) (va_A (ceX11_firstWalk cyI cyB cyJ cyZ a0 a1 a2 a3 a4 a5 a6 b0_image b0_before b0_taken b0_tape b0_five b0_manX b0_manY b0_dogX b0_dogY b0_row b0_round b0_farOne b0_leads b0_drags b0_from b0_near g0_thrown g0_hasImage g0_remembered g0_taped g0_point g0_end g0_begin g0_deep g0_faultAt g0_steps f1 g0_men g0_dogs f2 f3 f4 f5 f6) sz)) 0 0 (va_A (ceX11_firstWalk cyI cyB cyJ cyZ a0 a1 a2 a3 a4 a5 a6 b0_image b0_before b0_taken b0_tape b0_five b0_manX b0_manY b0_dogX b0_dogY b0_row b0_round b0_farOne b0_leads b0_drags b0_from b0_near g0_thrown g0_hasImage g0_remembered g0_taped g0_point g0_end g0_begin g0_deep g0_faultAt g0_steps f1 g0_men g0_dogs f2 f3 f4 f5 f6) sz) := by
  refine Met.ofW (cc := cX11_firstWalk) (maxL := 8) (ret := (some .int)) (by decide) rfl ?_
  intro p e s m args below meth c s₁ B hml hv
  obtain ⟨rfl, hsz, hP, hK, hD0, hN⟩ := hv
  have hx := B.exec
  have hb := B.bytes
  have hr := B.returns
  have hts := atoms_spec (ws := wsX11_firstWalk) B.pre
  have hown : s.vm.findClass RX11 = some m.cls := findClass_of_methodNamed B.named
  have hlocks := B.notSynchronized
  subst hsz
  have hD := hD0.self (sz := s.heap.size)
  generalize hAe : va_A (ceX11_firstWalk cyI cyB cyJ cyZ a0 a1 a2 a3 a4 a5 a6 b0_image b0_before b0_taken b0_tape b0_five b0_manX b0_manY b0_dogX b0_dogY b0_row b0_round b0_farOne b0_leads b0_drags b0_from b0_near g0_thrown g0_hasImage g0_remembered g0_taped g0_point g0_end g0_begin g0_deep g0_faultAt g0_steps f1 g0_men g0_dogs f2 f3 f4 f5 f6) s.heap.size = A at hD ⊢
  have hA : ∀ q : Nat, s.heap.size ≤ q → A q := fun q h => by rw [← hAe]; exact Or.inr h
  have hS : va_S A s.heap s.heap [] := va_S.rf
  have C0 : cxM p s m meth c _ wsX11_firstWalk RX11 cX11_firstWalk 8 (some .int) := ⟨hx, hb, hr, hml, hown, hts, hlocks⟩
  have hl := lv_entry ([.ref a0, .int p0, .int p1]) (n := 8) (Nat.le_of_ble_eq_true rfl)
  rw [lg_entry_eq]
  generalize (lg_sl ([.ref a0, .int p0, .int p1]) ++ List.replicate (8 - (lg_sl ([.ref a0, .int p0, .int p1])).length) Slot.unset).toArray = ls at hl ⊢
  have hl : lv_has ls 8 [(0, .ref a0), (1, .int p0), (2, .int p1)] := hl
  show W p l e rmX11_firstWalk s m _ below meth c _ _ _ _ _ _
  refine wq (fun Q hQ => ?_)
  refine lv_aload_n hx hb dX11_firstWalk_0 rfl (lv_at hl 0 rfl) ?_
  refine lv_iload_n hx hb dX11_firstWalk_1 rfl (lv_at hl 1 rfl) ?_
  refine lv_iload_n hx hb dX11_firstWalk_2 rfl (lv_at hl 2 rfl) ?_
  have hPc := hP.sub (ws' := (ceX11_leastOf cyI cyB cyJ cyZ a0 a1 a2 a3 a4 b0_image b0_before b0_taken b0_tape b0_five a6 a5 b0_manX b0_manY b0_dogX b0_dogY b0_row b0_round b0_farOne b0_leads b0_drags b0_from b0_near g0_thrown g0_hasImage g0_remembered g0_taped g0_point g0_end g0_begin g0_deep g0_faultAt g0_steps f1 g0_men g0_dogs f2 f3 f4)) [0, 1, 2, 3, 4] rfl
  have hDc := hD.sub (ws' := (ceX11_leastOf cyI cyB cyJ cyZ a0 a1 a2 a3 a4 b0_image b0_before b0_taken b0_tape b0_five a6 a5 b0_manX b0_manY b0_dogX b0_dogY b0_row b0_round b0_farOne b0_leads b0_drags b0_from b0_near g0_thrown g0_hasImage g0_remembered g0_taped g0_point g0_end g0_begin g0_deep g0_faultAt g0_steps f1 g0_men g0_dogs f2 f3 f4)) [0, 1, 2, 3, 4] (by decide) rfl
  have hFc := va_free (wc := (ceX11_leastOf cyI cyB cyJ cyZ a0 a1 a2 a3 a4 b0_image b0_before b0_taken b0_tape b0_five a6 a5 b0_manX b0_manY b0_dogX b0_dogY b0_row b0_round b0_farOne b0_leads b0_drags b0_from b0_near g0_thrown g0_hasImage g0_remembered g0_taped g0_point g0_end g0_begin g0_deep g0_faultAt g0_steps f1 g0_men g0_dogs f2 f3 f4)) hD hS hA [0, 1, 2, 3, 4] rfl
  refine va_calli (va_runV (As := [.int p0, .int p1]) (rest := []) ⟨hx, hb, hml, hown, hts⟩ (ctX11_leastOf l dC dI cyI cyB cyJ cyZ _ a0 a1 a2 a3 a4 b0_image b0_before b0_taken b0_tape b0_five a6 a5 b0_manX b0_manY b0_dogX b0_dogY b0_row b0_round b0_farOne b0_leads b0_drags b0_from b0_near g0_thrown g0_hasImage g0_remembered g0_taped g0_point g0_end g0_begin g0_deep g0_faultAt g0_steps f1 g0_men g0_dogs f2 f3 f4 p0 p1 _ hw) (cwV 2 hts gX11_firstWalk_X11_leastOf rfl rfl rfl (by decide +kernel) ⟨Nat.le_of_ble_eq_true rfl, Nat.le_of_ble_eq_true rfl⟩) ⟨wPre_blind, va_recv hK hPc (ci := 11) (q0 := 0) rfl rfl, fun U hU hW => wPre_of hPc hK hDc hN hU hW⟩ rfl rfl hl.1 rfl (lv_room (Nat.le_of_ble_eq_true rfl)) dX11_firstWalk_3 ⟨(Nat.zero_le _), (Nat.zero_le _)⟩) hS (fun q _ h => hFc q h) hFc (fun r2 u1 t H1 locs ht hvm hw hB hz1 hk1 hS => ?_)
  obtain ⟨hP1, hK1, hD1⟩ := hB
  rw [ht] at hP1
  obtain ⟨hP, hD⟩ := va_join (wr := pickW (ceX11_firstWalk cyI cyB cyJ cyZ a0 a1 a2 a3 a4 a5 a6 b0_image b0_before b0_taken b0_tape b0_five b0_manX b0_manY b0_dogX b0_dogY b0_row b0_round b0_farOne b0_leads b0_drags b0_from b0_near g0_thrown g0_hasImage g0_remembered g0_taped g0_point g0_end g0_begin g0_deep g0_faultAt g0_steps f1 g0_men g0_dogs f2 f3 f4 f5 f6) [5, 6]) (w1 := (ceX11_leastOf cyI cyB cyJ cyZ a0 a1 a2 a3 a4 b0_image b0_before b0_taken b0_tape b0_five a6 a5 b0_manX b0_manY b0_dogX b0_dogY b0_row b0_round b0_farOne b0_leads b0_drags b0_from b0_near g0_thrown g0_hasImage g0_remembered g0_taped g0_point g0_end g0_begin g0_deep g0_faultAt g0_steps f1 u1.1 u1.2.1 u1.2.2.1 u1.2.2.2.1 u1.2.2.2.2)) hP hD [0, 1, 2, 3, 4] [5, 6] rfl rfl (by decide) (by decide) hk1 hFc hP1 hD1
  have hP := hP.sub (ws' := (ceX11_firstWalk cyI cyB cyJ cyZ a0 a1 a2 a3 a4 a5 a6 b0_image b0_before b0_taken b0_tape b0_five b0_manX b0_manY b0_dogX b0_dogY b0_row b0_round b0_farOne b0_leads b0_drags b0_from b0_near g0_thrown g0_hasImage g0_remembered g0_taped g0_point g0_end g0_begin g0_deep g0_faultAt g0_steps f1 u1.1 u1.2.1 u1.2.2.1 u1.2.2.2.1 u1.2.2.2.2 f5 f6)) [2, 3, 4, 5, 6, 0, 1] rfl
  have hD := hD.sub (ws' := (ceX11_firstWalk cyI cyB cyJ cyZ a0 a1 a2 a3 a4 a5 a6 b0_image b0_before b0_taken b0_tape b0_five b0_manX b0_manY b0_dogX b0_dogY b0_row b0_round b0_farOne b0_leads b0_drags b0_from b0_near g0_thrown g0_hasImage g0_remembered g0_taped g0_point g0_end g0_begin g0_deep g0_faultAt g0_steps f1 u1.1 u1.2.1 u1.2.2.1 u1.2.2.2.1 u1.2.2.2.2 f5 f6)) [2, 3, 4, 5, 6, 0, 1] (by decide) rfl
  generalize H1 = H at hP hS ⊢
  refine lv_istore_n (lv' := [(3, .int r2), (0, .ref a0), (1, .int p0), (2, .int p1)]) hx hb dX11_firstWalk_6 rfl hl (by decide) rfl (fun ls hl => ?_)
  refine lv_iload_n hx hb dX11_firstWalk_7 rfl (lv_at hl 0 rfl) ?_
  refine lv_ldcw (v := 2000000000) hx hb hown (hts (.constant RX11 306 (2000000000)) (List.mem_of_getElem? (i := 1) rfl)) dX11_firstWalk_8 ?_
  refine lv_icmp_ne (tgt := 16) hx hb dX11_firstWalk_11 (by decide) (fun hc => ?_) (fun hc => ?_)
  · have hw := hw.1 hc
    refine lv_aload_n hx hb dX11_firstWalk_16 rfl (lv_at hl 1 rfl) ?_
    refine va_get (D := (dC, dI)) (ci := 11) (v := .int u1.1) (C := RX11) (T := TX11) (N := 34) hx hb hts inX11_firstWalk_X11 hown hK hP 0 rfl rfl 18 (by decide) (hts (.fieldLink RX11 300 "LeadParkModel" "men" "I") (List.mem_of_getElem? (i := 2) rfl)) (fun _ h9 => h9) rfl dX11_firstWalk_17 ?_
    refine lv_iconst (v := 1) hx hb dX11_firstWalk_20 (by decide) ?_
    refine lv_isub hx hb dX11_firstWalk_21 ?_
    refine lv_topi (fun v3 ev3 => ?_)
    have hw := hw v3 ev3
    refine lv_istore (lv' := [(4, .int v3), (3, .int r2), (0, .ref a0), (1, .int p0), (2, .int p1)]) hx hb dX11_firstWalk_22 hl (by decide) rfl (fun ls hl => ?_)
    obtain ⟨nn, hw⟩ := hw
    exact bX11_firstWalk_24 C0 hK hN hA hQ nn u1.1 u1.2.1 u1.2.2.1 u1.2.2.2.1 u1.2.2.2.2 f5 f6 r2 v3 hw _ _ hP hD hS ls (lv_sub hl [2, 1, 0] rfl)
  · have hw := hw.2 hc
    refine lv_iconst (v := (-1)) hx hb dX11_firstWalk_14 (by decide) ?_
    rw [hQ]
    exact W.iret (v := (-1)) hx hb hr (fun t ht hW => ⟨⟨(-1), (u1.1, u1.2.1, u1.2.2.1, u1.2.2.2.1, u1.2.2.2.2, f5, f6), rfl, hw, by rw [ht]; exact hP, va_K.moved hW.alike hK, hD⟩, hS.F ht⟩) hS.2.2 dX11_firstWalk_15
