/-! LeadParkModel.shut (IIII)Z -/
abbrev ceX11_shut (cyI cyB cyJ cyZ : ClassId) (a0 a1 a2 b0_image b0_before b0_taken b0_tape b0_five b0_far b0_lead b0_walk b0_ends b0_manX b0_manY b0_dogX b0_dogY b0_row b0_round b0_farOne b0_leads b0_drags b0_from b0_near : Nat) (g0_hasImage : Int32) (g0_remembered : Int32) (g0_taped : Int32) (g0_point : Int32) (g0_end : Int32) (g0_begin : Int32) (g0_deep : Int32) (g0_faultAt : Int32) (g0_steps : Int32) (g0_men : Int32) (g0_dogs : Int32) (f1 : Nat → Int32) (g0_thrown : Int32) (f2 : Nat → Int32) : va_W := [(a0, .inr (11, [.int g0_thrown, .ref a1, .ref b0_image, .ref b0_before, .int g0_hasImage, .ref b0_taken, .int g0_remembered, .ref b0_tape, .int g0_taped, .int g0_point, .int g0_end, .int g0_begin, .int g0_deep, .int g0_faultAt, .ref b0_five, .int g0_steps, .ref a2, .ref b0_far, .int g0_men, .int g0_dogs, .ref b0_lead, .ref b0_walk, .ref b0_ends, .ref b0_manX, .ref b0_manY, .ref b0_dogX, .ref b0_dogY, .ref b0_row, .ref b0_round, .ref b0_farOne, .ref b0_leads, .ref b0_drags, .ref b0_from, .ref b0_near])), (a1, .inl (cyI, 2508, .inl f1)), (a2, .inl (cyI, 400, .inl f2))]

theorem inX11_shut_X11 : ∀ w ∈ wsX110, w ∈ wsX11_shut := fun _ h => List.mem_cons_of_mem _ (List.mem_append_right _ h)
abbrev rmX11_shut : Room := { frames := 5, cells := 0, slots := 0, locals := 142 }
def wpX11_shut_30 (post : Int32 → (Int32 × (Nat → Int32)) → Prop) (f1 : Nat → Int32) (g0_thrown : Int32) (f2 : Nat → Int32) (x1 : Int32) (x2 : Int32) (x3 : Int32) (x4 : Int32) (s1 : Int32) : Prop :=
  wpX11_throwsIf (fun (r2 : Int32) (u1 : Int32) =>
   (¬ r2 = 0 →
    post 0 (u1, f2)) ∧
   (r2 = 0 →
    wpX11_isShut (fun (r4 : Int32) (u3 : (Nat → Int32)) =>
     (r4 = 0 →
      post 0 (u1, u3)) ∧
     (¬ r4 = 0 →
      post 1 (u1, u3))) f1 f2 x1 x2 x3 x4)) g0_thrown s1 1
def wpX11_shut_25 (post : Int32 → (Int32 × (Nat → Int32)) → Prop) (f1 : Nat → Int32) (g0_thrown : Int32) (f2 : Nat → Int32) (x1 : Int32) (x2 : Int32) (x3 : Int32) (x4 : Int32) : Prop :=
  wpX11_shut_30 post f1 g0_thrown f2 x1 x2 x3 x4 1
def wpX11_shut (post : Int32 → (Int32 × (Nat → Int32)) → Prop) (f1 : Nat → Int32) (g0_thrown : Int32) (f2 : Nat → Int32) (p0 : Int32) (p1 : Int32) (p2 : Int32) (p3 : Int32) : Prop :=
  wpX11_noCorner (fun (r2 : Int32) (u1 : Unit) =>
   (¬ r2 = 0 →
    wpX11_shut_25 post f1 0 f2 p0 p1 p2 p3) ∧
   (r2 = 0 →
    wpX11_noCorner (fun (r4 : Int32) (u3 : Unit) =>
     (r4 = 0 →
      wpX11_shut_30 post f1 0 f2 p0 p1 p2 p3 0) ∧
     (¬ r4 = 0 →
      wpX11_shut_25 post f1 0 f2 p0 p1 p2 p3)) f1 p2 p3)) f1 p0 p1
set_option maxRecDepth 100000 in
set_option maxHeartbeats 4000000 in
theorem bX11_shut_30 {p : Program} {l : Launch} {e : Env} {s : State} {m : MethodId} {args : Array Value} {below : List Frame} {meth : Method} {c : Code} {dC : Nat → ClassId} {dI : Nat → Nat → Nat} {cyI cyB cyJ cyZ : ClassId} {A : Nat → Prop} {a0 a1 a2 b0_image b0_before b0_taken b0_tape b0_five b0_far b0_lead b0_walk b0_ends b0_manX b0_manY b0_dogX b0_dogY b0_row b0_round b0_farOne b0_leads b0_drags b0_from b0_near : Nat} {g0_hasImage : Int32} {g0_remembered : Int32} {g0_taped : Int32} {g0_point : Int32} {g0_end : Int32} {g0_begin : Int32} {g0_deep : Int32} {g0_faultAt : Int32} {g0_steps : Int32} {g0_men : Int32} {g0_dogs : Int32} (C0 : cxM p s m meth c args wsX11_shut RX11 cX11_shut 5 (some .boolean)) (hK : va_K (dC, dI) vwCl (tyA cyI cyB cyJ cyZ) s) (hN : nwA s) (hA : ∀ q : Nat, s.heap.size ≤ q → A q) {post : Int32 → (Int32 × (Nat → Int32)) → Prop} {f1 : Nat → Int32} {Q : State → Prop} (hQ : Q = MQ below (va_Qi post (fun u : Int32 × (Nat → Int32) => wAt dC dI cyI cyB cyJ cyZ A (ceX11_shut cyI cyB cyJ cyZ a0 a1 a2 b0_image b0_before b0_taken b0_tape b0_five b0_far b0_lead b0_walk b0_ends b0_manX b0_manY b0_dogX b0_dogY b0_row b0_round b0_farOne b0_leads b0_drags b0_from b0_near g0_hasImage g0_remembered g0_taped g0_point g0_end g0_begin g0_deep g0_faultAt g0_steps g0_men g0_dogs f1 u.1 u.2)) A) args s 0 0 A) : ∀ (g0_thrown : Int32) (f2 : Nat → Int32) (x1 : Int32) (x2 : Int32) (x3 : Int32) (x4 : Int32) (s1 : Int32), wpX11_shut_30 post f1 g0_thrown f2 x1 x2 x3 x4 s1 → AtW p l e rmX11_shut s m args below meth c dC dI A Q 5 0 0 (ceX11_shut cyI cyB cyJ cyZ a0 a1 a2 b0_image b0_before b0_taken b0_tape b0_five b0_far b0_lead b0_walk b0_ends b0_manX b0_manY b0_dogX b0_dogY b0_row b0_round b0_farOne b0_leads b0_drags b0_from b0_near g0_hasImage g0_remembered g0_taped g0_point g0_end g0_begin g0_deep g0_faultAt g0_steps g0_men g0_dogs f1 g0_thrown f2) [(0, .ref a0), (1, .int x1), (2, .int x2), (3, .int x3), (4, .int x4)] 30 [.int s1, .ref a0] := by
  intro g0_thrown f2 x1 x2 x3 x4 s1 hw H locs hP hD hS ls hl
  have C1 := C0
  obtain ⟨hx, hb, hr, hml, hown, hts, hlocks⟩ := C1
  refine lv_iconst (v := 1) hx hb dX11_shut_30 (by decide) ?_
  have hPc := hP.sub (ws' := (ceX11_throwsIf cyI cyB cyJ cyZ a0 a1 b0_image b0_before b0_taken b0_tape b0_five a2 b0_far b0_lead b0_walk b0_ends b0_manX b0_manY b0_dogX b0_dogY b0_row b0_round b0_farOne b0_leads b0_drags b0_from b0_near g0_hasImage g0_remembered g0_taped g0_point g0_end g0_begin g0_deep g0_faultAt g0_steps g0_men g0_dogs g0_thrown)) [0] rfl
  have hDc := hD.sub (ws' := (ceX11_throwsIf cyI cyB cyJ cyZ a0 a1 b0_image b0_before b0_taken b0_tape b0_five a2 b0_far b0_lead b0_walk b0_ends b0_manX b0_manY b0_dogX b0_dogY b0_row b0_round b0_farOne b0_leads b0_drags b0_from b0_near g0_hasImage g0_remembered g0_taped g0_point g0_end g0_begin g0_deep g0_faultAt g0_steps g0_men g0_dogs g0_thrown)) [0] (by decide) rfl
  have hFc := va_free (wc := (ceX11_throwsIf cyI cyB cyJ cyZ a0 a1 b0_image b0_before b0_taken b0_tape b0_five a2 b0_far b0_lead b0_walk b0_ends b0_manX b0_manY b0_dogX b0_dogY b0_row b0_round b0_farOne b0_leads b0_drags b0_from b0_near g0_hasImage g0_remembered g0_taped g0_point g0_end g0_begin g0_deep g0_faultAt g0_steps g0_men g0_dogs g0_thrown)) hD hS hA [0] rfl
  refine va_calli (va_runV (As := [.int s1, .int 1]) (rest := []) ⟨hx, hb, hml, hown, hts⟩ (ctX11_throwsIf l dC dI cyI cyB cyJ cyZ _ a0 a1 b0_image b0_before b0_taken b0_tape b0_five a2 b0_far b0_lead b0_walk b0_ends b0_manX b0_manY b0_dogX b0_dogY b0_row b0_round b0_farOne b0_leads b0_drags b0_from b0_near g0_hasImage g0_remembered g0_taped g0_point g0_end g0_begin g0_deep g0_faultAt g0_steps g0_men g0_dogs g0_thrown s1 1 _ hw) (cwV 2 hts gX11_shut_X11_throwsIf rfl rfl rfl (by decide +kernel) ⟨Nat.le_of_ble_eq_true rfl, Nat.le_of_ble_eq_true rfl⟩) ⟨wPre_blind, va_recv hK hPc (ci := 11) (q0 := 0) rfl rfl, fun U hU hW => wPre_of hPc hK hDc hN hU hW⟩ rfl rfl hl.1 rfl (lv_room (Nat.le_of_ble_eq_true rfl)) dX11_shut_31 ⟨(Nat.zero_le _), (Nat.zero_le _)⟩) hS (fun q _ h => hFc q h) hFc (fun r2 u1 t H1 locs ht hvm hw hB hz1 hk1 hS => ?_)
  obtain ⟨hP1, hK1, hD1⟩ := hB
  rw [ht] at hP1
  obtain ⟨hP, hD⟩ := va_join (wr := pickW (ceX11_shut cyI cyB cyJ cyZ a0 a1 a2 b0_image b0_before b0_taken b0_tape b0_five b0_far b0_lead b0_walk b0_ends b0_manX b0_manY b0_dogX b0_dogY b0_row b0_round b0_farOne b0_leads b0_drags b0_from b0_near g0_hasImage g0_remembered g0_taped g0_point g0_end g0_begin g0_deep g0_faultAt g0_steps g0_men g0_dogs f1 g0_thrown f2) [1, 2]) (w1 := (ceX11_throwsIf cyI cyB cyJ cyZ a0 a1 b0_image b0_before b0_taken b0_tape b0_five a2 b0_far b0_lead b0_walk b0_ends b0_manX b0_manY b0_dogX b0_dogY b0_row b0_round b0_farOne b0_leads b0_drags b0_from b0_near g0_hasImage g0_remembered g0_taped g0_point g0_end g0_begin g0_deep g0_faultAt g0_steps g0_men g0_dogs u1)) hP hD [0] [1, 2] rfl rfl (by decide) (by decide) hk1 hFc hP1 hD1
  have hP := hP.sub (ws' := (ceX11_shut cyI cyB cyJ cyZ a0 a1 a2 b0_image b0_before b0_taken b0_tape b0_five b0_far b0_lead b0_walk b0_ends b0_manX b0_manY b0_dogX b0_dogY b0_row b0_round b0_farOne b0_leads b0_drags b0_from b0_near g0_hasImage g0_remembered g0_taped g0_point g0_end g0_begin g0_deep g0_faultAt g0_steps g0_men g0_dogs f1 u1 f2)) [2, 0, 1] rfl
  have hD := hD.sub (ws' := (ceX11_shut cyI cyB cyJ cyZ a0 a1 a2 b0_image b0_before b0_taken b0_tape b0_five b0_far b0_lead b0_walk b0_ends b0_manX b0_manY b0_dogX b0_dogY b0_row b0_round b0_farOne b0_leads b0_drags b0_from b0_near g0_hasImage g0_remembered g0_taped g0_point g0_end g0_begin g0_deep g0_faultAt g0_steps g0_men g0_dogs f1 u1 f2)) [2, 0, 1] (by decide) rfl
  generalize H1 = H at hP hS ⊢
  refine lv_if_ne (tgt := 53) hx hb dX11_shut_34 (by decide) (fun hc => ?_) (fun hc => ?_)
  · have hw := hw.1 hc
    refine lv_iconst (v := 0) hx hb dX11_shut_53 (by decide) ?_
    rw [hQ]
    exact W.zret (v := 0) (ty := .boolean) hx hb hr rfl (fun t ht hW => ⟨⟨0, (u1, f2), rfl, hw, by rw [ht]; exact hP, va_K.moved hW.alike hK, hD⟩, hS.F ht⟩) hS.2.2 dX11_shut_54
  · have hw := hw.2 hc
    refine lv_aload_n hx hb dX11_shut_37 rfl (lv_at hl 0 rfl) ?_
    refine lv_iload_n hx hb dX11_shut_38 rfl (lv_at hl 1 rfl) ?_
    refine lv_iload_n hx hb dX11_shut_39 rfl (lv_at hl 2 rfl) ?_
    refine lv_iload_n hx hb dX11_shut_40 rfl (lv_at hl 3 rfl) ?_
    refine lv_iload hx hb dX11_shut_41 (lv_at hl 4 rfl) ?_
    have hPc := hP.sub (ws' := (ceX11_isShut cyI cyB cyJ cyZ a0 a1 a2 b0_image b0_before b0_taken b0_tape b0_five b0_far b0_lead b0_walk b0_ends b0_manX b0_manY b0_dogX b0_dogY b0_row b0_round b0_farOne b0_leads b0_drags b0_from b0_near u1 g0_hasImage g0_remembered g0_taped g0_point g0_end g0_begin g0_deep g0_faultAt g0_steps g0_men g0_dogs f1 f2)) [0, 1, 2] rfl
    have hDc := hD.sub (ws' := (ceX11_isShut cyI cyB cyJ cyZ a0 a1 a2 b0_image b0_before b0_taken b0_tape b0_five b0_far b0_lead b0_walk b0_ends b0_manX b0_manY b0_dogX b0_dogY b0_row b0_round b0_farOne b0_leads b0_drags b0_from b0_near u1 g0_hasImage g0_remembered g0_taped g0_point g0_end g0_begin g0_deep g0_faultAt g0_steps g0_men g0_dogs f1 f2)) [0, 1, 2] (by decide) rfl
    have hFc := va_free (wc := (ceX11_isShut cyI cyB cyJ cyZ a0 a1 a2 b0_image b0_before b0_taken b0_tape b0_five b0_far b0_lead b0_walk b0_ends b0_manX b0_manY b0_dogX b0_dogY b0_row b0_round b0_farOne b0_leads b0_drags b0_from b0_near u1 g0_hasImage g0_remembered g0_taped g0_point g0_end g0_begin g0_deep g0_faultAt g0_steps g0_men g0_dogs f1 f2)) hD hS hA [0, 1, 2] rfl
    refine va_calli (va_runV (As := [.int x1, .int x2, .int x3, .int x4]) (rest := []) ⟨hx, hb, hml, hown, hts⟩ (ctX11_isShut l dC dI cyI cyB cyJ cyZ _ a0 a1 a2 b0_image b0_before b0_taken b0_tape b0_five b0_far b0_lead b0_walk b0_ends b0_manX b0_manY b0_dogX b0_dogY b0_row b0_round b0_farOne b0_leads b0_drags b0_from b0_near u1 g0_hasImage g0_remembered g0_taped g0_point g0_end g0_begin g0_deep g0_faultAt g0_steps g0_men g0_dogs f1 f2 x1 x2 x3 x4 _ hw) (cwV 4 hts gX11_shut_X11_isShut rfl rfl rfl (by decide +kernel) ⟨Nat.le_of_ble_eq_true rfl, Nat.le_of_ble_eq_true rfl⟩) ⟨wPre_blind, va_recv hK hPc (ci := 11) (q0 := 0) rfl rfl, fun U hU hW => wPre_of hPc hK hDc hN hU hW⟩ rfl rfl hl.1 rfl (lv_room (Nat.le_of_ble_eq_true rfl)) dX11_shut_43 ⟨(Nat.zero_le _), (Nat.zero_le _)⟩) hS (fun q _ h => hFc q h) hFc (fun r4 u3 t H1 locs ht hvm hw hB hz1 hk1 hS => ?_)
    obtain ⟨hP1, hK1, hD1⟩ := hB
    rw [ht] at hP1
    obtain ⟨hP, hD⟩ := va_join (wr := pickW (ceX11_shut cyI cyB cyJ cyZ a0 a1 a2 b0_image b0_before b0_taken b0_tape b0_five b0_far b0_lead b0_walk b0_ends b0_manX b0_manY b0_dogX b0_dogY b0_row b0_round b0_farOne b0_leads b0_drags b0_from b0_near g0_hasImage g0_remembered g0_taped g0_point g0_end g0_begin g0_deep g0_faultAt g0_steps g0_men g0_dogs f1 u1 f2) []) (w1 := (ceX11_isShut cyI cyB cyJ cyZ a0 a1 a2 b0_image b0_before b0_taken b0_tape b0_five b0_far b0_lead b0_walk b0_ends b0_manX b0_manY b0_dogX b0_dogY b0_row b0_round b0_farOne b0_leads b0_drags b0_from b0_near u1 g0_hasImage g0_remembered g0_taped g0_point g0_end g0_begin g0_deep g0_faultAt g0_steps g0_men g0_dogs f1 u3)) hP hD [0, 1, 2] [] rfl rfl (by decide) (by decide) hk1 hFc hP1 hD1
    have hP := hP.sub (ws' := (ceX11_shut cyI cyB cyJ cyZ a0 a1 a2 b0_image b0_before b0_taken b0_tape b0_five b0_far b0_lead b0_walk b0_ends b0_manX b0_manY b0_dogX b0_dogY b0_row b0_round b0_farOne b0_leads b0_drags b0_from b0_near g0_hasImage g0_remembered g0_taped g0_point g0_end g0_begin g0_deep g0_faultAt g0_steps g0_men g0_dogs f1 u1 u3)) [0, 1, 2] rfl
    have hD := hD.sub (ws' := (ceX11_shut cyI cyB cyJ cyZ a0 a1 a2 b0_image b0_before b0_taken b0_tape b0_five b0_far b0_lead b0_walk b0_ends b0_manX b0_manY b0_dogX b0_dogY b0_row b0_round b0_farOne b0_leads b0_drags b0_from b0_near g0_hasImage g0_remembered g0_taped g0_point g0_end g0_begin g0_deep g0_faultAt g0_steps g0_men g0_dogs f1 u1 u3)) [0, 1, 2] (by decide) rfl
    generalize H1 = H at hP hS ⊢
    refine lv_if_eq (tgt := 53) hx hb dX11_shut_46 (by decide) (fun hc => ?_) (fun hc => ?_)
    · have hw := hw.1 hc
      refine lv_iconst (v := 0) hx hb dX11_shut_53 (by decide) ?_
      rw [hQ]
      exact W.zret (v := 0) (ty := .boolean) hx hb hr rfl (fun t ht hW => ⟨⟨0, (u1, u3), rfl, hw, by rw [ht]; exact hP, va_K.moved hW.alike hK, hD⟩, hS.F ht⟩) hS.2.2 dX11_shut_54
    · have hw := hw.2 hc
      refine lv_iconst (v := 1) hx hb dX11_shut_49 (by decide) ?_
      refine lv_goto (tgt := 54) hx hb dX11_shut_50 (by decide) ?_
      rw [hQ]
      exact W.zret (v := 1) (ty := .boolean) hx hb hr rfl (fun t ht hW => ⟨⟨1, (u1, u3), rfl, hw, by rw [ht]; exact hP, va_K.moved hW.alike hK, hD⟩, hS.F ht⟩) hS.2.2 dX11_shut_54
set_option maxRecDepth 100000 in
set_option maxHeartbeats 4000000 in
theorem bX11_shut_25 {p : Program} {l : Launch} {e : Env} {s : State} {m : MethodId} {args : Array Value} {below : List Frame} {meth : Method} {c : Code} {dC : Nat → ClassId} {dI : Nat → Nat → Nat} {cyI cyB cyJ cyZ : ClassId} {A : Nat → Prop} {a0 a1 a2 b0_image b0_before b0_taken b0_tape b0_five b0_far b0_lead b0_walk b0_ends b0_manX b0_manY b0_dogX b0_dogY b0_row b0_round b0_farOne b0_leads b0_drags b0_from b0_near : Nat} {g0_hasImage : Int32} {g0_remembered : Int32} {g0_taped : Int32} {g0_point : Int32} {g0_end : Int32} {g0_begin : Int32} {g0_deep : Int32} {g0_faultAt : Int32} {g0_steps : Int32} {g0_men : Int32} {g0_dogs : Int32} (C0 : cxM p s m meth c args wsX11_shut RX11 cX11_shut 5 (some .boolean)) (hK : va_K (dC, dI) vwCl (tyA cyI cyB cyJ cyZ) s) (hN : nwA s) (hA : ∀ q : Nat, s.heap.size ≤ q → A q) {post : Int32 → (Int32 × (Nat → Int32)) → Prop} {f1 : Nat → Int32} {Q : State → Prop} (hQ : Q = MQ below (va_Qi post (fun u : Int32 × (Nat → Int32) => wAt dC dI cyI cyB cyJ cyZ A (ceX11_shut cyI cyB cyJ cyZ a0 a1 a2 b0_image b0_before b0_taken b0_tape b0_five b0_far b0_lead b0_walk b0_ends b0_manX b0_manY b0_dogX b0_dogY b0_row b0_round b0_farOne b0_leads b0_drags b0_from b0_near g0_hasImage g0_remembered g0_taped g0_point g0_end g0_begin g0_deep g0_faultAt g0_steps g0_men g0_dogs f1 u.1 u.2)) A) args s 0 0 A) : ∀ (g0_thrown : Int32) (f2 : Nat → Int32) (x1 : Int32) (x2 : Int32) (x3 : Int32) (x4 : Int32), wpX11_shut_25 post f1 g0_thrown f2 x1 x2 x3 x4 → AtW p l e rmX11_shut s m args below meth c dC dI A Q 5 0 0 (ceX11_shut cyI cyB cyJ cyZ a0 a1 a2 b0_image b0_before b0_taken b0_tape b0_five b0_far b0_lead b0_walk b0_ends b0_manX b0_manY b0_dogX b0_dogY b0_row b0_round b0_farOne b0_leads b0_drags b0_from b0_near g0_hasImage g0_remembered g0_taped g0_point g0_end g0_begin g0_deep g0_faultAt g0_steps g0_men g0_dogs f1 g0_thrown f2) [(0, .ref a0), (1, .int x1), (2, .int x2), (3, .int x3), (4, .int x4)] 25 [.ref a0] := by
  intro g0_thrown f2 x1 x2 x3 x4 hw H locs hP hD hS ls hl
  have C1 := C0
  obtain ⟨hx, hb, hr, hml, hown, hts, hlocks⟩ := C1
  refine lv_iconst (v := 1) hx hb dX11_shut_25 (by decide) ?_
  refine lv_goto (tgt := 30) hx hb dX11_shut_26 (by decide) ?_
  exact bX11_shut_30 C0 hK hN hA hQ g0_thrown f2 x1 x2 x3 x4 1 hw _ _ hP hD hS ls (lv_sub hl [0, 1, 2, 3, 4] rfl)
set_option maxRecDepth 100000 in
set_option maxHeartbeats 4000000 in
theorem ctX11_shut (l : Launch) (dC : Nat → ClassId) (dI : Nat → Nat → Nat) (cyI cyB cyJ cyZ : ClassId) (sz : Nat) (a0 a1 a2 b0_image b0_before b0_taken b0_tape b0_five b0_far b0_lead b0_walk b0_ends b0_manX b0_manY b0_dogX b0_dogY b0_row b0_round b0_farOne b0_leads b0_drags b0_from b0_near : Nat) (g0_hasImage : Int32) (g0_remembered : Int32) (g0_taped : Int32) (g0_point : Int32) (g0_end : Int32) (g0_begin : Int32) (g0_deep : Int32) (g0_faultAt : Int32) (g0_steps : Int32) (g0_men : Int32) (g0_dogs : Int32) (f1 : Nat → Int32) (g0_thrown : Int32) (f2 : Nat → Int32) (p0 : Int32) (p1 : Int32) (p2 : Int32) (p3 : Int32) (post : Int32 → (Int32 × (Nat → Int32)) → Prop) (hw : wpX11_shut post f1 g0_thrown f2 p0 p1 p2 p3) : Met l yX11_shut wsX11_shut rmX11_shut (va_Pc [.ref a0, .int p0, .int p1, .int p2, .int p3] (wPre dC dI cyI cyB cyJ cyZ sz (ceX11_shut cyI cyB cyJ cyZ a0 a1 a2 b0_image b0_before b0_taken b0_tape b0_five b0_far b0_lead b0_walk b0_ends b0_manX b0_manY b0_dogX b0_dogY b0_row b0_round b0_farOne b0_leads b0_drags b0_from b0_near g0_hasImage g0_remembered g0_taped g0_point g0_end g0_begin g0_deep g0_faultAt g0_steps g0_men g0_dogs f1 g0_thrown f2))) (va_Qi post (fun u : Int32 × (Nat → Int32) => wAt dC dI cyI cyB cyJ cyZ (va_A (ceX11_shut cyI cyB cyJ cyZ a0 a1 a2 b0_image b0_before b0_taken b0_tape b0_five b0_far b0_lead b0_walk b0_ends b0_manX b0_manY b0_dogX b0_dogY b0_row b0_round b0_farOne b0_leads b0_drags b0_from b0_near g0_hasImage g0_remembered g0_taped g0_point g0_end g0_begin g0_deep g0_faultAt g0_steps g0_men g0_dogs f1 g0_thrown f2) sz) (ceX11_shut cyI cyB cyJ cyZ a0 a1 a2 b0_image b0_before b0_taken b0_tape b0_five b0_far b0_lead b0_walk b0_ends b0_manX b0_manY b0_dogX b0_dogY b0_row b0_round b0_farOne b0_leads b0_drags b0_from b0_near g0_hasImage g0_remembered g0_taped g0_point g0_end g0_begin g0_deep g0_faultAt g0_steps g0_men g0_dogs f1 u.1 u.2)) (va_A (ceX11_shut cyI cyB cyJ cyZ a0 a1 a2 b0_image b0_before b0_taken b0_tape b0_five b0_far b0_lead b0_walk b0_ends b0_manX b0_manY b0_dogX b0_dogY b0_row b0_round b0_farOne b0_leads b0_drags b0_from b0_near g0_hasImage g0_remembered g0_taped g0_point g0_end g0_begin g0_deep g0_faultAt g0_steps g0_men g0_dogs f1 g0_thrown f2) sz)) 0 0 (va_A (ceX11_shut cyI cyB cyJ cyZ a0 a1 a2 b0_image b0_before b0_taken b0_tape b0_five b0_far b0_lead b0_walk b0_ends b0_manX b0_manY b0_dogX b0_dogY b0_row b0_round b0_farOne b0_leads b0_drags b0_from b0_near g0_hasImage g0_remembered g0_taped g0_point g0_end g0_begin g0_deep g0_faultAt g0_steps g0_men g0_dogs f1 g0_thrown f2) sz) := by
  refine Met.ofW (cc := cX11_shut) (maxL := 5) (ret := (some .boolean)) (by decide) rfl ?_
  intro p e s m args below meth c s₁ B hml hv
  obtain ⟨rfl, hsz, hP, hK, hD0, hN⟩ := hv
  have hx := B.exec
  have hb := B.bytes
  have hr := B.returns
  have hts := atoms_spec (ws := wsX11_shut) B.pre
  have hown : s.vm.findClass RX11 = some m.cls := findClass_of_methodNamed B.named
  have hlocks := B.notSynchronized
  subst hsz
  have hD := hD0.self (sz := s.heap.size)
  generalize hAe : va_A (ceX11_shut cyI cyB cyJ cyZ a0 a1 a2 b0_image b0_before b0_taken b0_tape b0_five b0_far b0_lead b0_walk b0_ends b0_manX b0_manY b0_dogX b0_dogY b0_row b0_round b0_farOne b0_leads b0_drags b0_from b0_near g0_hasImage g0_remembered g0_taped g0_point g0_end g0_begin g0_deep g0_faultAt g0_steps g0_men g0_dogs f1 g0_thrown f2) s.heap.size = A at hD ⊢
  have hA : ∀ q : Nat, s.heap.size ≤ q → A q := fun q h => by rw [← hAe]; exact Or.inr h
  have hS : va_S A s.heap s.heap [] := va_S.rf
  have C0 : cxM p s m meth c _ wsX11_shut RX11 cX11_shut 5 (some .boolean) := ⟨hx, hb, hr, hml, hown, hts, hlocks⟩
  have hl := lv_entry ([.ref a0, .int p0, .int p1, .int p2, .int p3]) (n := 5) (Nat.le_of_ble_eq_true rfl)
  rw [lg_entry_eq]
  generalize (lg_sl ([.ref a0, .int p0, .int p1, .int p2, .int p3]) ++ List.replicate (5 - (lg_sl ([.ref a0, .int p0, .int p1, .int p2, .int p3])).length) Slot.unset).toArray = ls at hl ⊢
  have hl : lv_has ls 5 [(0, .ref a0), (1, .int p0), (2, .int p1), (3, .int p2), (4, .int p3)] := hl
  show W p l e rmX11_shut s m _ below meth c _ _ _ _ _ _
  refine wq (fun Q hQ => ?_)
  refine lv_aload_n hx hb dX11_shut_0 rfl (lv_at hl 0 rfl) ?_
  refine lv_iconst (v := 0) hx hb dX11_shut_1 (by decide) ?_
  refine va_put (D := (dC, dI)) (ci := 11) (v := .int 0) (ty := .int) (C := RX11) (T := TX11) (N := 34) hx hb hts inX11_shut_X11 tyX11 tyX11_ok nmX11 hown hK hP hD hS 0 rfl rfl 0 (by decide) (hts (.fieldLink RX11 3 "LeadParkModel" "thrown" "I") (List.mem_of_getElem? (i := 1) rfl)) (fun _ h9 => h9) rfl (by decide +kernel) rfl rfl (Nat.le_of_ble_eq_true rfl) dX11_shut_2 (fun H locs hP hD hS => ?_)
  have hP : va_P (dC, dI) vwCl (ceX11_shut cyI cyB cyJ cyZ a0 a1 a2 b0_image b0_before b0_taken b0_tape b0_five b0_far b0_lead b0_walk b0_ends b0_manX b0_manY b0_dogX b0_dogY b0_row b0_round b0_farOne b0_leads b0_drags b0_from b0_near g0_hasImage g0_remembered g0_taped g0_point g0_end g0_begin g0_deep g0_faultAt g0_steps g0_men g0_dogs f1 0 f2) H := hP
  have hD : va_D A (ceX11_shut cyI cyB cyJ cyZ a0 a1 a2 b0_image b0_before b0_taken b0_tape b0_five b0_far b0_lead b0_walk b0_ends b0_manX b0_manY b0_dogX b0_dogY b0_row b0_round b0_farOne b0_leads b0_drags b0_from b0_near g0_hasImage g0_remembered g0_taped g0_point g0_end g0_begin g0_deep g0_faultAt g0_steps g0_men g0_dogs f1 0 f2) := hD
  refine lv_aload_n hx hb dX11_shut_5 rfl (lv_at hl 0 rfl) ?_
  refine lv_aload_n hx hb dX11_shut_6 rfl (lv_at hl 0 rfl) ?_
  refine lv_iload_n hx hb dX11_shut_7 rfl (lv_at hl 1 rfl) ?_
  refine lv_iload_n hx hb dX11_shut_8 rfl (lv_at hl 2 rfl) ?_
  have hPc := hP.sub (ws' := (ceX11_noCorner cyI cyB cyJ cyZ a0 a1 b0_image b0_before b0_taken b0_tape b0_five a2 b0_far b0_lead b0_walk b0_ends b0_manX b0_manY b0_dogX b0_dogY b0_row b0_round b0_farOne b0_leads b0_drags b0_from b0_near 0 g0_hasImage g0_remembered g0_taped g0_point g0_end g0_begin g0_deep g0_faultAt g0_steps g0_men g0_dogs f1)) [0, 1] rfl
  have hDc := hD.sub (ws' := (ceX11_noCorner cyI cyB cyJ cyZ a0 a1 b0_image b0_before b0_taken b0_tape b0_five a2 b0_far b0_lead b0_walk b0_ends b0_manX b0_manY b0_dogX b0_dogY b0_row b0_round b0_farOne b0_leads b0_drags b0_from b0_near 0 g0_hasImage g0_remembered g0_taped g0_point g0_end g0_begin g0_deep g0_faultAt g0_steps g0_men g0_dogs f1)) [0, 1] (by decide) rfl
  have hFc := va_free (wc := (ceX11_noCorner cyI cyB cyJ cyZ a0 a1 b0_image b0_before b0_taken b0_tape b0_five a2 b0_far b0_lead b0_walk b0_ends b0_manX b0_manY b0_dogX b0_dogY b0_row b0_round b0_farOne b0_leads b0_drags b0_from b0_near 0 g0_hasImage g0_remembered g0_taped g0_point g0_end g0_begin g0_deep g0_faultAt g0_steps g0_men g0_dogs f1)) hD hS hA [0, 1] rfl
  refine va_calli (va_runV (As := [.int p0, .int p1]) (rest := [.ref a0]) ⟨hx, hb, hml, hown, hts⟩ (ctX11_noCorner l dC dI cyI cyB cyJ cyZ _ a0 a1 b0_image b0_before b0_taken b0_tape b0_five a2 b0_far b0_lead b0_walk b0_ends b0_manX b0_manY b0_dogX b0_dogY b0_row b0_round b0_farOne b0_leads b0_drags b0_from b0_near 0 g0_hasImage g0_remembered g0_taped g0_point g0_end g0_begin g0_deep g0_faultAt g0_steps g0_men g0_dogs f1 p0 p1 _ hw) (cwV 2 hts gX11_shut_X11_noCorner rfl rfl rfl (by decide +kernel) ⟨Nat.le_of_ble_eq_true rfl, Nat.le_of_ble_eq_true rfl⟩) ⟨wPre_blind, va_recv hK hPc (ci := 11) (q0 := 0) rfl rfl, fun U hU hW => wPre_of hPc hK hDc hN hU hW⟩ rfl rfl hl.1 rfl (lv_room (Nat.le_of_ble_eq_true rfl)) dX11_shut_9 ⟨(Nat.zero_le _), (Nat.zero_le _)⟩) hS (fun q _ h => hFc q h) hFc (fun r2 u1 t H1 locs ht hvm hw hB hz1 hk1 hS => ?_)
  obtain ⟨hP1, hK1, hD1⟩ := hB
  rw [ht] at hP1
  obtain ⟨hP, hD⟩ := va_join (wr := pickW (ceX11_shut cyI cyB cyJ cyZ a0 a1 a2 b0_image b0_before b0_taken b0_tape b0_five b0_far b0_lead b0_walk b0_ends b0_manX b0_manY b0_dogX b0_dogY b0_row b0_round b0_farOne b0_leads b0_drags b0_from b0_near g0_hasImage g0_remembered g0_taped g0_point g0_end g0_begin g0_deep g0_faultAt g0_steps g0_men g0_dogs f1 0 f2) [2]) (w1 := (ceX11_noCorner cyI cyB cyJ cyZ a0 a1 b0_image b0_before b0_taken b0_tape b0_five a2 b0_far b0_lead b0_walk b0_ends b0_manX b0_manY b0_dogX b0_dogY b0_row b0_round b0_farOne b0_leads b0_drags b0_from b0_near 0 g0_hasImage g0_remembered g0_taped g0_point g0_end g0_begin g0_deep g0_faultAt g0_steps g0_men g0_dogs f1)) hP hD [0, 1] [2] rfl rfl (by decide) (by decide) hk1 hFc hP1 hD1
  have hP := hP.sub (ws' := (ceX11_shut cyI cyB cyJ cyZ a0 a1 a2 b0_image b0_before b0_taken b0_tape b0_five b0_far b0_lead b0_walk b0_ends b0_manX b0_manY b0_dogX b0_dogY b0_row b0_round b0_farOne b0_leads b0_drags b0_from b0_near g0_hasImage g0_remembered g0_taped g0_point g0_end g0_begin g0_deep g0_faultAt g0_steps g0_men g0_dogs f1 0 f2)) [1, 2, 0] rfl
  have hD := hD.sub (ws' := (ceX11_shut cyI cyB cyJ cyZ a0 a1 a2 b0_image b0_before b0_taken b0_tape b0_five b0_far b0_lead b0_walk b0_ends b0_manX b0_manY b0_dogX b0_dogY b0_row b0_round b0_farOne b0_leads b0_drags b0_from b0_near g0_hasImage g0_remembered g0_taped g0_point g0_end g0_begin g0_deep g0_faultAt g0_steps g0_men g0_dogs f1 0 f2)) [1, 2, 0] (by decide) rfl
  generalize H1 = H at hP hS ⊢
  refine lv_if_ne (tgt := 25) hx hb dX11_shut_12 (by decide) (fun hc => ?_) (fun hc => ?_)
  · have hw := hw.1 hc
    exact bX11_shut_25 C0 hK hN hA hQ 0 f2 p0 p1 p2 p3 hw _ _ hP hD hS ls (lv_sub hl [0, 1, 2, 3, 4] rfl)
  · have hw := hw.2 hc
    refine lv_aload_n hx hb dX11_shut_15 rfl (lv_at hl 0 rfl) ?_
    refine lv_iload_n hx hb dX11_shut_16 rfl (lv_at hl 3 rfl) ?_
    refine lv_iload hx hb dX11_shut_17 (lv_at hl 4 rfl) ?_
    have hPc := hP.sub (ws' := (ceX11_noCorner cyI cyB cyJ cyZ a0 a1 b0_image b0_before b0_taken b0_tape b0_five a2 b0_far b0_lead b0_walk b0_ends b0_manX b0_manY b0_dogX b0_dogY b0_row b0_round b0_farOne b0_leads b0_drags b0_from b0_near 0 g0_hasImage g0_remembered g0_taped g0_point g0_end g0_begin g0_deep g0_faultAt g0_steps g0_men g0_dogs f1)) [0, 1] rfl
    have hDc := hD.sub (ws' := (ceX11_noCorner cyI cyB cyJ cyZ a0 a1 b0_image b0_before b0_taken b0_tape b0_five a2 b0_far b0_lead b0_walk b0_ends b0_manX b0_manY b0_dogX b0_dogY b0_row b0_round b0_farOne b0_leads b0_drags b0_from b0_near 0 g0_hasImage g0_remembered g0_taped g0_point g0_end g0_begin g0_deep g0_faultAt g0_steps g0_men g0_dogs f1)) [0, 1] (by decide) rfl
    have hFc := va_free (wc := (ceX11_noCorner cyI cyB cyJ cyZ a0 a1 b0_image b0_before b0_taken b0_tape b0_five a2 b0_far b0_lead b0_walk b0_ends b0_manX b0_manY b0_dogX b0_dogY b0_row b0_round b0_farOne b0_leads b0_drags b0_from b0_near 0 g0_hasImage g0_remembered g0_taped g0_point g0_end g0_begin g0_deep g0_faultAt g0_steps g0_men g0_dogs f1)) hD hS hA [0, 1] rfl
    refine va_calli (va_runV (As := [.int p2, .int p3]) (rest := [.ref a0]) ⟨hx, hb, hml, hown, hts⟩ (ctX11_noCorner l dC dI cyI cyB cyJ cyZ _ a0 a1 b0_image b0_before b0_taken b0_tape b0_five a2 b0_far b0_lead b0_walk b0_ends b0_manX b0_manY b0_dogX b0_dogY b0_row b0_round b0_farOne b0_leads b0_drags b0_from b0_near 0 g0_hasImage g0_remembered g0_taped g0_point g0_end g0_begin g0_deep g0_faultAt g0_steps g0_men g0_dogs f1 p2 p3 _ hw) (cwV 2 hts gX11_shut_X11_noCorner rfl rfl rfl (by decide +kernel) ⟨Nat.le_of_ble_eq_true rfl, Nat.le_of_ble_eq_true rfl⟩) ⟨wPre_blind, va_recv hK hPc (ci := 11) (q0 := 0) rfl rfl, fun U hU hW => wPre_of hPc hK hDc hN hU hW⟩ rfl rfl hl.1 rfl (lv_room (Nat.le_of_ble_eq_true rfl)) dX11_shut_19 ⟨(Nat.zero_le _), (Nat.zero_le _)⟩) hS (fun q _ h => hFc q h) hFc (fun r4 u3 t H1 locs ht hvm hw hB hz1 hk1 hS => ?_)
    obtain ⟨hP1, hK1, hD1⟩ := hB
    rw [ht] at hP1
    obtain ⟨hP, hD⟩ := va_join (wr := pickW (ceX11_shut cyI cyB cyJ cyZ a0 a1 a2 b0_image b0_before b0_taken b0_tape b0_five b0_far b0_lead b0_walk b0_ends b0_manX b0_manY b0_dogX b0_dogY b0_row b0_round b0_farOne b0_leads b0_drags b0_from b0_near g0_hasImage g0_remembered g0_taped g0_point g0_end g0_begin g0_deep g0_faultAt g0_steps g0_men g0_dogs f1 0 f2) [2]) (w1 := (ceX11_noCorner cyI cyB cyJ cyZ a0 a1 b0_image b0_before b0_taken b0_tape b0_five a2 b0_far b0_lead b0_walk b0_ends b0_manX b0_manY b0_dogX b0_dogY b0_row b0_round b0_farOne b0_leads b0_drags b0_from b0_near 0 g0_hasImage g0_remembered g0_taped g0_point g0_end g0_begin g0_deep g0_faultAt g0_steps g0_men g0_dogs f1)) hP hD [0, 1] [2] rfl rfl (by decide) (by decide) hk1 hFc hP1 hD1
    have hP := hP.sub (ws' := (ceX11_shut cyI cyB cyJ cyZ a0 a1 a2 b0_image b0_before b0_taken b0_tape b0_five b0_far b0_lead b0_walk b0_ends b0_manX b0_manY b0_dogX b0_dogY b0_row b0_round b0_farOne b0_leads b0_drags b0_from b0_near g0_hasImage g0_remembered g0_taped g0_point g0_end g0_begin g0_deep g0_faultAt g0_steps g0_men g0_dogs f1 0 f2)) [1, 2, 0] rfl
    have hD := hD.sub (ws' := (ceX11_shut cyI cyB cyJ cyZ a0 a1 a2 b0_image b0_before b0_taken b0_tape b0_five b0_far b0_lead b0_walk b0_ends b0_manX b0_manY b0_dogX b0_dogY b0_row b0_round b0_farOne b0_leads b0_drags b0_from b0_near g0_hasImage g0_remembered g0_taped g0_point g0_end g0_begin g0_deep g0_faultAt g0_steps g0_men g0_dogs f1 0 f2)) [1, 2, 0] (by decide) rfl
    generalize H1 = H at hP hS ⊢
    refine lv_if_eq (tgt := 29) hx hb dX11_shut_22 (by decide) (fun hc => ?_) (fun hc => ?_)
    · have hw := hw.1 hc
      refine lv_iconst (v := 0) hx hb dX11_shut_29 (by decide) ?_
      exact bX11_shut_30 C0 hK hN hA hQ 0 f2 p0 p1 p2 p3 0 hw _ _ hP hD hS ls (lv_sub hl [0, 1, 2, 3, 4] rfl)
    · have hw := hw.2 hc
      exact bX11_shut_25 C0 hK hN hA hQ 0 f2 p0 p1 p2 p3 hw _ _ hP hD hS ls (lv_sub hl [0, 1, 2, 3, 4] rfl)
/-! LeadParkModel.lays (II)V -/
abbrev ceX11_lays (cyI cyB cyJ cyZ : ClassId) (a0 a1 a2 a3 b0_image b0_before b0_taken b0_tape b0_five b0_lead b0_walk b0_ends b0_manX b0_manY b0_dogX b0_dogY b0_row b0_round b0_farOne b0_leads b0_drags b0_from b0_near : Nat) (g0_thrown : Int32) (g0_hasImage : Int32) (g0_remembered : Int32) (g0_taped : Int32) (g0_point : Int32) (g0_end : Int32) (g0_begin : Int32) (g0_deep : Int32) (g0_faultAt : Int32) (g0_steps : Int32) (f1 : Nat → Int32) (g0_men : Int32) (g0_dogs : Int32) (f2 : Nat → Int32) (f3 : Nat → Int32) : va_W := [(a0, .inr (11, [.int g0_thrown, .ref a1, .ref b0_image, .ref b0_before, .int g0_hasImage, .ref b0_taken, .int g0_remembered, .ref b0_tape, .int g0_taped, .int g0_point, .int g0_end, .int g0_begin, .int g0_deep, .int g0_faultAt, .ref b0_five, .int g0_steps, .ref a2, .ref a3, .int g0_men, .int g0_dogs, .ref b0_lead, .ref b0_walk, .ref b0_ends, .ref b0_manX, .ref b0_manY, .ref b0_dogX, .ref b0_dogY, .ref b0_row, .ref b0_round, .ref b0_farOne, .ref b0_leads, .ref b0_drags, .ref b0_from, .ref b0_near])), (a1, .inl (cyI, 2508, .inl f1)), (a2, .inl (cyI, 400, .inl f2)), (a3, .inl (cyI, 900, .inl f3))]

theorem inX11_lays_X11 : ∀ w ∈ wsX110, w ∈ wsX11_lays := fun _ h => List.mem_cons_of_mem _ (List.mem_append_right _ h)
abbrev rmX11_lays : Room := { frames := 5, cells := 0, slots := 0, locals := 142 }
def wpX11_lays_78 (k31 : Int32 → Int32 → (Nat → Int32) → (Nat → Int32) → Int32 → Int32 → Int32 → Int32 → Prop) (k20 : Int32 → Int32 → (Nat → Int32) → (Nat → Int32) → Int32 → Int32 → Int32 → Prop) (post : (Int32 × Int32 × (Nat → Int32) × (Nat → Int32)) → Prop) (f1 : Nat → Int32) (g0_men : Int32) (g0_dogs : Int32) (f2 : Nat → Int32) (f3 : Nat → Int32) (x1 : Int32) (x2 : Int32) (x3 : Int32) (x4 : Int32) (s1 : Int32) (s2 : Int32) : Prop :=
  vp_in s1 900 ∧
  ∀ v1 : Int32, v1 = x4 + 1 →
  k31 g0_men g0_dogs f2 (upd f3 s1.toNatClampNeg s2) x1 x2 x3 v1
def wpX11_lays_31 (k20 : Int32 → Int32 → (Nat → Int32) → (Nat → Int32) → Int32 → Int32 → Int32 → Prop) (post : (Int32 × Int32 × (Nat → Int32) × (Nat → Int32)) → Prop) (f1 : Nat → Int32) : Nat → Int32 → Int32 → (Nat → Int32) → (Nat → Int32) → Int32 → Int32 → Int32 → Int32 → Prop
  | 0, _, _, _, _, _, _, _, _ => False
  | n_31 + 1, g0_men, g0_dogs, f2, f3, x1, x2, x3, x4 =>
    (g0_dogs ≤ x4 →
     ∀ v1 : Int32, v1 = x3 + 1 →
     k20 g0_men g0_dogs f2 f3 x1 x2 v1) ∧
    (¬ g0_dogs ≤ x4 →
     wpX11_isShut (fun (r3 : Int32) (u2 : (Nat → Int32)) =>
      (r3 = 0 →
       wpX11_farAt (fun (r5 : Int32) (u4 : Unit) =>
        wpX11_lays_78 (fun y0 y1 y2 y3 y4 y5 y6 y7 => wpX11_lays_31 k20 post f1 n_31 y0 y1 y2 y3 y4 y5 y6 y7) k20 post f1 g0_men g0_dogs u2 f3 x1 x2 x3 x4 ((30 * x3) + x4) r5) f1 x1 x3 x2 x4) ∧
      (¬ r3 = 0 →
       wpX11_lays_78 (fun y0 y1 y2 y3 y4 y5 y6 y7 => wpX11_lays_31 k20 post f1 n_31 y0 y1 y2 y3 y4 y5 y6 y7) k20 post f1 g0_men g0_dogs u2 f3 x1 x2 x3 x4 ((30 * x3) + x4) 2000000000)) f1 f2 x1 x3 x2 x4)
def wpX11_lays_20 (post : (Int32 × Int32 × (Nat → Int32) × (Nat → Int32)) → Prop) (f1 : Nat → Int32) : Nat → Int32 → Int32 → (Nat → Int32) → (Nat → Int32) → Int32 → Int32 → Int32 → Prop
  | 0, _, _, _, _, _, _, _ => False
  | n_20 + 1, g0_men, g0_dogs, f2, f3, x1, x2, x3 =>
    (g0_men ≤ x3 →
     post (g0_men, g0_dogs, f2, f3)) ∧
    (¬ g0_men ≤ x3 →
     ∃ n_31 : Nat, wpX11_lays_31 (fun y0 y1 y2 y3 y4 y5 y6 => wpX11_lays_20 post f1 n_20 y0 y1 y2 y3 y4 y5 y6) post f1 n_31 g0_men g0_dogs f2 f3 x1 x2 x3 0)
def wpX11_lays (post : (Int32 × Int32 × (Nat → Int32) × (Nat → Int32)) → Prop) (f1 : Nat → Int32) (g0_men : Int32) (g0_dogs : Int32) (f2 : Nat → Int32) (f3 : Nat → Int32) (p0 : Int32) (p1 : Int32) : Prop :=
  wpX11_cornersOf (fun (r2 : Int32) (u1 : Unit) =>
   wpX11_cornersOf (fun (r4 : Int32) (u3 : Unit) =>
    ∃ n_20 : Nat, wpX11_lays_20 post f1 n_20 r2 r4 f2 f3 p0 p1 0) f1 p1) f1 p0
set_option maxRecDepth 100000 in
set_option maxHeartbeats 4000000 in
theorem bX11_lays_78 {p : Program} {l : Launch} {e : Env} {s : State} {m : MethodId} {args : Array Value} {below : List Frame} {meth : Method} {c : Code} {dC : Nat → ClassId} {dI : Nat → Nat → Nat} {cyI cyB cyJ cyZ : ClassId} {A : Nat → Prop} {a0 a1 a2 a3 b0_image b0_before b0_taken b0_tape b0_five b0_lead b0_walk b0_ends b0_manX b0_manY b0_dogX b0_dogY b0_row b0_round b0_farOne b0_leads b0_drags b0_from b0_near : Nat} {g0_thrown : Int32} {g0_hasImage : Int32} {g0_remembered : Int32} {g0_taped : Int32} {g0_point : Int32} {g0_end : Int32} {g0_begin : Int32} {g0_deep : Int32} {g0_faultAt : Int32} {g0_steps : Int32} (C0 : cxM p s m meth c args wsX11_lays RX11 cX11_lays 5 none) (hK : va_K (dC, dI) vwCl (tyA cyI cyB cyJ cyZ) s) (hN : nwA s) (hA : ∀ q : Nat, s.heap.size ≤ q → A q) {post : (Int32 × Int32 × (Nat → Int32) × (Nat → Int32)) → Prop} {f1 : Nat → Int32} {k31 : Int32 → Int32 → (Nat → Int32) → (Nat → Int32) → Int32 → Int32 → Int32 → Int32 → Prop} {k20 : Int32 → Int32 → (Nat → Int32) → (Nat → Int32) → Int32 → Int32 → Int32 → Prop} {Q : State → Prop} (hQ : Q = MQ below (va_Qv post (fun u : Int32 × Int32 × (Nat → Int32) × (Nat → Int32) => wAt dC dI cyI cyB cyJ cyZ A (ceX11_lays cyI cyB cyJ cyZ a0 a1 a2 a3 b0_image b0_before b0_taken b0_tape b0_five b0_lead b0_walk b0_ends b0_manX b0_manY b0_dogX b0_dogY b0_row b0_round b0_farOne b0_leads b0_drags b0_from b0_near g0_thrown g0_hasImage g0_remembered g0_taped g0_point g0_end g0_begin g0_deep g0_faultAt g0_steps f1 u.1 u.2.1 u.2.2.1 u.2.2.2)) A) args s 0 0 A) (hk31 : ∀ (g0_men : Int32) (g0_dogs : Int32) (f2 : Nat → Int32) (f3 : Nat → Int32) (x1 : Int32) (x2 : Int32) (x3 : Int32) (x4 : Int32), k31 g0_men g0_dogs f2 f3 x1 x2 x3 x4 → AtW p l e rmX11_lays s m args below meth c dC dI A Q 5 0 0 (ceX11_lays cyI cyB cyJ cyZ a0 a1 a2 a3 b0_image b0_before b0_taken b0_tape b0_five b0_lead b0_walk b0_ends b0_manX b0_manY b0_dogX b0_dogY b0_row b0_round b0_farOne b0_leads b0_drags b0_from b0_near g0_thrown g0_hasImage g0_remembered g0_taped g0_point g0_end g0_begin g0_deep g0_faultAt g0_steps f1 g0_men g0_dogs f2 f3) [(0, .ref a0), (1, .int x1), (2, .int x2), (3, .int x3), (4, .int x4)] 31 []) (hk20 : ∀ (g0_men : Int32) (g0_dogs : Int32) (f2 : Nat → Int32) (f3 : Nat → Int32) (x1 : Int32) (x2 : Int32) (x3 : Int32), k20 g0_men g0_dogs f2 f3 x1 x2 x3 → AtW p l e rmX11_lays s m args below meth c dC dI A Q 5 0 0 (ceX11_lays cyI cyB cyJ cyZ a0 a1 a2 a3 b0_image b0_before b0_taken b0_tape b0_five b0_lead b0_walk b0_ends b0_manX b0_manY b0_dogX b0_dogY b0_row b0_round b0_farOne b0_leads b0_drags b0_from b0_near g0_thrown g0_hasImage g0_remembered g0_taped g0_point g0_end g0_begin g0_deep g0_faultAt g0_steps f1 g0_men g0_dogs f2 f3) [(0, .ref a0), (1, .int x1), (2, .int x2), (3, .int x3)] 20 []) : ∀ (g0_men : Int32) (g0_dogs : Int32) (f2 : Nat → Int32) (f3 : Nat → Int32) (x1 : Int32) (x2 : Int32) (x3 : Int32) (x4 : Int32) (s1 : Int32) (s2 : Int32), wpX11_lays_78 k31 k20 post f1 g0_men g0_dogs f2 f3 x1 x2 x3 x4 s1 s2 → AtW p l e rmX11_lays s m args below meth c dC dI A Q 5 0 0 (ceX11_lays cyI cyB cyJ cyZ a0 a1 a2 a3 b0_image b0_before b0_taken b0_tape b0_five b0_lead b0_walk b0_ends b0_manX b0_manY b0_dogX b0_dogY b0_row b0_round b0_farOne b0_leads b0_drags b0_from b0_near g0_thrown g0_hasImage g0_remembered g0_taped g0_point g0_end g0_begin g0_deep g0_faultAt g0_steps f1 g0_men g0_dogs f2 f3) [(0, .ref a0), (1, .int x1), (2, .int x2), (3, .int x3), (4, .int x4)] 78 [.int s2, .int s1, .ref a3] := by
  intro g0_men g0_dogs f2 f3 x1 x2 x3 x4 s1 s2 hw H locs hP hD hS ls hl
  have C1 := C0
  obtain ⟨hx, hb, hr, hml, hown, hts, hlocks⟩ := C1
  obtain ⟨hi, hw⟩ := hw
  refine va_iast hx hb hK hP hD hS 3 0 rfl rfl hi dX11_lays_78 (fun H locs hP hD hS => ?_)
  have hP : va_P (dC, dI) vwCl (ceX11_lays cyI cyB cyJ cyZ a0 a1 a2 a3 b0_image b0_before b0_taken b0_tape b0_five b0_lead b0_walk b0_ends b0_manX b0_manY b0_dogX b0_dogY b0_row b0_round b0_farOne b0_leads b0_drags b0_from b0_near g0_thrown g0_hasImage g0_remembered g0_taped g0_point g0_end g0_begin g0_deep g0_faultAt g0_steps f1 g0_men g0_dogs f2 (upd f3 s1.toNatClampNeg s2)) H := hP
  have hD : va_D A (ceX11_lays cyI cyB cyJ cyZ a0 a1 a2 a3 b0_image b0_before b0_taken b0_tape b0_five b0_lead b0_walk b0_ends b0_manX b0_manY b0_dogX b0_dogY b0_row b0_round b0_farOne b0_leads b0_drags b0_from b0_near g0_thrown g0_hasImage g0_remembered g0_taped g0_point g0_end g0_begin g0_deep g0_faultAt g0_steps f1 g0_men g0_dogs f2 (upd f3 s1.toNatClampNeg s2)) := hD
  obtain ⟨v1, ev1⟩ : ∃ y : Int32, y = x4 + 1 := ⟨_, rfl⟩
  have hw := hw v1 ev1
  refine lv_iinc (v := v1) (lv' := [(4, .int v1), (0, .ref a0), (1, .int x1), (2, .int x2), (3, .int x3)]) hx hb dX11_lays_79 hl (k := 4) rfl (by rw [ev1]; rfl) (by decide) rfl (fun ls hl => ?_)
  refine lv_goto (tgt := 31) hx hb dX11_lays_82 (by decide) ?_
  exact hk31 g0_men g0_dogs f2 (upd f3 s1.toNatClampNeg s2) x1 x2 x3 v1 hw H locs hP hD hS ls (lv_sub hl [1, 2, 3, 4, 0] rfl)
set_option maxRecDepth 100000 in
set_option maxHeartbeats 4000000 in
theorem bX11_lays_31 {p : Program} {l : Launch} {e : Env} {s : State} {m : MethodId} {args : Array Value} {below : List Frame} {meth : Method} {c : Code} {dC : Nat → ClassId} {dI : Nat → Nat → Nat} {cyI cyB cyJ cyZ : ClassId} {A : Nat → Prop} {a0 a1 a2 a3 b0_image b0_before b0_taken b0_tape b0_five b0_lead b0_walk b0_ends b0_manX b0_manY b0_dogX b0_dogY b0_row b0_round b0_farOne b0_leads b0_drags b0_from b0_near : Nat} {g0_thrown : Int32} {g0_hasImage : Int32} {g0_remembered : Int32} {g0_taped : Int32} {g0_point : Int32} {g0_end : Int32} {g0_begin : Int32} {g0_deep : Int32} {g0_faultAt : Int32} {g0_steps : Int32} (C0 : cxM p s m meth c args wsX11_lays RX11 cX11_lays 5 none) (hK : va_K (dC, dI) vwCl (tyA cyI cyB cyJ cyZ) s) (hN : nwA s) (hA : ∀ q : Nat, s.heap.size ≤ q → A q) {post : (Int32 × Int32 × (Nat → Int32) × (Nat → Int32)) → Prop} {f1 : Nat → Int32} {k20 : Int32 → Int32 → (Nat → Int32) → (Nat → Int32) → Int32 → Int32 → Int32 → Prop} {Q : State → Prop} (hQ : Q = MQ below (va_Qv post (fun u : Int32 × Int32 × (Nat → Int32) × (Nat → Int32) => wAt dC dI cyI cyB cyJ cyZ A (ceX11_lays cyI cyB cyJ cyZ a0 a1 a2 a3 b0_image b0_before b0_taken b0_tape b0_five b0_lead b0_walk b0_ends b0_manX b0_manY b0_dogX b0_dogY b0_row b0_round b0_farOne b0_leads b0_drags b0_from b0_near g0_thrown g0_hasImage g0_remembered g0_taped g0_point g0_end g0_begin g0_deep g0_faultAt g0_steps f1 u.1 u.2.1 u.2.2.1 u.2.2.2)) A) args s 0 0 A) (hk20 : ∀ (g0_men : Int32) (g0_dogs : Int32) (f2 : Nat → Int32) (f3 : Nat → Int32) (x1 : Int32) (x2 : Int32) (x3 : Int32), k20 g0_men g0_dogs f2 f3 x1 x2 x3 → AtW p l e rmX11_lays s m args below meth c dC dI A Q 5 0 0 (ceX11_lays cyI cyB cyJ cyZ a0 a1 a2 a3 b0_image b0_before b0_taken b0_tape b0_five b0_lead b0_walk b0_ends b0_manX b0_manY b0_dogX b0_dogY b0_row b0_round b0_farOne b0_leads b0_drags b0_from b0_near g0_thrown g0_hasImage g0_remembered g0_taped g0_point g0_end g0_begin g0_deep g0_faultAt g0_steps f1 g0_men g0_dogs f2 f3) [(0, .ref a0), (1, .int x1), (2, .int x2), (3, .int x3)] 20 []) : ∀ (n : Nat) (g0_men : Int32) (g0_dogs : Int32) (f2 : Nat → Int32) (f3 : Nat → Int32) (x1 : Int32) (x2 : Int32) (x3 : Int32) (x4 : Int32), wpX11_lays_31 k20 post f1 n g0_men g0_dogs f2 f3 x1 x2 x3 x4 → AtW p l e rmX11_lays s m args below meth c dC dI A Q 5 0 0 (ceX11_lays cyI cyB cyJ cyZ a0 a1 a2 a3 b0_image b0_before b0_taken b0_tape b0_five b0_lead b0_walk b0_ends b0_manX b0_manY b0_dogX b0_dogY b0_row b0_round b0_farOne b0_leads b0_drags b0_from b0_near g0_thrown g0_hasImage g0_remembered g0_taped g0_point g0_end g0_begin g0_deep g0_faultAt g0_steps f1 g0_men g0_dogs f2 f3) [(0, .ref a0), (1, .int x1), (2, .int x2), (3, .int x3), (4, .int x4)] 31 [] := by
  intro n
  induction n with
  | zero => intro g0_men g0_dogs f2 f3 x1 x2 x3 x4 hw; exact False.elim hw
  | succ n ih =>
    intro g0_men g0_dogs f2 f3 x1 x2 x3 x4 hw H locs hP hD hS ls hl
    have C1 := C0
    obtain ⟨hx, hb, hr, hml, hown, hts, hlocks⟩ := C1
    refine lv_iload hx hb dX11_lays_31 (lv_at hl 4 rfl) ?_
    refine lv_aload_n hx hb dX11_lays_33 rfl (lv_at hl 0 rfl) ?_
    refine va_get (D := (dC, dI)) (ci := 11) (v := .int g0_dogs) (C := RX11) (T := TX11) (N := 34) hx hb hts inX11_lays_X11 hown hK hP 0 rfl rfl 19 (by decide) (hts (.fieldLink RX11 303 "LeadParkModel" "dogs" "I") (List.mem_of_getElem? (i := 2) rfl)) (fun _ h9 => h9) rfl dX11_lays_34 ?_
    refine lv_icmp_ge (tgt := 85) hx hb dX11_lays_37 (by decide) (fun hc => ?_) (fun hc => ?_)
    · have hw := hw.1 hc
      obtain ⟨v1, ev1⟩ : ∃ y : Int32, y = x3 + 1 := ⟨_, rfl⟩
      have hw := hw v1 ev1
      refine lv_iinc (v := v1) (lv' := [(3, .int v1), (0, .ref a0), (1, .int x1), (2, .int x2), (4, .int x4)]) hx hb dX11_lays_85 hl (k := 3) rfl (by rw [ev1]; rfl) (by decide) rfl (fun ls hl => ?_)
      refine lv_goto (tgt := 20) hx hb dX11_lays_88 (by decide) ?_
      exact hk20 g0_men g0_dogs f2 f3 x1 x2 v1 hw H locs hP hD hS ls (lv_sub hl [1, 2, 3, 0] rfl)
    · have hw := hw.2 hc
      refine lv_aload_n hx hb dX11_lays_40 rfl (lv_at hl 0 rfl) ?_
      refine va_get (D := (dC, dI)) (ci := 11) (v := .ref a3) (C := RX11) (T := TX11) (N := 34) hx hb hts inX11_lays_X11 hown hK hP 0 rfl rfl 17 (by decide) (hts (.fieldLink RX11 39 "LeadParkModel" "far" "[I") (List.mem_of_getElem? (i := 3) rfl)) (fun _ h9 => h9) rfl dX11_lays_41 ?_
      refine lv_bipush (v := 30) hx hb dX11_lays_44 (by decide) ?_
      refine lv_iload_n hx hb dX11_lays_46 rfl (lv_at hl 3 rfl) ?_
      refine lv_imul hx hb dX11_lays_47 ?_
      refine lv_iload hx hb dX11_lays_48 (lv_at hl 4 rfl) ?_
      refine lv_iadd hx hb dX11_lays_50 ?_
      refine lv_aload_n hx hb dX11_lays_51 rfl (lv_at hl 0 rfl) ?_
      refine lv_iload_n hx hb dX11_lays_52 rfl (lv_at hl 1 rfl) ?_
      refine lv_iload_n hx hb dX11_lays_53 rfl (lv_at hl 3 rfl) ?_
      refine lv_iload_n hx hb dX11_lays_54 rfl (lv_at hl 2 rfl) ?_
      refine lv_iload hx hb dX11_lays_55 (lv_at hl 4 rfl) ?_
      have hPc := hP.sub (ws' := (ceX11_isShut cyI cyB cyJ cyZ a0 a1 a2 b0_image b0_before b0_taken b0_tape b0_five a3 b0_lead b0_walk b0_ends b0_manX b0_manY b0_dogX b0_dogY b0_row b0_round b0_farOne b0_leads b0_drags b0_from b0_near g0_thrown g0_hasImage g0_remembered g0_taped g0_point g0_end g0_begin g0_deep g0_faultAt g0_steps g0_men g0_dogs f1 f2)) [0, 1, 2] rfl
      have hDc := hD.sub (ws' := (ceX11_isShut cyI cyB cyJ cyZ a0 a1 a2 b0_image b0_before b0_taken b0_tape b0_five a3 b0_lead b0_walk b0_ends b0_manX b0_manY b0_dogX b0_dogY b0_row b0_round b0_farOne b0_leads b0_drags b0_from b0_near g0_thrown g0_hasImage g0_remembered g0_taped g0_point g0_end g0_begin g0_deep g0_faultAt g0_steps g0_men g0_dogs f1 f2)) [0, 1, 2] (by decide) rfl
      have hFc := va_free (wc := (ceX11_isShut cyI cyB cyJ cyZ a0 a1 a2 b0_image b0_before b0_taken b0_tape b0_five a3 b0_lead b0_walk b0_ends b0_manX b0_manY b0_dogX b0_dogY b0_row b0_round b0_farOne b0_leads b0_drags b0_from b0_near g0_thrown g0_hasImage g0_remembered g0_taped g0_point g0_end g0_begin g0_deep g0_faultAt g0_steps g0_men g0_dogs f1 f2)) hD hS hA [0, 1, 2] rfl
      refine va_calli (va_runV (As := [.int x1, .int x3, .int x2, .int x4]) (rest := [.int ((30 * x3) + x4), .ref a3]) ⟨hx, hb, hml, hown, hts⟩ (ctX11_isShut l dC dI cyI cyB cyJ cyZ _ a0 a1 a2 b0_image b0_before b0_taken b0_tape b0_five a3 b0_lead b0_walk b0_ends b0_manX b0_manY b0_dogX b0_dogY b0_row b0_round b0_farOne b0_leads b0_drags b0_from b0_near g0_thrown g0_hasImage g0_remembered g0_taped g0_point g0_end g0_begin g0_deep g0_faultAt g0_steps g0_men g0_dogs f1 f2 x1 x3 x2 x4 _ hw) (cwV 4 hts gX11_lays_X11_isShut rfl rfl rfl (by decide +kernel) ⟨Nat.le_of_ble_eq_true rfl, Nat.le_of_ble_eq_true rfl⟩) ⟨wPre_blind, va_recv hK hPc (ci := 11) (q0 := 0) rfl rfl, fun U hU hW => wPre_of hPc hK hDc hN hU hW⟩ rfl rfl hl.1 rfl (lv_room (Nat.le_of_ble_eq_true rfl)) dX11_lays_57 ⟨(Nat.zero_le _), (Nat.zero_le _)⟩) hS (fun q _ h => hFc q h) hFc (fun r3 u2 t H1 locs ht hvm hw hB hz1 hk1 hS => ?_)
      obtain ⟨hP1, hK1, hD1⟩ := hB
      rw [ht] at hP1
      obtain ⟨hP, hD⟩ := va_join (wr := pickW (ceX11_lays cyI cyB cyJ cyZ a0 a1 a2 a3 b0_image b0_before b0_taken b0_tape b0_five b0_lead b0_walk b0_ends b0_manX b0_manY b0_dogX b0_dogY b0_row b0_round b0_farOne b0_leads b0_drags b0_from b0_near g0_thrown g0_hasImage g0_remembered g0_taped g0_point g0_end g0_begin g0_deep g0_faultAt g0_steps f1 g0_men g0_dogs f2 f3) [3]) (w1 := (ceX11_isShut cyI cyB cyJ cyZ a0 a1 a2 b0_image b0_before b0_taken b0_tape b0_five a3 b0_lead b0_walk b0_ends b0_manX b0_manY b0_dogX b0_dogY b0_row b0_round b0_farOne b0_leads b0_drags b0_from b0_near g0_thrown g0_hasImage g0_remembered g0_taped g0_point g0_end g0_begin g0_deep g0_faultAt g0_steps g0_men g0_dogs f1 u2)) hP hD [0, 1, 2] [3] rfl rfl (by decide) (by decide) hk1 hFc hP1 hD1
      have hP := hP.sub (ws' := (ceX11_lays cyI cyB cyJ cyZ a0 a1 a2 a3 b0_image b0_before b0_taken b0_tape b0_five b0_lead b0_walk b0_ends b0_manX b0_manY b0_dogX b0_dogY b0_row b0_round b0_farOne b0_leads b0_drags b0_from b0_near g0_thrown g0_hasImage g0_remembered g0_taped g0_point g0_end g0_begin g0_deep g0_faultAt g0_steps f1 g0_men g0_dogs u2 f3)) [1, 2, 3, 0] rfl
      have hD := hD.sub (ws' := (ceX11_lays cyI cyB cyJ cyZ a0 a1 a2 a3 b0_image b0_before b0_taken b0_tape b0_five b0_lead b0_walk b0_ends b0_manX b0_manY b0_dogX b0_dogY b0_row b0_round b0_farOne b0_leads b0_drags b0_from b0_near g0_thrown g0_hasImage g0_remembered g0_taped g0_point g0_end g0_begin g0_deep g0_faultAt g0_steps f1 g0_men g0_dogs u2 f3)) [1, 2, 3, 0] (by decide) rfl
      generalize H1 = H at hP hS ⊢
      refine lv_if_eq (tgt := 69) hx hb dX11_lays_60 (by decide) (fun hc => ?_) (fun hc => ?_)
      · have hw := hw.1 hc
        refine lv_aload_n hx hb dX11_lays_69 rfl (lv_at hl 0 rfl) ?_
        refine lv_iload_n hx hb dX11_lays_70 rfl (lv_at hl 1 rfl) ?_
        refine lv_iload_n hx hb dX11_lays_71 rfl (lv_at hl 3 rfl) ?_
        refine lv_iload_n hx hb dX11_lays_72 rfl (lv_at hl 2 rfl) ?_
        refine lv_iload hx hb dX11_lays_73 (lv_at hl 4 rfl) ?_
        have hPc := hP.sub (ws' := (ceX11_farAt cyI cyB cyJ cyZ a0 a1 b0_image b0_before b0_taken b0_tape b0_five a2 a3 b0_lead b0_walk b0_ends b0_manX b0_manY b0_dogX b0_dogY b0_row b0_round b0_farOne b0_leads b0_drags b0_from b0_near g0_thrown g0_hasImage g0_remembered g0_taped g0_point g0_end g0_begin g0_deep g0_faultAt g0_steps g0_men g0_dogs f1)) [0, 1] rfl
        have hDc := hD.sub (ws' := (ceX11_farAt cyI cyB cyJ cyZ a0 a1 b0_image b0_before b0_taken b0_tape b0_five a2 a3 b0_lead b0_walk b0_ends b0_manX b0_manY b0_dogX b0_dogY b0_row b0_round b0_farOne b0_leads b0_drags b0_from b0_near g0_thrown g0_hasImage g0_remembered g0_taped g0_point g0_end g0_begin g0_deep g0_faultAt g0_steps g0_men g0_dogs f1)) [0, 1] (by decide) rfl
        have hFc := va_free (wc := (ceX11_farAt cyI cyB cyJ cyZ a0 a1 b0_image b0_before b0_taken b0_tape b0_five a2 a3 b0_lead b0_walk b0_ends b0_manX b0_manY b0_dogX b0_dogY b0_row b0_round b0_farOne b0_leads b0_drags b0_from b0_near g0_thrown g0_hasImage g0_remembered g0_taped g0_point g0_end g0_begin g0_deep g0_faultAt g0_steps g0_men g0_dogs f1)) hD hS hA [0, 1] rfl
        refine va_calli (va_runV (As := [.int x1, .int x3, .int x2, .int x4]) (rest := [.int ((30 * x3) + x4), .ref a3]) ⟨hx, hb, hml, hown, hts⟩ (ctX11_farAt l dC dI cyI cyB cyJ cyZ _ a0 a1 b0_image b0_before b0_taken b0_tape b0_five a2 a3 b0_lead b0_walk b0_ends b0_manX b0_manY b0_dogX b0_dogY b0_row b0_round b0_farOne b0_leads b0_drags b0_from b0_near g0_thrown g0_hasImage g0_remembered g0_taped g0_point g0_end g0_begin g0_deep g0_faultAt g0_steps g0_men g0_dogs f1 x1 x3 x2 x4 _ hw) (cwV 4 hts gX11_lays_X11_farAt rfl rfl rfl (by decide +kernel) ⟨Nat.le_of_ble_eq_true rfl, Nat.le_of_ble_eq_true rfl⟩) ⟨wPre_blind, va_recv hK hPc (ci := 11) (q0 := 0) rfl rfl, fun U hU hW => wPre_of hPc hK hDc hN hU hW⟩ rfl rfl hl.1 rfl (lv_room (Nat.le_of_ble_eq_true rfl)) dX11_lays_75 ⟨(Nat.zero_le _), (Nat.zero_le _)⟩) hS (fun q _ h => hFc q h) hFc (fun r5 u4 t H1 locs ht hvm hw hB hz1 hk1 hS => ?_)
        obtain ⟨hP1, hK1, hD1⟩ := hB
        rw [ht] at hP1
        obtain ⟨hP, hD⟩ := va_join (wr := pickW (ceX11_lays cyI cyB cyJ cyZ a0 a1 a2 a3 b0_image b0_before b0_taken b0_tape b0_five b0_lead b0_walk b0_ends b0_manX b0_manY b0_dogX b0_dogY b0_row b0_round b0_farOne b0_leads b0_drags b0_from b0_near g0_thrown g0_hasImage g0_remembered g0_taped g0_point g0_end g0_begin g0_deep g0_faultAt g0_steps f1 g0_men g0_dogs u2 f3) [2, 3]) (w1 := (ceX11_farAt cyI cyB cyJ cyZ a0 a1 b0_image b0_before b0_taken b0_tape b0_five a2 a3 b0_lead b0_walk b0_ends b0_manX b0_manY b0_dogX b0_dogY b0_row b0_round b0_farOne b0_leads b0_drags b0_from b0_near g0_thrown g0_hasImage g0_remembered g0_taped g0_point g0_end g0_begin g0_deep g0_faultAt g0_steps g0_men g0_dogs f1)) hP hD [0, 1] [2, 3] rfl rfl (by decide) (by decide) hk1 hFc hP1 hD1
        have hP := hP.sub (ws' := (ceX11_lays cyI cyB cyJ cyZ a0 a1 a2 a3 b0_image b0_before b0_taken b0_tape b0_five b0_lead b0_walk b0_ends b0_manX b0_manY b0_dogX b0_dogY b0_row b0_round b0_farOne b0_leads b0_drags b0_from b0_near g0_thrown g0_hasImage g0_remembered g0_taped g0_point g0_end g0_begin g0_deep g0_faultAt g0_steps f1 g0_men g0_dogs u2 f3)) [2, 3, 0, 1] rfl
        have hD := hD.sub (ws' := (ceX11_lays cyI cyB cyJ cyZ a0 a1 a2 a3 b0_image b0_before b0_taken b0_tape b0_five b0_lead b0_walk b0_ends b0_manX b0_manY b0_dogX b0_dogY b0_row b0_round b0_farOne b0_leads b0_drags b0_from b0_near g0_thrown g0_hasImage g0_remembered g0_taped g0_point g0_end g0_begin g0_deep g0_faultAt g0_steps f1 g0_men g0_dogs u2 f3)) [2, 3, 0, 1] (by decide) rfl
        generalize H1 = H at hP hS ⊢
        exact bX11_lays_78 C0 hK hN hA hQ ih hk20 g0_men g0_dogs u2 f3 x1 x2 x3 x4 ((30 * x3) + x4) r5 hw _ _ hP hD hS ls (lv_sub hl [0, 1, 2, 3, 4] rfl)
      · have hw := hw.2 hc
        refine lv_ldcw (v := 2000000000) hx hb hown (hts (.constant RX11 306 (2000000000)) (List.mem_of_getElem? (i := 4) rfl)) dX11_lays_63 ?_
        refine lv_goto (tgt := 78) hx hb dX11_lays_66 (by decide) ?_
        exact bX11_lays_78 C0 hK hN hA hQ ih hk20 g0_men g0_dogs u2 f3 x1 x2 x3 x4 ((30 * x3) + x4) 2000000000 hw _ _ hP hD hS ls (lv_sub hl [0, 1, 2, 3, 4] rfl)
set_option maxRecDepth 100000 in
set_option maxHeartbeats 4000000 in
theorem bX11_lays_20 {p : Program} {l : Launch} {e : Env} {s : State} {m : MethodId} {args : Array Value} {below : List Frame} {meth : Method} {c : Code} {dC : Nat → ClassId} {dI : Nat → Nat → Nat} {cyI cyB cyJ cyZ : ClassId} {A : Nat → Prop} {a0 a1 a2 a3 b0_image b0_before b0_taken b0_tape b0_five b0_lead b0_walk b0_ends b0_manX b0_manY b0_dogX b0_dogY b0_row b0_round b0_farOne b0_leads b0_drags b0_from b0_near : Nat} {g0_thrown : Int32} {g0_hasImage : Int32} {g0_remembered : Int32} {g0_taped : Int32} {g0_point : Int32} {g0_end : Int32} {g0_begin : Int32} {g0_deep : Int32} {g0_faultAt : Int32} {g0_steps : Int32} (C0 : cxM p s m meth c args wsX11_lays RX11 cX11_lays 5 none) (hK : va_K (dC, dI) vwCl (tyA cyI cyB cyJ cyZ) s) (hN : nwA s) (hA : ∀ q : Nat, s.heap.size ≤ q → A q) {post : (Int32 × Int32 × (Nat → Int32) × (Nat → Int32)) → Prop} {f1 : Nat → Int32} {Q : State → Prop} (hQ : Q = MQ below (va_Qv post (fun u : Int32 × Int32 × (Nat → Int32) × (Nat → Int32) => wAt dC dI cyI cyB cyJ cyZ A (ceX11_lays cyI cyB cyJ cyZ a0 a1 a2 a3 b0_image b0_before b0_taken b0_tape b0_five b0_lead b0_walk b0_ends b0_manX b0_manY b0_dogX b0_dogY b0_row b0_round b0_farOne b0_leads b0_drags b0_from b0_near g0_thrown g0_hasImage g0_remembered g0_taped g0_point g0_end g0_begin g0_deep g0_faultAt g0_steps f1 u.1 u.2.1 u.2.2.1 u.2.2.2)) A) args s 0 0 A) : ∀ (n : Nat) (g0_men : Int32) (g0_dogs : Int32) (f2 : Nat → Int32) (f3 : Nat → Int32) (x1 : Int32) (x2 : Int32) (x3 : Int32), wpX11_lays_20 post f1 n g0_men g0_dogs f2 f3 x1 x2 x3 → AtW p l e rmX11_lays s m args below meth c dC dI A Q 5 0 0 (ceX11_lays cyI cyB cyJ cyZ a0 a1 a2 a3 b0_image b0_before b0_taken b0_tape b0_five b0_lead b0_walk b0_ends b0_manX b0_manY b0_dogX b0_dogY b0_row b0_round b0_farOne b0_leads b0_drags b0_from b0_near g0_thrown g0_hasImage g0_remembered g0_taped g0_point g0_end g0_begin g0_deep g0_faultAt g0_steps f1 g0_men g0_dogs f2 f3) [(0, .ref a0), (1, .int x1), (2, .int x2), (3, .int x3)] 20 [] := by
  intro n
  induction n with
  | zero => intro g0_men g0_dogs f2 f3 x1 x2 x3 hw; exact False.elim hw
  | succ n ih =>
    intro g0_men g0_dogs f2 f3 x1 x2 x3 hw H locs hP hD hS ls hl
    have C1 := C0
    obtain ⟨hx, hb, hr, hml, hown, hts, hlocks⟩ := C1
    refine lv_iload_n hx hb dX11_lays_20 rfl (lv_at hl 3 rfl) ?_
    refine lv_aload_n hx hb dX11_lays_21 rfl (lv_at hl 0 rfl) ?_
    refine va_get (D := (dC, dI)) (ci := 11) (v := .int g0_men) (C := RX11) (T := TX11) (N := 34) hx hb hts inX11_lays_X11 hown hK hP 0 rfl rfl 18 (by decide) (hts (.fieldLink RX11 300 "LeadParkModel" "men" "I") (List.mem_of_getElem? (i := 1) rfl)) (fun _ h9 => h9) rfl dX11_lays_22 ?_
    refine lv_icmp_ge (tgt := 91) hx hb dX11_lays_25 (by decide) (fun hc => ?_) (fun hc => ?_)
    · have hw := hw.1 hc
      rw [hQ]
      exact W.vret hx hb hr (fun t ht hW => ⟨⟨(g0_men, g0_dogs, f2, f3), rfl, hw, by rw [ht]; exact hP, va_K.moved hW.alike hK, hD⟩, hS.F ht⟩) hS.2.2 dX11_lays_91
    · have hw := hw.2 hc
      refine lv_iconst (v := 0) hx hb dX11_lays_28 (by decide) ?_
      refine lv_istore (lv' := [(4, .int 0), (0, .ref a0), (1, .int x1), (2, .int x2), (3, .int x3)]) hx hb dX11_lays_29 hl (by decide) rfl (fun ls hl => ?_)
      obtain ⟨nn, hw⟩ := hw
      exact bX11_lays_31 C0 hK hN hA hQ ih nn g0_men g0_dogs f2 f3 x1 x2 x3 0 hw _ _ hP hD hS ls (lv_sub hl [1, 2, 3, 4, 0] rfl)
set_option maxRecDepth 100000 in
set_option maxHeartbeats 4000000 in
theorem ctX11_lays (l : Launch) (dC : Nat → ClassId) (dI : Nat → Nat → Nat) (cyI cyB cyJ cyZ : ClassId) (sz : Nat) (a0 a1 a2 a3 b0_image b0_before b0_taken b0_tape b0_five b0_lead b0_walk b0_ends b0_manX b0_manY b0_dogX b0_dogY b0_row b0_round b0_farOne b0_leads b0_drags b0_from b0_near : Nat) (g0_thrown : Int32) (g0_hasImage : Int32) (g0_remembered : Int32) (g0_taped : Int32) (g0_point : Int32) (g0_end : Int32) (g0_begin : Int32) (g0_deep : Int32) (g0_faultAt : Int32) (g0_steps : Int32) (f1 : Nat → Int32) (g0_men : Int32) (g0_dogs : Int32) (f2 : Nat → Int32) (f3 : Nat → Int32) (p0 : Int32) (p1 : Int32) (post : (Int32 × Int32 × (Nat → Int32) × (Nat → Int32)) → Prop) (hw : wpX11_lays post f1 g0_men g0_dogs f2 f3 p0 p1) : Met l yX11_lays wsX11_lays rmX11_lays (va_Pc [.ref a0, .int p0, .int p1] (wPre dC dI cyI cyB cyJ cyZ sz (ceX11_lays cyI cyB cyJ cyZ a0 a1 a2 a3 b0_image b0_before b0_taken b0_tape b0_five b0_lead b0_walk b0_ends b0_manX b0_manY b0_dogX b0_dogY b0_row b0_round b0_farOne b0_leads b0_drags b0_from b0_near g0_thrown g0_hasImage g0_remembered g0_taped g0_point g0_end g0_begin g0_deep g0_faultAt g0_steps f1 g0_men g0_dogs f2 f3))) (va_Qv post (fun u : Int32 × Int32 × (Nat → Int32) × (Nat → Int32) => wAt dC dI cyI cyB cyJ cyZ (va_A (ceX11_lays cyI cyB cyJ cyZ a0 a1 a2 a3 b0_image b0_before b0_taken b0_tape b0_five b0_lead b0_walk b0_ends b0_manX b0_manY b0_dogX b0_dogY b0_row b0_round b0_farOne b0_leads b0_drags b0_from b0_near g0_thrown g0_hasImage g0_remembered g0_taped g0_point g0_end g0_begin g0_deep g0_faultAt g0_steps f1 g0_men g0_dogs f2 f3) sz) (ceX11_lays cyI cyB cyJ cyZ a0 a1 a2 a3 b0_image b0_before b0_taken b0_tape b0_five b0_lead b0_walk b0_ends b0_manX b0_manY b0_dogX b0_dogY b0_row b0_round b0_farOne b0_leads b0_drags b0_from b0_near g0_thrown g0_hasImage g0_remembered g0_taped g0_point g0_end g0_begin g0_deep g0_faultAt g0_steps f1 u.1 u.2.1 u.2.2.1 u.2.2.2)) (va_A (ceX11_lays cyI cyB cyJ cyZ a0 a1 a2 a3 b0_image b0_before b0_taken b0_tape b0_five b0_lead b0_walk b0_ends b0_manX b0_manY b0_dogX b0_dogY b0_row b0_round b0_farOne b0_leads b0_drags b0_from b0_near g0_thrown g0_hasImage g0_remembered g0_taped g0_point g0_end g0_begin g0_deep g0_faultAt g0_steps f1 g0_men g0_dogs f2 f3) sz)) 0 0 (va_A (ceX11_lays cyI cyB cyJ cyZ a0 a1 a2 a3 b0_image b0_before b0_taken b0_tape b0_five b0_lead b0_walk b0_ends b0_manX b0_manY b0_dogX b0_dogY b0_row b0_round b0_farOne b0_leads b0_drags b0_from b0_near g0_thrown g0_hasImage g0_remembered g0_taped g0_point g0_end g0_begin g0_deep g0_faultAt g0_steps f1 g0_men g0_dogs f2 f3) sz) := by
  refine Met.ofW (cc := cX11_lays) (maxL := 5) (ret := none) (by decide) rfl ?_
  intro p e s m args below meth c s₁ B hml hv
  obtain ⟨rfl, hsz, hP, hK, hD0, hN⟩ := hv
  have hx := B.exec
  have hb := B.bytes
  have hr := B.returns
  have hts := atoms_spec (ws := wsX11_lays) B.pre
  have hown : s.vm.findClass RX11 = some m.cls := findClass_of_methodNamed B.named
  have hlocks := B.notSynchronized
  subst hsz
  have hD := hD0.self (sz := s.heap.size)
  generalize hAe : va_A (ceX11_lays cyI cyB cyJ cyZ a0 a1 a2 a3 b0_image b0_before b0_taken b0_tape b0_five b0_lead b0_walk b0_ends b0_manX b0_manY b0_dogX b0_dogY b0_row b0_round b0_farOne b0_leads b0_drags b0_from b0_near g0_thrown g0_hasImage g0_remembered g0_taped g0_point g0_end g0_begin g0_deep g0_faultAt g0_steps f1 g0_men g0_dogs f2 f3) s.heap.size = A at hD ⊢
  have hA : ∀ q : Nat, s.heap.size ≤ q → A q := fun q h => by rw [← hAe]; exact Or.inr h
  have hS : va_S A s.heap s.heap [] := va_S.rf
  have C0 : cxM p s m meth c _ wsX11_lays RX11 cX11_lays 5 none := ⟨hx, hb, hr, hml, hown, hts, hlocks⟩
  have hl := lv_entry ([.ref a0, .int p0, .int p1]) (n := 5) (Nat.le_of_ble_eq_true rfl)
  rw [lg_entry_eq]
  generalize (lg_sl ([.ref a0, .int p0, .int p1]) ++ List.replicate (5 - (lg_sl ([.ref a0, .int p0, .int p1])).length) Slot.unset).toArray = ls at hl ⊢
  have hl : lv_has ls 5 [(0, .ref a0), (1, .int p0), (2, .int p1)] := hl
  show W p l e rmX11_lays s m _ below meth c _ _ _ _ _ _
  refine wq (fun Q hQ => ?_)
  refine lv_aload_n hx hb dX11_lays_0 rfl (lv_at hl 0 rfl) ?_
  refine lv_aload_n hx hb dX11_lays_1 rfl (lv_at hl 0 rfl) ?_
  refine lv_iload_n hx hb dX11_lays_2 rfl (lv_at hl 1 rfl) ?_
  have hPc := hP.sub (ws' := (ceX11_cornersOf cyI cyB cyJ cyZ a0 a1 b0_image b0_before b0_taken b0_tape b0_five a2 a3 b0_lead b0_walk b0_ends b0_manX b0_manY b0_dogX b0_dogY b0_row b0_round b0_farOne b0_leads b0_drags b0_from b0_near g0_thrown g0_hasImage g0_remembered g0_taped g0_point g0_end g0_begin g0_deep g0_faultAt g0_steps g0_men g0_dogs f1)) [0, 1] rfl
  have hDc := hD.sub (ws' := (ceX11_cornersOf cyI cyB cyJ cyZ a0 a1 b0_image b0_before b0_taken b0_tape b0_five a2 a3 b0_lead b0_walk b0_ends b0_manX b0_manY b0_dogX b0_dogY b0_row b0_round b0_farOne b0_leads b0_drags b0_from b0_near g0_thrown g0_hasImage g0_remembered g0_taped g0_point g0_end g0_begin g0_deep g0_faultAt g0_steps g0_men g0_dogs f1)) [0, 1] (by decide) rfl
  have hFc := va_free (wc := (ceX11_cornersOf cyI cyB cyJ cyZ a0 a1 b0_image b0_before b0_taken b0_tape b0_five a2 a3 b0_lead b0_walk b0_ends b0_manX b0_manY b0_dogX b0_dogY b0_row b0_round b0_farOne b0_leads b0_drags b0_from b0_near g0_thrown g0_hasImage g0_remembered g0_taped g0_point g0_end g0_begin g0_deep g0_faultAt g0_steps g0_men g0_dogs f1)) hD hS hA [0, 1] rfl
  refine va_calli (va_runV (As := [.int p0]) (rest := [.ref a0]) ⟨hx, hb, hml, hown, hts⟩ (ctX11_cornersOf l dC dI cyI cyB cyJ cyZ _ a0 a1 b0_image b0_before b0_taken b0_tape b0_five a2 a3 b0_lead b0_walk b0_ends b0_manX b0_manY b0_dogX b0_dogY b0_row b0_round b0_farOne b0_leads b0_drags b0_from b0_near g0_thrown g0_hasImage g0_remembered g0_taped g0_point g0_end g0_begin g0_deep g0_faultAt g0_steps g0_men g0_dogs f1 p0 _ hw) (cwV 1 hts gX11_lays_X11_cornersOf rfl rfl rfl (by decide +kernel) ⟨Nat.le_of_ble_eq_true rfl, Nat.le_of_ble_eq_true rfl⟩) ⟨wPre_blind, va_recv hK hPc (ci := 11) (q0 := 0) rfl rfl, fun U hU hW => wPre_of hPc hK hDc hN hU hW⟩ rfl rfl hl.1 rfl (lv_room (Nat.le_of_ble_eq_true rfl)) dX11_lays_3 ⟨(Nat.zero_le _), (Nat.zero_le _)⟩) hS (fun q _ h => hFc q h) hFc (fun r2 u1 t H1 locs ht hvm hw hB hz1 hk1 hS => ?_)
  obtain ⟨hP1, hK1, hD1⟩ := hB
  rw [ht] at hP1
  obtain ⟨hP, hD⟩ := va_join (wr := pickW (ceX11_lays cyI cyB cyJ cyZ a0 a1 a2 a3 b0_image b0_before b0_taken b0_tape b0_five b0_lead b0_walk b0_ends b0_manX b0_manY b0_dogX b0_dogY b0_row b0_round b0_farOne b0_leads b0_drags b0_from b0_near g0_thrown g0_hasImage g0_remembered g0_taped g0_point g0_end g0_begin g0_deep g0_faultAt g0_steps f1 g0_men g0_dogs f2 f3) [2, 3]) (w1 := (ceX11_cornersOf cyI cyB cyJ cyZ a0 a1 b0_image b0_before b0_taken b0_tape b0_five a2 a3 b0_lead b0_walk b0_ends b0_manX b0_manY b0_dogX b0_dogY b0_row b0_round b0_farOne b0_leads b0_drags b0_from b0_near g0_thrown g0_hasImage g0_remembered g0_taped g0_point g0_end g0_begin g0_deep g0_faultAt g0_steps g0_men g0_dogs f1)) hP hD [0, 1] [2, 3] rfl rfl (by decide) (by decide) hk1 hFc hP1 hD1
  have hP := hP.sub (ws' := (ceX11_lays cyI cyB cyJ cyZ a0 a1 a2 a3 b0_image b0_before b0_taken b0_tape b0_five b0_lead b0_walk b0_ends b0_manX b0_manY b0_dogX b0_dogY b0_row b0_round b0_farOne b0_leads b0_drags b0_from b0_near g0_thrown g0_hasImage g0_remembered g0_taped g0_point g0_end g0_begin g0_deep g0_faultAt g0_steps f1 g0_men g0_dogs f2 f3)) [2, 3, 0, 1] rfl
  have hD := hD.sub (ws' := (ceX11_lays cyI cyB cyJ cyZ a0 a1 a2 a3 b0_image b0_before b0_taken b0_tape b0_five b0_lead b0_walk b0_ends b0_manX b0_manY b0_dogX b0_dogY b0_row b0_round b0_farOne b0_leads b0_drags b0_from b0_near g0_thrown g0_hasImage g0_remembered g0_taped g0_point g0_end g0_begin g0_deep g0_faultAt g0_steps f1 g0_men g0_dogs f2 f3)) [2, 3, 0, 1] (by decide) rfl
  generalize H1 = H at hP hS ⊢
  refine va_put (D := (dC, dI)) (ci := 11) (v := .int r2) (ty := .int) (C := RX11) (T := TX11) (N := 34) hx hb hts inX11_lays_X11 tyX11 tyX11_ok nmX11 hown hK hP hD hS 0 rfl rfl 18 (by decide) (hts (.fieldLink RX11 300 "LeadParkModel" "men" "I") (List.mem_of_getElem? (i := 1) rfl)) (fun _ h9 => h9) rfl (by decide +kernel) rfl rfl (Nat.le_of_ble_eq_true rfl) dX11_lays_6 (fun H locs hP hD hS => ?_)
  have hP : va_P (dC, dI) vwCl (ceX11_lays cyI cyB cyJ cyZ a0 a1 a2 a3 b0_image b0_before b0_taken b0_tape b0_five b0_lead b0_walk b0_ends b0_manX b0_manY b0_dogX b0_dogY b0_row b0_round b0_farOne b0_leads b0_drags b0_from b0_near g0_thrown g0_hasImage g0_remembered g0_taped g0_point g0_end g0_begin g0_deep g0_faultAt g0_steps f1 r2 g0_dogs f2 f3) H := hP
  have hD : va_D A (ceX11_lays cyI cyB cyJ cyZ a0 a1 a2 a3 b0_image b0_before b0_taken b0_tape b0_five b0_lead b0_walk b0_ends b0_manX b0_manY b0_dogX b0_dogY b0_row b0_round b0_farOne b0_leads b0_drags b0_from b0_near g0_thrown g0_hasImage g0_remembered g0_taped g0_point g0_end g0_begin g0_deep g0_faultAt g0_steps f1 r2 g0_dogs f2 f3) := hD
  refine lv_aload_n hx hb dX11_lays_9 rfl (lv_at hl 0 rfl) ?_
  refine lv_aload_n hx hb dX11_lays_10 rfl (lv_at hl 0 rfl) ?_
  refine lv_iload_n hx hb dX11_lays_11 rfl (lv_at hl 2 rfl) ?_
  have hPc := hP.sub (ws' := (ceX11_cornersOf cyI cyB cyJ cyZ a0 a1 b0_image b0_before b0_taken b0_tape b0_five a2 a3 b0_lead b0_walk b0_ends b0_manX b0_manY b0_dogX b0_dogY b0_row b0_round b0_farOne b0_leads b0_drags b0_from b0_near g0_thrown g0_hasImage g0_remembered g0_taped g0_point g0_end g0_begin g0_deep g0_faultAt g0_steps r2 g0_dogs f1)) [0, 1] rfl
  have hDc := hD.sub (ws' := (ceX11_cornersOf cyI cyB cyJ cyZ a0 a1 b0_image b0_before b0_taken b0_tape b0_five a2 a3 b0_lead b0_walk b0_ends b0_manX b0_manY b0_dogX b0_dogY b0_row b0_round b0_farOne b0_leads b0_drags b0_from b0_near g0_thrown g0_hasImage g0_remembered g0_taped g0_point g0_end g0_begin g0_deep g0_faultAt g0_steps r2 g0_dogs f1)) [0, 1] (by decide) rfl
  have hFc := va_free (wc := (ceX11_cornersOf cyI cyB cyJ cyZ a0 a1 b0_image b0_before b0_taken b0_tape b0_five a2 a3 b0_lead b0_walk b0_ends b0_manX b0_manY b0_dogX b0_dogY b0_row b0_round b0_farOne b0_leads b0_drags b0_from b0_near g0_thrown g0_hasImage g0_remembered g0_taped g0_point g0_end g0_begin g0_deep g0_faultAt g0_steps r2 g0_dogs f1)) hD hS hA [0, 1] rfl
  refine va_calli (va_runV (As := [.int p1]) (rest := [.ref a0]) ⟨hx, hb, hml, hown, hts⟩ (ctX11_cornersOf l dC dI cyI cyB cyJ cyZ _ a0 a1 b0_image b0_before b0_taken b0_tape b0_five a2 a3 b0_lead b0_walk b0_ends b0_manX b0_manY b0_dogX b0_dogY b0_row b0_round b0_farOne b0_leads b0_drags b0_from b0_near g0_thrown g0_hasImage g0_remembered g0_taped g0_point g0_end g0_begin g0_deep g0_faultAt g0_steps r2 g0_dogs f1 p1 _ hw) (cwV 1 hts gX11_lays_X11_cornersOf rfl rfl rfl (by decide +kernel) ⟨Nat.le_of_ble_eq_true rfl, Nat.le_of_ble_eq_true rfl⟩) ⟨wPre_blind, va_recv hK hPc (ci := 11) (q0 := 0) rfl rfl, fun U hU hW => wPre_of hPc hK hDc hN hU hW⟩ rfl rfl hl.1 rfl (lv_room (Nat.le_of_ble_eq_true rfl)) dX11_lays_12 ⟨(Nat.zero_le _), (Nat.zero_le _)⟩) hS (fun q _ h => hFc q h) hFc (fun r4 u3 t H1 locs ht hvm hw hB hz1 hk1 hS => ?_)
  obtain ⟨hP1, hK1, hD1⟩ := hB
  rw [ht] at hP1
  obtain ⟨hP, hD⟩ := va_join (wr := pickW (ceX11_lays cyI cyB cyJ cyZ a0 a1 a2 a3 b0_image b0_before b0_taken b0_tape b0_five b0_lead b0_walk b0_ends b0_manX b0_manY b0_dogX b0_dogY b0_row b0_round b0_farOne b0_leads b0_drags b0_from b0_near g0_thrown g0_hasImage g0_remembered g0_taped g0_point g0_end g0_begin g0_deep g0_faultAt g0_steps f1 r2 g0_dogs f2 f3) [2, 3]) (w1 := (ceX11_cornersOf cyI cyB cyJ cyZ a0 a1 b0_image b0_before b0_taken b0_tape b0_five a2 a3 b0_lead b0_walk b0_ends b0_manX b0_manY b0_dogX b0_dogY b0_row b0_round b0_farOne b0_leads b0_drags b0_from b0_near g0_thrown g0_hasImage g0_remembered g0_taped g0_point g0_end g0_begin g0_deep g0_faultAt g0_steps r2 g0_dogs f1)) hP hD [0, 1] [2, 3] rfl rfl (by decide) (by decide) hk1 hFc hP1 hD1
  have hP := hP.sub (ws' := (ceX11_lays cyI cyB cyJ cyZ a0 a1 a2 a3 b0_image b0_before b0_taken b0_tape b0_five b0_lead b0_walk b0_ends b0_manX b0_manY b0_dogX b0_dogY b0_row b0_round b0_farOne b0_leads b0_drags b0_from b0_near g0_thrown g0_hasImage g0_remembered g0_taped g0_point g0_end g0_begin g0_deep g0_faultAt g0_steps f1 r2 g0_dogs f2 f3)) [2, 3, 0, 1] rfl
  have hD := hD.sub (ws' := (ceX11_lays cyI cyB cyJ cyZ a0 a1 a2 a3 b0_image b0_before b0_taken b0_tape b0_five b0_lead b0_walk b0_ends b0_manX b0_manY b0_dogX b0_dogY b0_row b0_round b0_farOne b0_leads b0_drags b0_from b0_near g0_thrown g0_hasImage g0_remembered g0_taped g0_point g0_end g0_begin g0_deep g0_faultAt g0_steps f1 r2 g0_dogs f2 f3)) [2, 3, 0, 1] (by decide) rfl
  generalize H1 = H at hP hS ⊢
  refine va_put (D := (dC, dI)) (ci := 11) (v := .int r4) (ty := .int) (C := RX11) (T := TX11) (N := 34) hx hb hts inX11_lays_X11 tyX11 tyX11_ok nmX11 hown hK hP hD hS 0 rfl rfl 19 (by decide) (hts (.fieldLink RX11 303 "LeadParkModel" "dogs" "I") (List.mem_of_getElem? (i := 2) rfl)) (fun _ h9 => h9) rfl (by decide +kernel) rfl rfl (Nat.le_of_ble_eq_true rfl) dX11_lays_15 (fun H locs hP hD hS => ?_)
  have hP : va_P (dC, dI) vwCl (ceX11_lays cyI cyB cyJ cyZ a0 a1 a2 a3 b0_image b0_before b0_taken b0_tape b0_five b0_lead b0_walk b0_ends b0_manX b0_manY b0_dogX b0_dogY b0_row b0_round b0_farOne b0_leads b0_drags b0_from b0_near g0_thrown g0_hasImage g0_remembered g0_taped g0_point g0_end g0_begin g0_deep g0_faultAt g0_steps f1 r2 r4 f2 f3) H := hP
  have hD : va_D A (ceX11_lays cyI cyB cyJ cyZ a0 a1 a2 a3 b0_image b0_before b0_taken b0_tape b0_five b0_lead b0_walk b0_ends b0_manX b0_manY b0_dogX b0_dogY b0_row b0_round b0_farOne b0_leads b0_drags b0_from b0_near g0_thrown g0_hasImage g0_remembered g0_taped g0_point g0_end g0_begin g0_deep g0_faultAt g0_steps f1 r2 r4 f2 f3) := hD
  refine lv_iconst (v := 0) hx hb dX11_lays_18 (by decide) ?_
  refine lv_istore_n (lv' := [(3, .int 0), (0, .ref a0), (1, .int p0), (2, .int p1)]) hx hb dX11_lays_19 rfl hl (by decide) rfl (fun ls hl => ?_)
  obtain ⟨nn, hw⟩ := hw
  exact bX11_lays_20 C0 hK hN hA hQ nn r2 r4 f2 f3 p0 p1 0 hw _ _ hP hD hS ls (lv_sub hl [1, 2, 3, 0] rfl)
/-! LeadParkModel.leadAt (II)I -/
abbrev ceX11_leadAt (cyI cyB cyJ cyZ : ClassId) (a0 a1 b0_world b0_image b0_before b0_taken b0_tape b0_five b0_value b0_far b0_walk b0_ends b0_manX b0_manY b0_dogX b0_dogY b0_row b0_round b0_farOne b0_leads b0_drags b0_from b0_near : Nat) (g0_thrown : Int32) (g0_hasImage : Int32) (g0_remembered : Int32) (g0_taped : Int32) (g0_point : Int32) (g0_end : Int32) (g0_begin : Int32) (g0_deep : Int32) (g0_faultAt : Int32) (g0_steps : Int32) (g0_men : Int32) (g0_dogs : Int32) (f1 : Nat → Int32) : va_W := [(a0, .inr (11, [.int g0_thrown, .ref b0_world, .ref b0_image, .ref b0_before, .int g0_hasImage, .ref b0_taken, .int g0_remembered, .ref b0_tape, .int g0_taped, .int g0_point, .int g0_end, .int g0_begin, .int g0_deep, .int g0_faultAt, .ref b0_five, .int g0_steps, .ref b0_value, .ref b0_far, .int g0_men, .int g0_dogs, .ref a1, .ref b0_walk, .ref b0_ends, .ref b0_manX, .ref b0_manY, .ref b0_dogX, .ref b0_dogY, .ref b0_row, .ref b0_round, .ref b0_farOne, .ref b0_leads, .ref b0_drags, .ref b0_from, .ref b0_near])), (a1, .inl (cyI, 900, .inl f1))]

theorem inX11_leadAt_X11 : ∀ w ∈ wsX110, w ∈ wsX11_leadAt := fun _ h => List.mem_cons_of_mem _ (List.mem_append_right _ h)
abbrev rmX11_leadAt : Room := { frames := 0, cells := 0, slots := 0, locals := 0 }
def wpX11_leadAt (post : Int32 → Unit → Prop) (f1 : Nat → Int32) (p0 : Int32) (p1 : Int32) : Prop :=
  (p0 < 0 →
   post 2000000000 ()) ∧
  (¬ p0 < 0 →
   (0 ≤ p1 →
    vp_in ((30 * p0) + p1) 900 ∧
    post (f1 ((30 * p0) + p1).toNatClampNeg) ()) ∧
   (¬ 0 ≤ p1 →
    post 2000000000 ()))
set_option maxRecDepth 100000 in
set_option maxHeartbeats 4000000 in
theorem ctX11_leadAt (l : Launch) (dC : Nat → ClassId) (dI : Nat → Nat → Nat) (cyI cyB cyJ cyZ : ClassId) (sz : Nat) (a0 a1 b0_world b0_image b0_before b0_taken b0_tape b0_five b0_value b0_far b0_walk b0_ends b0_manX b0_manY b0_dogX b0_dogY b0_row b0_round b0_farOne b0_leads b0_drags b0_from b0_near : Nat) (g0_thrown : Int32) (g0_hasImage : Int32) (g0_remembered : Int32) (g0_taped : Int32) (g0_point : Int32) (g0_end : Int32) (g0_begin : Int32) (g0_deep : Int32) (g0_faultAt : Int32) (g0_steps : Int32) (g0_men : Int32) (g0_dogs : Int32) (f1 : Nat → Int32) (p0 : Int32) (p1 : Int32) (post : Int32 → Unit → Prop) (hw : wpX11_leadAt post f1 p0 p1) : Met l yX11_leadAt wsX11_leadAt rmX11_leadAt (va_Pc [.ref a0, .int p0, .int p1] (wPre dC dI cyI cyB cyJ cyZ sz (ceX11_leadAt cyI cyB cyJ cyZ a0 a1 b0_world b0_image b0_before b0_taken b0_tape b0_five b0_value b0_far b0_walk b0_ends b0_manX b0_manY b0_dogX b0_dogY b0_row b0_round b0_farOne b0_leads b0_drags b0_from b0_near g0_thrown g0_hasImage g0_remembered g0_taped g0_point g0_end g0_begin g0_deep g0_faultAt g0_steps g0_men g0_dogs f1))) (va_Qi post (fun u : Unit => wAt dC dI cyI cyB cyJ cyZ (va_A (ceX11_leadAt cyI cyB cyJ cyZ a0 a1 b0_world b0_image b0_before b0_taken b0_tape b0_five b0_value b0_far b0_walk b0_ends b0_manX b0_manY b0_dogX b0_dogY b0_row b0_round b0_farOne b0_leads b0_drags b0_from b0_near g0_thrown g0_hasImage g0_remembered g0_taped g0_point g0_end g0_begin g0_deep g0_faultAt g0_steps g0_men g0_dogs f1) sz) (ceX11_leadAt cyI cyB cyJ cyZ a0 a1 b0_world b0_image b0_before b0_taken b0_tape b0_five b0_value b0_far b0_walk b0_ends b0_manX b0_manY b0_dogX b0_dogY b0_row b0_round b0_farOne b0_leads b0_drags b0_from b0_near g0_thrown g0_hasImage g0_remembered g0_taped g0_point g0_end g0_begin g0_deep g0_faultAt g0_steps g0_men g0_dogs f1)) (va_A (ceX11_leadAt cyI cyB cyJ cyZ a0 a1 b0_world b0_image b0_before b0_taken b0_tape b0_five b0_value b0_far b0_walk b0_ends b0_manX b0_manY b0_dogX b0_dogY b0_row b0_round b0_farOne b0_leads b0_drags b0_from b0_near g0_thrown g0_hasImage g0_remembered g0_taped g0_point g0_end g0_begin g0_deep g0_faultAt g0_steps g0_men g0_dogs f1) sz)) 0 0 (va_A (ceX11_leadAt cyI cyB cyJ cyZ a0 a1 b0_world b0_image b0_before b0_taken b0_tape b0_five b0_value b0_far b0_walk b0_ends b0_manX b0_manY b0_dogX b0_dogY b0_row b0_round b0_farOne b0_leads b0_drags b0_from b0_near g0_thrown g0_hasImage g0_remembered g0_taped g0_point g0_end g0_begin g0_deep g0_faultAt g0_steps g0_men g0_dogs f1) sz) := by
  refine Met.ofW (cc := cX11_leadAt) (maxL := 3) (ret := (some .int)) (by decide) rfl ?_
  intro p e s m args below meth c s₁ B hml hv
  obtain ⟨rfl, hsz, hP, hK, hD0, hN⟩ := hv
  have hx := B.exec
  have hb := B.bytes
  have hr := B.returns
  have hts := atoms_spec (ws := wsX11_leadAt) B.pre
  have hown : s.vm.findClass RX11 = some m.cls := findClass_of_methodNamed B.named
  have hlocks := B.notSynchronized
  subst hsz
  have hD := hD0.self (sz := s.heap.size)
  generalize hAe : va_A (ceX11_leadAt cyI cyB cyJ cyZ a0 a1 b0_world b0_image b0_before b0_taken b0_tape b0_five b0_value b0_far b0_walk b0_ends b0_manX b0_manY b0_dogX b0_dogY b0_row b0_round b0_farOne b0_leads b0_drags b0_from b0_near g0_thrown g0_hasImage g0_remembered g0_taped g0_point g0_end g0_begin g0_deep g0_faultAt g0_steps g0_men g0_dogs f1) s.heap.size = A at hD ⊢
  have hA : ∀ q : Nat, s.heap.size ≤ q → A q := fun q h => by rw [← hAe]; exact Or.inr h
  have hS : va_S A s.heap s.heap [] := va_S.rf
  have C0 : cxM p s m meth c _ wsX11_leadAt RX11 cX11_leadAt 3 (some .int) := ⟨hx, hb, hr, hml, hown, hts, hlocks⟩
  have hl := lv_entry ([.ref a0, .int p0, .int p1]) (n := 3) (Nat.le_of_ble_eq_true rfl)
  rw [lg_entry_eq]
  generalize (lg_sl ([.ref a0, .int p0, .int p1]) ++ List.replicate (3 - (lg_sl ([.ref a0, .int p0, .int p1])).length) Slot.unset).toArray = ls at hl ⊢
  have hl : lv_has ls 3 [(0, .ref a0), (1, .int p0), (2, .int p1)] := hl
  show W p l e rmX11_leadAt s m _ below meth c _ _ _ _ _ _
  refine wq (fun Q hQ => ?_)
  refine lv_iload_n hx hb dX11_leadAt_0 rfl (lv_at hl 1 rfl) ?_
  refine lv_if_lt (tgt := 8) hx hb dX11_leadAt_1 (by decide) (fun hc => ?_) (fun hc => ?_)
  · have hw := hw.1 hc
    refine lv_ldcw (v := 2000000000) hx hb hown (hts (.constant RX11 306 (2000000000)) (List.mem_of_getElem? (i := 1) rfl)) dX11_leadAt_8 ?_
    refine lv_goto (tgt := 25) hx hb dX11_leadAt_11 (by decide) ?_
    rw [hQ]
    exact W.iret (v := 2000000000) hx hb hr (fun t ht hW => ⟨⟨2000000000, (), rfl, hw, by rw [ht]; exact hP, va_K.moved hW.alike hK, hD⟩, hS.F ht⟩) hS.2.2 dX11_leadAt_25
  · have hw := hw.2 hc
    refine lv_iload_n hx hb dX11_leadAt_4 rfl (lv_at hl 2 rfl) ?_
    refine lv_if_ge (tgt := 14) hx hb dX11_leadAt_5 (by decide) (fun hc => ?_) (fun hc => ?_)
    · have hw := hw.1 hc
      refine lv_aload_n hx hb dX11_leadAt_14 rfl (lv_at hl 0 rfl) ?_
      refine va_get (D := (dC, dI)) (ci := 11) (v := .ref a1) (C := RX11) (T := TX11) (N := 34) hx hb hts inX11_leadAt_X11 hown hK hP 0 rfl rfl 20 (by decide) (hts (.fieldLink RX11 42 "LeadParkModel" "lead" "[I") (List.mem_of_getElem? (i := 2) rfl)) (fun _ h9 => h9) rfl dX11_leadAt_15 ?_
      refine lv_bipush (v := 30) hx hb dX11_leadAt_18 (by decide) ?_
      refine lv_iload_n hx hb dX11_leadAt_20 rfl (lv_at hl 1 rfl) ?_
      refine lv_imul hx hb dX11_leadAt_21 ?_
      refine lv_iload_n hx hb dX11_leadAt_22 rfl (lv_at hl 2 rfl) ?_
      refine lv_iadd hx hb dX11_leadAt_23 ?_
      obtain ⟨hi, hw⟩ := hw
      refine va_iald hx hb hK hP 1 0 rfl rfl hi dX11_leadAt_24 ?_
      rw [hQ]
      exact W.iret (v := f1 ((30 * p0) + p1).toNatClampNeg) hx hb hr (fun t ht hW => ⟨⟨f1 ((30 * p0) + p1).toNatClampNeg, (), rfl, hw, by rw [ht]; exact hP, va_K.moved hW.alike hK, hD⟩, hS.F ht⟩) hS.2.2 dX11_leadAt_25
    · have hw := hw.2 hc
      refine lv_ldcw (v := 2000000000) hx hb hown (hts (.constant RX11 306 (2000000000)) (List.mem_of_getElem? (i := 1) rfl)) dX11_leadAt_8 ?_
      refine lv_goto (tgt := 25) hx hb dX11_leadAt_11 (by decide) ?_
      rw [hQ]
      exact W.iret (v := 2000000000) hx hb hr (fun t ht hW => ⟨⟨2000000000, (), rfl, hw, by rw [ht]; exact hP, va_K.moved hW.alike hK, hD⟩, hS.F ht⟩) hS.2.2 dX11_leadAt_25
/-! LeadParkModel.leastLead ()I -/
abbrev ceX11_leastLead (cyI cyB cyJ cyZ : ClassId) (a0 a1 a2 b0_world b0_image b0_before b0_taken b0_tape b0_five b0_value b0_walk b0_ends b0_manX b0_manY b0_dogX b0_dogY b0_row b0_round b0_farOne b0_leads b0_drags b0_from b0_near : Nat) (g0_thrown : Int32) (g0_hasImage : Int32) (g0_remembered : Int32) (g0_taped : Int32) (g0_point : Int32) (g0_end : Int32) (g0_begin : Int32) (g0_deep : Int32) (g0_faultAt : Int32) (g0_steps : Int32) (g0_men : Int32) (g0_dogs : Int32) (f1 : Nat → Int32) (f2 : Nat → Int32) : va_W := [(a0, .inr (11, [.int g0_thrown, .ref b0_world, .ref b0_image, .ref b0_before, .int g0_hasImage, .ref b0_taken, .int g0_remembered, .ref b0_tape, .int g0_taped, .int g0_point, .int g0_end, .int g0_begin, .int g0_deep, .int g0_faultAt, .ref b0_five, .int g0_steps, .ref b0_value, .ref a1, .int g0_men, .int g0_dogs, .ref a2, .ref b0_walk, .ref b0_ends, .ref b0_manX, .ref b0_manY, .ref b0_dogX, .ref b0_dogY, .ref b0_row, .ref b0_round, .ref b0_farOne, .ref b0_leads, .ref b0_drags, .ref b0_from, .ref b0_near])), (a1, .inl (cyI, 900, .inl f1)), (a2, .inl (cyI, 900, .inl f2))]

theorem inX11_leastLead_X11 : ∀ w ∈ wsX110, w ∈ wsX11_leastLead := fun _ h => List.mem_cons_of_mem _ (List.mem_append_right _ h)
abbrev rmX11_leastLead : Room := { frames := 1, cells := 0, slots := 0, locals := 40 }
def wpX11_leastLead_64 (k12 : (Nat → Int32) → Int32 → Int32 → Prop) (k2 : (Nat → Int32) → Int32 → Prop) (post : Int32 → ((Nat → Int32)) → Prop) (g0_men : Int32) (g0_dogs : Int32) (f1 : Nat → Int32) (f2 : Nat → Int32) (x1 : Int32) (x2 : Int32) (s0 : Int32) : Prop :=
  vp_in ((30 * x1) + x2) 900 ∧
  vp_in ((30 * x1) + x2) 900 ∧
  ∀ v1 : Int32, v1 = x2 + 1 →
  k12 (upd f2 ((30 * x1) + x2).toNatClampNeg (iMax (f1 ((30 * x1) + x2).toNatClampNeg) s0)) x1 v1
def wpX11_leastLead_32 (k12 : (Nat → Int32) → Int32 → Int32 → Prop) (k2 : (Nat → Int32) → Int32 → Prop) (post : Int32 → ((Nat → Int32)) → Prop) (g0_men : Int32) (g0_dogs : Int32) (f1 : Nat → Int32) (f2 : Nat → Int32) (x1 : Int32) (x2 : Int32) : Prop :=
  wpX11_leadAt (fun (r2 : Int32) (u1 : Unit) =>
   wpX11_leadAt (fun (r4 : Int32) (u3 : Unit) =>
    wpX11_leadAt (fun (r6 : Int32) (u5 : Unit) =>
     wpX11_leastLead_64 k12 k2 post g0_men g0_dogs f1 f2 x1 x2 (iMin r2 (iMin r4 r6))) f2 x1 (x2 - 1)) f2 (x1 - 1) x2) f2 (x1 - 1) (x2 - 1)
def wpX11_leastLead_12 (k2 : (Nat → Int32) → Int32 → Prop) (post : Int32 → ((Nat → Int32)) → Prop) (g0_men : Int32) (g0_dogs : Int32) (f1 : Nat → Int32) : Nat → (Nat → Int32) → Int32 → Int32 → Prop
  | 0, _, _, _ => False
  | n_12 + 1, f2, x1, x2 =>
    (g0_dogs ≤ x2 →
     ∀ v1 : Int32, v1 = x1 + 1 →
     k2 f2 v1) ∧
    (¬ g0_dogs ≤ x2 →
     (¬ x1 = 0 →
      wpX11_leastLead_32 (fun y0 y1 y2 => wpX11_leastLead_12 k2 post g0_men g0_dogs f1 n_12 y0 y1 y2) k2 post g0_men g0_dogs f1 f2 x1 x2) ∧
     (x1 = 0 →
      (¬ x2 = 0 →
       wpX11_leastLead_32 (fun y0 y1 y2 => wpX11_leastLead_12 k2 post g0_men g0_dogs f1 n_12 y0 y1 y2) k2 post g0_men g0_dogs f1 f2 x1 x2) ∧
      (x2 = 0 →
       wpX11_leastLead_64 (fun y0 y1 y2 => wpX11_leastLead_12 k2 post g0_men g0_dogs f1 n_12 y0 y1 y2) k2 post g0_men g0_dogs f1 f2 x1 x2 0)))
def wpX11_leastLead_2 (post : Int32 → ((Nat → Int32)) → Prop) (g0_men : Int32) (g0_dogs : Int32) (f1 : Nat → Int32) : Nat → (Nat → Int32) → Int32 → Prop
  | 0, _, _ => False
  | n_2 + 1, f2, x1 =>
    (g0_men ≤ x1 →
     wpX11_leadAt (fun (r2 : Int32) (u1 : Unit) =>
      post r2 (f2)) f2 (g0_men - 1) (g0_dogs - 1)) ∧
    (¬ g0_men ≤ x1 →
     ∃ n_12 : Nat, wpX11_leastLead_12 (fun y0 y1 => wpX11_leastLead_2 post g0_men g0_dogs f1 n_2 y0 y1) post g0_men g0_dogs f1 n_12 f2 x1 0)
def wpX11_leastLead (post : Int32 → ((Nat → Int32)) → Prop) (g0_men : Int32) (g0_dogs : Int32) (f1 : Nat → Int32) (f2 : Nat → Int32) : Prop :=
  ∃ n_2 : Nat, wpX11_leastLead_2 post g0_men g0_dogs f1 n_2 f2 0
set_option maxRecDepth 100000 in
set_option maxHeartbeats 4000000 in
theorem bX11_leastLead_64 {p : Program} {l : Launch} {e : Env} {s : State} {m : MethodId} {args : Array Value} {below : List Frame} {meth : Method} {c : Code} {dC : Nat → ClassId} {dI : Nat → Nat → Nat} {cyI cyB cyJ cyZ : ClassId} {A : Nat → Prop} {a0 a1 a2 b0_world b0_image b0_before b0_taken b0_tape b0_five b0_value b0_walk b0_ends b0_manX b0_manY b0_dogX b0_dogY b0_row b0_round b0_farOne b0_leads b0_drags b0_from b0_near : Nat} {g0_thrown : Int32} {g0_hasImage : Int32} {g0_remembered : Int32} {g0_taped : Int32} {g0_point : Int32} {g0_end : Int32} {g0_begin : Int32} {g0_deep : Int32} {g0_faultAt : Int32} {g0_steps : Int32} (C0 : cxM p s m meth c args wsX11_leastLead RX11 cX11_leastLead 4 (some .int)) (hK : va_K (dC, dI) vwCl (tyA cyI cyB cyJ cyZ) s) (hN : nwA s) (hA : ∀ q : Nat, s.heap.size ≤ q → A q) {post : Int32 → ((Nat → Int32)) → Prop} {g0_men : Int32} {g0_dogs : Int32} {f1 : Nat → Int32} {k12 : (Nat → Int32) → Int32 → Int32 → Prop} {k2 : (Nat → Int32) → Int32 → Prop} {Q : State → Prop} (hQ : Q = MQ below (va_Qi post (fun u : (Nat → Int32) => wAt dC dI cyI cyB cyJ cyZ A (ceX11_leastLead cyI cyB cyJ cyZ a0 a1 a2 b0_world b0_image b0_before b0_taken b0_tape b0_five b0_value b0_walk b0_ends b0_manX b0_manY b0_dogX b0_dogY b0_row b0_round b0_farOne b0_leads b0_drags b0_from b0_near g0_thrown g0_hasImage g0_remembered g0_taped g0_point g0_end g0_begin g0_deep g0_faultAt g0_steps g0_men g0_dogs f1 u)) A) args s 0 0 A) (hk12 : ∀ (f2 : Nat → Int32) (x1 : Int32) (x2 : Int32), k12 f2 x1 x2 → AtW p l e rmX11_leastLead s m args below meth c dC dI A Q 4 0 0 (ceX11_leastLead cyI cyB cyJ cyZ a0 a1 a2 b0_world b0_image b0_before b0_taken b0_tape b0_five b0_value b0_walk b0_ends b0_manX b0_manY b0_dogX b0_dogY b0_row b0_round b0_farOne b0_leads b0_drags b0_from b0_near g0_thrown g0_hasImage g0_remembered g0_taped g0_point g0_end g0_begin g0_deep g0_faultAt g0_steps g0_men g0_dogs f1 f2) [(0, .ref a0), (1, .int x1), (2, .int x2)] 12 []) (hk2 : ∀ (f2 : Nat → Int32) (x1 : Int32), k2 f2 x1 → AtW p l e rmX11_leastLead s m args below meth c dC dI A Q 4 0 0 (ceX11_leastLead cyI cyB cyJ cyZ a0 a1 a2 b0_world b0_image b0_before b0_taken b0_tape b0_five b0_value b0_walk b0_ends b0_manX b0_manY b0_dogX b0_dogY b0_row b0_round b0_farOne b0_leads b0_drags b0_from b0_near g0_thrown g0_hasImage g0_remembered g0_taped g0_point g0_end g0_begin g0_deep g0_faultAt g0_steps g0_men g0_dogs f1 f2) [(0, .ref a0), (1, .int x1)] 2 []) : ∀ (f2 : Nat → Int32) (x1 : Int32) (x2 : Int32) (s0 : Int32), wpX11_leastLead_64 k12 k2 post g0_men g0_dogs f1 f2 x1 x2 s0 → AtW p l e rmX11_leastLead s m args below meth c dC dI A Q 4 0 0 (ceX11_leastLead cyI cyB cyJ cyZ a0 a1 a2 b0_world b0_image b0_before b0_taken b0_tape b0_five b0_value b0_walk b0_ends b0_manX b0_manY b0_dogX b0_dogY b0_row b0_round b0_farOne b0_leads b0_drags b0_from b0_near g0_thrown g0_hasImage g0_remembered g0_taped g0_point g0_end g0_begin g0_deep g0_faultAt g0_steps g0_men g0_dogs f1 f2) [(0, .ref a0), (1, .int x1), (2, .int x2)] 64 [.int s0] := by
  intro f2 x1 x2 s0 hw H locs hP hD hS ls hl
  have C1 := C0
  obtain ⟨hx, hb, hr, hml, hown, hts, hlocks⟩ := C1
  refine lv_istore_n (lv' := [(3, .int s0), (0, .ref a0), (1, .int x1), (2, .int x2)]) hx hb dX11_leastLead_64 rfl hl (by decide) rfl (fun ls hl => ?_)
  refine lv_aload_n hx hb dX11_leastLead_65 rfl (lv_at hl 1 rfl) ?_
  refine va_get (D := (dC, dI)) (ci := 11) (v := .ref a2) (C := RX11) (T := TX11) (N := 34) hx hb hts inX11_leastLead_X11 hown hK hP 0 rfl rfl 20 (by decide) (hts (.fieldLink RX11 42 "LeadParkModel" "lead" "[I") (List.mem_of_getElem? (i := 7) rfl)) (fun _ h9 => h9) rfl dX11_leastLead_66 ?_
  refine lv_bipush (v := 30) hx hb dX11_leastLead_69 (by decide) ?_
  refine lv_iload_n hx hb dX11_leastLead_71 rfl (lv_at hl 2 rfl) ?_
  refine lv_imul hx hb dX11_leastLead_72 ?_
  refine lv_iload_n hx hb dX11_leastLead_73 rfl (lv_at hl 3 rfl) ?_
  refine lv_iadd hx hb dX11_leastLead_74 ?_
  refine lv_aload_n hx hb dX11_leastLead_75 rfl (lv_at hl 1 rfl) ?_
  refine va_get (D := (dC, dI)) (ci := 11) (v := .ref a1) (C := RX11) (T := TX11) (N := 34) hx hb hts inX11_leastLead_X11 hown hK hP 0 rfl rfl 17 (by decide) (hts (.fieldLink RX11 39 "LeadParkModel" "far" "[I") (List.mem_of_getElem? (i := 8) rfl)) (fun _ h9 => h9) rfl dX11_leastLead_76 ?_
  refine lv_bipush (v := 30) hx hb dX11_leastLead_79 (by decide) ?_
  refine lv_iload_n hx hb dX11_leastLead_81 rfl (lv_at hl 2 rfl) ?_
  refine lv_imul hx hb dX11_leastLead_82 ?_
  refine lv_iload_n hx hb dX11_leastLead_83 rfl (lv_at hl 3 rfl) ?_
  refine lv_iadd hx hb dX11_leastLead_84 ?_
  obtain ⟨hi, hw⟩ := hw
  refine va_iald hx hb hK hP 1 0 rfl rfl hi dX11_leastLead_85 ?_
  refine lv_iload_n hx hb dX11_leastLead_86 rfl (lv_at hl 0 rfl) ?_
  refine va_mmax hx hb (hml.trans hl.1.symm) hown (hts (.methodLink RX11 273 Lib.Math.max.name) (List.mem_of_getElem? (i := 9) rfl)) (hts (.static Lib.Math.max.name) (List.mem_of_getElem? (i := 10) rfl)) (hts (.initialized "java/lang/Math") (List.mem_of_getElem? (i := 5) rfl)) (hts (.code Lib.Math.max.name Lib.Math.max.code 2 (some .int)) (List.mem_of_getElem? (i := 11) rfl)) (Nat.le_of_ble_eq_true rfl) (Nat.le_of_ble_eq_true rfl) (by decide) (by decide) dX11_leastLead_87 ?_
  obtain ⟨hi, hw⟩ := hw
  refine va_iast hx hb hK hP hD hS 2 0 rfl rfl hi dX11_leastLead_90 (fun H locs hP hD hS => ?_)
  have hP : va_P (dC, dI) vwCl (ceX11_leastLead cyI cyB cyJ cyZ a0 a1 a2 b0_world b0_image b0_before b0_taken b0_tape b0_five b0_value b0_walk b0_ends b0_manX b0_manY b0_dogX b0_dogY b0_row b0_round b0_farOne b0_leads b0_drags b0_from b0_near g0_thrown g0_hasImage g0_remembered g0_taped g0_point g0_end g0_begin g0_deep g0_faultAt g0_steps g0_men g0_dogs f1 (upd f2 ((30 * x1) + x2).toNatClampNeg (iMax (f1 ((30 * x1) + x2).toNatClampNeg) s0))) H := hP
  have hD : va_D A (ceX11_leastLead cyI cyB cyJ cyZ a0 a1 a2 b0_world b0_image b0_before b0_taken b0_tape b0_five b0_value b0_walk b0_ends b0_manX b0_manY b0_dogX b0_dogY b0_row b0_round b0_farOne b0_leads b0_drags b0_from b0_near g0_thrown g0_hasImage g0_remembered g0_taped g0_point g0_end g0_begin g0_deep g0_faultAt g0_steps g0_men g0_dogs f1 (upd f2 ((30 * x1) + x2).toNatClampNeg (iMax (f1 ((30 * x1) + x2).toNatClampNeg) s0))) := hD
  obtain ⟨v1, ev1⟩ : ∃ y : Int32, y = x2 + 1 := ⟨_, rfl⟩
  have hw := hw v1 ev1
  refine lv_iinc (v := v1) (lv' := [(2, .int v1), (3, .int s0), (0, .ref a0), (1, .int x1)]) hx hb dX11_leastLead_91 hl (k := 3) rfl (by rw [ev1]; rfl) (by decide) rfl (fun ls hl => ?_)
  refine lv_goto (tgt := 12) hx hb dX11_leastLead_94 (by decide) ?_
  exact hk12 (upd f2 ((30 * x1) + x2).toNatClampNeg (iMax (f1 ((30 * x1) + x2).toNatClampNeg) s0)) x1 v1 hw H locs hP hD hS ls (lv_sub hl [2, 3, 0] rfl)
set_option maxRecDepth 100000 in
set_option maxHeartbeats 4000000 in
theorem bX11_leastLead_32 {p : Program} {l : Launch} {e : Env} {s : State} {m : MethodId} {args : Array Value} {below : List Frame} {meth : Method} {c : Code} {dC : Nat → ClassId} {dI : Nat → Nat → Nat} {cyI cyB cyJ cyZ : ClassId} {A : Nat → Prop} {a0 a1 a2 b0_world b0_image b0_before b0_taken b0_tape b0_five b0_value b0_walk b0_ends b0_manX b0_manY b0_dogX b0_dogY b0_row b0_round b0_farOne b0_leads b0_drags b0_from b0_near : Nat} {g0_thrown : Int32} {g0_hasImage : Int32} {g0_remembered : Int32} {g0_taped : Int32} {g0_point : Int32} {g0_end : Int32} {g0_begin : Int32} {g0_deep : Int32} {g0_faultAt : Int32} {g0_steps : Int32} (C0 : cxM p s m meth c args wsX11_leastLead RX11 cX11_leastLead 4 (some .int)) (hK : va_K (dC, dI) vwCl (tyA cyI cyB cyJ cyZ) s) (hN : nwA s) (hA : ∀ q : Nat, s.heap.size ≤ q → A q) {post : Int32 → ((Nat → Int32)) → Prop} {g0_men : Int32} {g0_dogs : Int32} {f1 : Nat → Int32} {k12 : (Nat → Int32) → Int32 → Int32 → Prop} {k2 : (Nat → Int32) → Int32 → Prop} {Q : State → Prop} (hQ : Q = MQ below (va_Qi post (fun u : (Nat → Int32) => wAt dC dI cyI cyB cyJ cyZ A (ceX11_leastLead cyI cyB cyJ cyZ a0 a1 a2 b0_world b0_image b0_before b0_taken b0_tape b0_five b0_value b0_walk b0_ends b0_manX b0_manY b0_dogX b0_dogY b0_row b0_round b0_farOne b0_leads b0_drags b0_from b0_near g0_thrown g0_hasImage g0_remembered g0_taped g0_point g0_end g0_begin g0_deep g0_faultAt g0_steps g0_men g0_dogs f1 u)) A) args s 0 0 A) (hk12 : ∀ (f2 : Nat → Int32) (x1 : Int32) (x2 : Int32), k12 f2 x1 x2 → AtW p l e rmX11_leastLead s m args below meth c dC dI A Q 4 0 0 (ceX11_leastLead cyI cyB cyJ cyZ a0 a1 a2 b0_world b0_image b0_before b0_taken b0_tape b0_five b0_value b0_walk b0_ends b0_manX b0_manY b0_dogX b0_dogY b0_row b0_round b0_farOne b0_leads b0_drags b0_from b0_near g0_thrown g0_hasImage g0_remembered g0_taped g0_point g0_end g0_begin g0_deep g0_faultAt g0_steps g0_men g0_dogs f1 f2) [(0, .ref a0), (1, .int x1), (2, .int x2)] 12 []) (hk2 : ∀ (f2 : Nat → Int32) (x1 : Int32), k2 f2 x1 → AtW p l e rmX11_leastLead s m args below meth c dC dI A Q 4 0 0 (ceX11_leastLead cyI cyB cyJ cyZ a0 a1 a2 b0_world b0_image b0_before b0_taken b0_tape b0_five b0_value b0_walk b0_ends b0_manX b0_manY b0_dogX b0_dogY b0_row b0_round b0_farOne b0_leads b0_drags b0_from b0_near g0_thrown g0_hasImage g0_remembered g0_taped g0_point g0_end g0_begin g0_deep g0_faultAt g0_steps g0_men g0_dogs f1 f2) [(0, .ref a0), (1, .int x1)] 2 []) : ∀ (f2 : Nat → Int32) (x1 : Int32) (x2 : Int32), wpX11_leastLead_32 k12 k2 post g0_men g0_dogs f1 f2 x1 x2 → AtW p l e rmX11_leastLead s m args below meth c dC dI A Q 4 0 0 (ceX11_leastLead cyI cyB cyJ cyZ a0 a1 a2 b0_world b0_image b0_before b0_taken b0_tape b0_five b0_value b0_walk b0_ends b0_manX b0_manY b0_dogX b0_dogY b0_row b0_round b0_farOne b0_leads b0_drags b0_from b0_near g0_thrown g0_hasImage g0_remembered g0_taped g0_point g0_end g0_begin g0_deep g0_faultAt g0_steps g0_men g0_dogs f1 f2) [(0, .ref a0), (1, .int x1), (2, .int x2)] 32 [] := by
  intro f2 x1 x2 hw H locs hP hD hS ls hl
  have C1 := C0
  obtain ⟨hx, hb, hr, hml, hown, hts, hlocks⟩ := C1
  refine lv_aload_n hx hb dX11_leastLead_32 rfl (lv_at hl 0 rfl) ?_
  refine lv_iload_n hx hb dX11_leastLead_33 rfl (lv_at hl 1 rfl) ?_
  refine lv_iconst (v := 1) hx hb dX11_leastLead_34 (by decide) ?_
  refine lv_isub hx hb dX11_leastLead_35 ?_
  refine lv_iload_n hx hb dX11_leastLead_36 rfl (lv_at hl 2 rfl) ?_
  refine lv_iconst (v := 1) hx hb dX11_leastLead_37 (by decide) ?_
  refine lv_isub hx hb dX11_leastLead_38 ?_
  have hPc := hP.sub (ws' := (ceX11_leadAt cyI cyB cyJ cyZ a0 a2 b0_world b0_image b0_before b0_taken b0_tape b0_five b0_value a1 b0_walk b0_ends b0_manX b0_manY b0_dogX b0_dogY b0_row b0_round b0_farOne b0_leads b0_drags b0_from b0_near g0_thrown g0_hasImage g0_remembered g0_taped g0_point g0_end g0_begin g0_deep g0_faultAt g0_steps g0_men g0_dogs f2)) [0, 2] rfl
  have hDc := hD.sub (ws' := (ceX11_leadAt cyI cyB cyJ cyZ a0 a2 b0_world b0_image b0_before b0_taken b0_tape b0_five b0_value a1 b0_walk b0_ends b0_manX b0_manY b0_dogX b0_dogY b0_row b0_round b0_farOne b0_leads b0_drags b0_from b0_near g0_thrown g0_hasImage g0_remembered g0_taped g0_point g0_end g0_begin g0_deep g0_faultAt g0_steps g0_men g0_dogs f2)) [0, 2] (by decide) rfl
  have hFc := va_free (wc := (ceX11_leadAt cyI cyB cyJ cyZ a0 a2 b0_world b0_image b0_before b0_taken b0_tape b0_five b0_value a1 b0_walk b0_ends b0_manX b0_manY b0_dogX b0_dogY b0_row b0_round b0_farOne b0_leads b0_drags b0_from b0_near g0_thrown g0_hasImage g0_remembered g0_taped g0_point g0_end g0_begin g0_deep g0_faultAt g0_steps g0_men g0_dogs f2)) hD hS hA [0, 2] rfl
  refine va_calli (va_runV (As := [.int (x1 - 1), .int (x2 - 1)]) (rest := []) ⟨hx, hb, hml, hown, hts⟩ (ctX11_leadAt l dC dI cyI cyB cyJ cyZ _ a0 a2 b0_world b0_image b0_before b0_taken b0_tape b0_five b0_value a1 b0_walk b0_ends b0_manX b0_manY b0_dogX b0_dogY b0_row b0_round b0_farOne b0_leads b0_drags b0_from b0_near g0_thrown g0_hasImage g0_remembered g0_taped g0_point g0_end g0_begin g0_deep g0_faultAt g0_steps g0_men g0_dogs f2 (x1 - 1) (x2 - 1) _ hw) (cwV 2 hts gX11_leastLead_X11_leadAt rfl rfl rfl (by decide +kernel) ⟨Nat.le_of_ble_eq_true rfl, Nat.le_of_ble_eq_true rfl⟩) ⟨wPre_blind, va_recv hK hPc (ci := 11) (q0 := 0) rfl rfl, fun U hU hW => wPre_of hPc hK hDc hN hU hW⟩ rfl rfl hl.1 rfl (lv_room (Nat.le_of_ble_eq_true rfl)) dX11_leastLead_39 ⟨(Nat.zero_le _), (Nat.zero_le _)⟩) hS (fun q _ h => hFc q h) hFc (fun r2 u1 t H1 locs ht hvm hw hB hz1 hk1 hS => ?_)
  obtain ⟨hP1, hK1, hD1⟩ := hB
  rw [ht] at hP1
  obtain ⟨hP, hD⟩ := va_join (wr := pickW (ceX11_leastLead cyI cyB cyJ cyZ a0 a1 a2 b0_world b0_image b0_before b0_taken b0_tape b0_five b0_value b0_walk b0_ends b0_manX b0_manY b0_dogX b0_dogY b0_row b0_round b0_farOne b0_leads b0_drags b0_from b0_near g0_thrown g0_hasImage g0_remembered g0_taped g0_point g0_end g0_begin g0_deep g0_faultAt g0_steps g0_men g0_dogs f1 f2) [1]) (w1 := (ceX11_leadAt cyI cyB cyJ cyZ a0 a2 b0_world b0_image b0_before b0_taken b0_tape b0_five b0_value a1 b0_walk b0_ends b0_manX b0_manY b0_dogX b0_dogY b0_row b0_round b0_farOne b0_leads b0_drags b0_from b0_near g0_thrown g0_hasImage g0_remembered g0_taped g0_point g0_end g0_begin g0_deep g0_faultAt g0_steps g0_men g0_dogs f2)) hP hD [0, 2] [1] rfl rfl (by decide) (by decide) hk1 hFc hP1 hD1
  have hP := hP.sub (ws' := (ceX11_leastLead cyI cyB cyJ cyZ a0 a1 a2 b0_world b0_image b0_before b0_taken b0_tape b0_five b0_value b0_walk b0_ends b0_manX b0_manY b0_dogX b0_dogY b0_row b0_round b0_farOne b0_leads b0_drags b0_from b0_near g0_thrown g0_hasImage g0_remembered g0_taped g0_point g0_end g0_begin g0_deep g0_faultAt g0_steps g0_men g0_dogs f1 f2)) [1, 0, 2] rfl
  have hD := hD.sub (ws' := (ceX11_leastLead cyI cyB cyJ cyZ a0 a1 a2 b0_world b0_image b0_before b0_taken b0_tape b0_five b0_value b0_walk b0_ends b0_manX b0_manY b0_dogX b0_dogY b0_row b0_round b0_farOne b0_leads b0_drags b0_from b0_near g0_thrown g0_hasImage g0_remembered g0_taped g0_point g0_end g0_begin g0_deep g0_faultAt g0_steps g0_men g0_dogs f1 f2)) [1, 0, 2] (by decide) rfl
  generalize H1 = H at hP hS ⊢
  refine lv_aload_n hx hb dX11_leastLead_42 rfl (lv_at hl 0 rfl) ?_
  refine lv_iload_n hx hb dX11_leastLead_43 rfl (lv_at hl 1 rfl) ?_
  refine lv_iconst (v := 1) hx hb dX11_leastLead_44 (by decide) ?_
  refine lv_isub hx hb dX11_leastLead_45 ?_
  refine lv_iload_n hx hb dX11_leastLead_46 rfl (lv_at hl 2 rfl) ?_
  have hPc := hP.sub (ws' := (ceX11_leadAt cyI cyB cyJ cyZ a0 a2 b0_world b0_image b0_before b0_taken b0_tape b0_five b0_value a1 b0_walk b0_ends b0_manX b0_manY b0_dogX b0_dogY b0_row b0_round b0_farOne b0_leads b0_drags b0_from b0_near g0_thrown g0_hasImage g0_remembered g0_taped g0_point g0_end g0_begin g0_deep g0_faultAt g0_steps g0_men g0_dogs f2)) [0, 2] rfl
  have hDc := hD.sub (ws' := (ceX11_leadAt cyI cyB cyJ cyZ a0 a2 b0_world b0_image b0_before b0_taken b0_tape b0_five b0_value a1 b0_walk b0_ends b0_manX b0_manY b0_dogX b0_dogY b0_row b0_round b0_farOne b0_leads b0_drags b0_from b0_near g0_thrown g0_hasImage g0_remembered g0_taped g0_point g0_end g0_begin g0_deep g0_faultAt g0_steps g0_men g0_dogs f2)) [0, 2] (by decide) rfl
  have hFc := va_free (wc := (ceX11_leadAt cyI cyB cyJ cyZ a0 a2 b0_world b0_image b0_before b0_taken b0_tape b0_five b0_value a1 b0_walk b0_ends b0_manX b0_manY b0_dogX b0_dogY b0_row b0_round b0_farOne b0_leads b0_drags b0_from b0_near g0_thrown g0_hasImage g0_remembered g0_taped g0_point g0_end g0_begin g0_deep g0_faultAt g0_steps g0_men g0_dogs f2)) hD hS hA [0, 2] rfl
  refine va_calli (va_runV (As := [.int (x1 - 1), .int x2]) (rest := [.int r2]) ⟨hx, hb, hml, hown, hts⟩ (ctX11_leadAt l dC dI cyI cyB cyJ cyZ _ a0 a2 b0_world b0_image b0_before b0_taken b0_tape b0_five b0_value a1 b0_walk b0_ends b0_manX b0_manY b0_dogX b0_dogY b0_row b0_round b0_farOne b0_leads b0_drags b0_from b0_near g0_thrown g0_hasImage g0_remembered g0_taped g0_point g0_end g0_begin g0_deep g0_faultAt g0_steps g0_men g0_dogs f2 (x1 - 1) x2 _ hw) (cwV 2 hts gX11_leastLead_X11_leadAt rfl rfl rfl (by decide +kernel) ⟨Nat.le_of_ble_eq_true rfl, Nat.le_of_ble_eq_true rfl⟩) ⟨wPre_blind, va_recv hK hPc (ci := 11) (q0 := 0) rfl rfl, fun U hU hW => wPre_of hPc hK hDc hN hU hW⟩ rfl rfl hl.1 rfl (lv_room (Nat.le_of_ble_eq_true rfl)) dX11_leastLead_47 ⟨(Nat.zero_le _), (Nat.zero_le _)⟩) hS (fun q _ h => hFc q h) hFc (fun r4 u3 t H1 locs ht hvm hw hB hz1 hk1 hS => ?_)
  obtain ⟨hP1, hK1, hD1⟩ := hB
  rw [ht] at hP1
  obtain ⟨hP, hD⟩ := va_join (wr := pickW (ceX11_leastLead cyI cyB cyJ cyZ a0 a1 a2 b0_world b0_image b0_before b0_taken b0_tape b0_five b0_value b0_walk b0_ends b0_manX b0_manY b0_dogX b0_dogY b0_row b0_round b0_farOne b0_leads b0_drags b0_from b0_near g0_thrown g0_hasImage g0_remembered g0_taped g0_point g0_end g0_begin g0_deep g0_faultAt g0_steps g0_men g0_dogs f1 f2) [1]) (w1 := (ceX11_leadAt cyI cyB cyJ cyZ a0 a2 b0_world b0_image b0_before b0_taken b0_tape b0_five b0_value a1 b0_walk b0_ends b0_manX b0_manY b0_dogX b0_dogY b0_row b0_round b0_farOne b0_leads b0_drags b0_from b0_near g0_thrown g0_hasImage g0_remembered g0_taped g0_point g0_end g0_begin g0_deep g0_faultAt g0_steps g0_men g0_dogs f2)) hP hD [0, 2] [1] rfl rfl (by decide) (by decide) hk1 hFc hP1 hD1
  have hP := hP.sub (ws' := (ceX11_leastLead cyI cyB cyJ cyZ a0 a1 a2 b0_world b0_image b0_before b0_taken b0_tape b0_five b0_value b0_walk b0_ends b0_manX b0_manY b0_dogX b0_dogY b0_row b0_round b0_farOne b0_leads b0_drags b0_from b0_near g0_thrown g0_hasImage g0_remembered g0_taped g0_point g0_end g0_begin g0_deep g0_faultAt g0_steps g0_men g0_dogs f1 f2)) [1, 0, 2] rfl
  have hD := hD.sub (ws' := (ceX11_leastLead cyI cyB cyJ cyZ a0 a1 a2 b0_world b0_image b0_before b0_taken b0_tape b0_five b0_value b0_walk b0_ends b0_manX b0_manY b0_dogX b0_dogY b0_row b0_round b0_farOne b0_leads b0_drags b0_from b0_near g0_thrown g0_hasImage g0_remembered g0_taped g0_point g0_end g0_begin g0_deep g0_faultAt g0_steps g0_men g0_dogs f1 f2)) [1, 0, 2] (by decide) rfl
  generalize H1 = H at hP hS ⊢
  refine lv_aload_n hx hb dX11_leastLead_50 rfl (lv_at hl 0 rfl) ?_
  refine lv_iload_n hx hb dX11_leastLead_51 rfl (lv_at hl 1 rfl) ?_
  refine lv_iload_n hx hb dX11_leastLead_52 rfl (lv_at hl 2 rfl) ?_
  refine lv_iconst (v := 1) hx hb dX11_leastLead_53 (by decide) ?_
  refine lv_isub hx hb dX11_leastLead_54 ?_
  have hPc := hP.sub (ws' := (ceX11_leadAt cyI cyB cyJ cyZ a0 a2 b0_world b0_image b0_before b0_taken b0_tape b0_five b0_value a1 b0_walk b0_ends b0_manX b0_manY b0_dogX b0_dogY b0_row b0_round b0_farOne b0_leads b0_drags b0_from b0_near g0_thrown g0_hasImage g0_remembered g0_taped g0_point g0_end g0_begin g0_deep g0_faultAt g0_steps g0_men g0_dogs f2)) [0, 2] rfl
  have hDc := hD.sub (ws' := (ceX11_leadAt cyI cyB cyJ cyZ a0 a2 b0_world b0_image b0_before b0_taken b0_tape b0_five b0_value a1 b0_walk b0_ends b0_manX b0_manY b0_dogX b0_dogY b0_row b0_round b0_farOne b0_leads b0_drags b0_from b0_near g0_thrown g0_hasImage g0_remembered g0_taped g0_point g0_end g0_begin g0_deep g0_faultAt g0_steps g0_men g0_dogs f2)) [0, 2] (by decide) rfl
  have hFc := va_free (wc := (ceX11_leadAt cyI cyB cyJ cyZ a0 a2 b0_world b0_image b0_before b0_taken b0_tape b0_five b0_value a1 b0_walk b0_ends b0_manX b0_manY b0_dogX b0_dogY b0_row b0_round b0_farOne b0_leads b0_drags b0_from b0_near g0_thrown g0_hasImage g0_remembered g0_taped g0_point g0_end g0_begin g0_deep g0_faultAt g0_steps g0_men g0_dogs f2)) hD hS hA [0, 2] rfl
  refine va_calli (va_runV (As := [.int x1, .int (x2 - 1)]) (rest := [.int r4, .int r2]) ⟨hx, hb, hml, hown, hts⟩ (ctX11_leadAt l dC dI cyI cyB cyJ cyZ _ a0 a2 b0_world b0_image b0_before b0_taken b0_tape b0_five b0_value a1 b0_walk b0_ends b0_manX b0_manY b0_dogX b0_dogY b0_row b0_round b0_farOne b0_leads b0_drags b0_from b0_near g0_thrown g0_hasImage g0_remembered g0_taped g0_point g0_end g0_begin g0_deep g0_faultAt g0_steps g0_men g0_dogs f2 x1 (x2 - 1) _ hw) (cwV 2 hts gX11_leastLead_X11_leadAt rfl rfl rfl (by decide +kernel) ⟨Nat.le_of_ble_eq_true rfl, Nat.le_of_ble_eq_true rfl⟩) ⟨wPre_blind, va_recv hK hPc (ci := 11) (q0 := 0) rfl rfl, fun U hU hW => wPre_of hPc hK hDc hN hU hW⟩ rfl rfl hl.1 rfl (lv_room (Nat.le_of_ble_eq_true rfl)) dX11_leastLead_55 ⟨(Nat.zero_le _), (Nat.zero_le _)⟩) hS (fun q _ h => hFc q h) hFc (fun r6 u5 t H1 locs ht hvm hw hB hz1 hk1 hS => ?_)
  obtain ⟨hP1, hK1, hD1⟩ := hB
  rw [ht] at hP1
  obtain ⟨hP, hD⟩ := va_join (wr := pickW (ceX11_leastLead cyI cyB cyJ cyZ a0 a1 a2 b0_world b0_image b0_before b0_taken b0_tape b0_five b0_value b0_walk b0_ends b0_manX b0_manY b0_dogX b0_dogY b0_row b0_round b0_farOne b0_leads b0_drags b0_from b0_near g0_thrown g0_hasImage g0_remembered g0_taped g0_point g0_end g0_begin g0_deep g0_faultAt g0_steps g0_men g0_dogs f1 f2) [1]) (w1 := (ceX11_leadAt cyI cyB cyJ cyZ a0 a2 b0_world b0_image b0_before b0_taken b0_tape b0_five b0_value a1 b0_walk b0_ends b0_manX b0_manY b0_dogX b0_dogY b0_row b0_round b0_farOne b0_leads b0_drags b0_from b0_near g0_thrown g0_hasImage g0_remembered g0_taped g0_point g0_end g0_begin g0_deep g0_faultAt g0_steps g0_men g0_dogs f2)) hP hD [0, 2] [1] rfl rfl (by decide) (by decide) hk1 hFc hP1 hD1
  have hP := hP.sub (ws' := (ceX11_leastLead cyI cyB cyJ cyZ a0 a1 a2 b0_world b0_image b0_before b0_taken b0_tape b0_five b0_value b0_walk b0_ends b0_manX b0_manY b0_dogX b0_dogY b0_row b0_round b0_farOne b0_leads b0_drags b0_from b0_near g0_thrown g0_hasImage g0_remembered g0_taped g0_point g0_end g0_begin g0_deep g0_faultAt g0_steps g0_men g0_dogs f1 f2)) [1, 0, 2] rfl
  have hD := hD.sub (ws' := (ceX11_leastLead cyI cyB cyJ cyZ a0 a1 a2 b0_world b0_image b0_before b0_taken b0_tape b0_five b0_value b0_walk b0_ends b0_manX b0_manY b0_dogX b0_dogY b0_row b0_round b0_farOne b0_leads b0_drags b0_from b0_near g0_thrown g0_hasImage g0_remembered g0_taped g0_point g0_end g0_begin g0_deep g0_faultAt g0_steps g0_men g0_dogs f1 f2)) [1, 0, 2] (by decide) rfl
  generalize H1 = H at hP hS ⊢
  refine va_mmin hx hb (hml.trans hl.1.symm) hown (hts (.methodLink RX11 268 Lib.Math.min.name) (List.mem_of_getElem? (i := 3) rfl)) (hts (.static Lib.Math.min.name) (List.mem_of_getElem? (i := 4) rfl)) (hts (.initialized "java/lang/Math") (List.mem_of_getElem? (i := 5) rfl)) (hts (.code Lib.Math.min.name Lib.Math.min.code 2 (some .int)) (List.mem_of_getElem? (i := 6) rfl)) (Nat.le_of_ble_eq_true rfl) (Nat.le_of_ble_eq_true rfl) (by decide) (by decide) dX11_leastLead_58 ?_
  refine va_mmin hx hb (hml.trans hl.1.symm) hown (hts (.methodLink RX11 268 Lib.Math.min.name) (List.mem_of_getElem? (i := 3) rfl)) (hts (.static Lib.Math.min.name) (List.mem_of_getElem? (i := 4) rfl)) (hts (.initialized "java/lang/Math") (List.mem_of_getElem? (i := 5) rfl)) (hts (.code Lib.Math.min.name Lib.Math.min.code 2 (some .int)) (List.mem_of_getElem? (i := 6) rfl)) (Nat.le_of_ble_eq_true rfl) (Nat.le_of_ble_eq_true rfl) (by decide) (by decide) dX11_leastLead_61 ?_
  exact bX11_leastLead_64 C0 hK hN hA hQ hk12 hk2 f2 x1 x2 (iMin r2 (iMin r4 r6)) hw _ _ hP hD hS ls (lv_sub hl [0, 1, 2] rfl)
set_option maxRecDepth 100000 in
set_option maxHeartbeats 4000000 in
theorem bX11_leastLead_12 {p : Program} {l : Launch} {e : Env} {s : State} {m : MethodId} {args : Array Value} {below : List Frame} {meth : Method} {c : Code} {dC : Nat → ClassId} {dI : Nat → Nat → Nat} {cyI cyB cyJ cyZ : ClassId} {A : Nat → Prop} {a0 a1 a2 b0_world b0_image b0_before b0_taken b0_tape b0_five b0_value b0_walk b0_ends b0_manX b0_manY b0_dogX b0_dogY b0_row b0_round b0_farOne b0_leads b0_drags b0_from b0_near : Nat} {g0_thrown : Int32} {g0_hasImage : Int32} {g0_remembered : Int32} {g0_taped : Int32} {g0_point : Int32} {g0_end : Int32} {g0_begin : Int32} {g0_deep : Int32} {g0_faultAt : Int32} {g0_steps : Int32} (C0 : cxM p s m meth c args wsX11_leastLead RX11 cX11_leastLead 4 (some .int)) (hK : va_K (dC, dI) vwCl (tyA cyI cyB cyJ cyZ) s) (hN : nwA s) (hA : ∀ q : Nat, s.heap.size ≤ q → A q) {post : Int32 → ((Nat → Int32)) → Prop} {g0_men : Int32} {g0_dogs : Int32} {f1 : Nat → Int32} {k2 : (Nat → Int32) → Int32 → Prop} {Q : State → Prop} (hQ : Q = MQ below (va_Qi post (fun u : (Nat → Int32) => wAt dC dI cyI cyB cyJ cyZ A (ceX11_leastLead cyI cyB cyJ cyZ a0 a1 a2 b0_world b0_image b0_before b0_taken b0_tape b0_five b0_value b0_walk b0_ends b0_manX b0_manY b0_dogX b0_dogY b0_row b0_round b0_farOne b0_leads b0_drags b0_from b0_near g0_thrown g0_hasImage g0_remembered g0_taped g0_point g0_end g0_begin g0_deep g0_faultAt g0_steps g0_men g0_dogs f1 u)) A) args s 0 0 A) (hk2 : ∀ (f2 : Nat → Int32) (x1 : Int32), k2 f2 x1 → AtW p l e rmX11_leastLead s m args below meth c dC dI A Q 4 0 0 (ceX11_leastLead cyI cyB cyJ cyZ a0 a1 a2 b0_world b0_image b0_before b0_taken b0_tape b0_five b0_value b0_walk b0_ends b0_manX b0_manY b0_dogX b0_dogY b0_row b0_round b0_farOne b0_leads b0_drags b0_from b0_near g0_thrown g0_hasImage g0_remembered g0_taped g0_point g0_end g0_begin g0_deep g0_faultAt g0_steps g0_men g0_dogs f1 f2) [(0, .ref a0), (1, .int x1)] 2 []) : ∀ (n : Nat) (f2 : Nat → Int32) (x1 : Int32) (x2 : Int32), wpX11_leastLead_12 k2 post g0_men g0_dogs f1 n f2 x1 x2 → AtW p l e rmX11_leastLead s m args below meth c dC dI A Q 4 0 0 (ceX11_leastLead cyI cyB cyJ cyZ a0 a1 a2 b0_world b0_image b0_before b0_taken b0_tape b0_five b0_value b0_walk b0_ends b0_manX b0_manY b0_dogX b0_dogY b0_row b0_round b0_farOne b0_leads b0_drags b0_from b0_near g0_thrown g0_hasImage g0_remembered g0_taped g0_point g0_end g0_begin g0_deep g0_faultAt g0_steps g0_men g0_dogs f1 f2) [(0, .ref a0), (1, .int x1), (2, .int x2)] 12 [] := by
  intro n
  induction n with
  | zero => intro f2 x1 x2 hw; exact False.elim hw
  | succ n ih =>
    intro f2 x1 x2 hw H locs hP hD hS ls hl
    have C1 := C0
    obtain ⟨hx, hb, hr, hml, hown, hts, hlocks⟩ := C1
    refine lv_iload_n hx hb dX11_leastLead_12 rfl (lv_at hl 2 rfl) ?_
    refine lv_aload_n hx hb dX11_leastLead_13 rfl (lv_at hl 0 rfl) ?_
    refine va_get (D := (dC, dI)) (ci := 11) (v := .int g0_dogs) (C := RX11) (T := TX11) (N := 34) hx hb hts inX11_leastLead_X11 hown hK hP 0 rfl rfl 19 (by decide) (hts (.fieldLink RX11 303 "LeadParkModel" "dogs" "I") (List.mem_of_getElem? (i := 2) rfl)) (fun _ h9 => h9) rfl dX11_leastLead_14 ?_
    refine lv_icmp_ge (tgt := 97) hx hb dX11_leastLead_17 (by decide) (fun hc => ?_) (fun hc => ?_)
    · have hw := hw.1 hc
      obtain ⟨v1, ev1⟩ : ∃ y : Int32, y = x1 + 1 := ⟨_, rfl⟩
      have hw := hw v1 ev1
      refine lv_iinc (v := v1) (lv' := [(1, .int v1), (0, .ref a0), (2, .int x2)]) hx hb dX11_leastLead_97 hl (k := 1) rfl (by rw [ev1]; rfl) (by decide) rfl (fun ls hl => ?_)
      refine lv_goto (tgt := 2) hx hb dX11_leastLead_100 (by decide) ?_
      exact hk2 f2 v1 hw H locs hP hD hS ls (lv_sub hl [1, 0] rfl)
    · have hw := hw.2 hc
      refine lv_iload_n hx hb dX11_leastLead_20 rfl (lv_at hl 1 rfl) ?_
      refine lv_if_ne (tgt := 32) hx hb dX11_leastLead_21 (by decide) (fun hc => ?_) (fun hc => ?_)
      · have hw := hw.1 hc
        exact bX11_leastLead_32 C0 hK hN hA hQ ih hk2 f2 x1 x2 hw _ _ hP hD hS ls (lv_sub hl [0, 1, 2] rfl)
      · have hw := hw.2 hc
        refine lv_iload_n hx hb dX11_leastLead_24 rfl (lv_at hl 2 rfl) ?_
        refine lv_if_ne (tgt := 32) hx hb dX11_leastLead_25 (by decide) (fun hc => ?_) (fun hc => ?_)
        · have hw := hw.1 hc
          exact bX11_leastLead_32 C0 hK hN hA hQ ih hk2 f2 x1 x2 hw _ _ hP hD hS ls (lv_sub hl [0, 1, 2] rfl)
        · have hw := hw.2 hc
          refine lv_iconst (v := 0) hx hb dX11_leastLead_28 (by decide) ?_
          refine lv_goto (tgt := 64) hx hb dX11_leastLead_29 (by decide) ?_
          exact bX11_leastLead_64 C0 hK hN hA hQ ih hk2 f2 x1 x2 0 hw _ _ hP hD hS ls (lv_sub hl [0, 1, 2] rfl)
set_option maxRecDepth 100000 in
set_option maxHeartbeats 4000000 in
theorem bX11_leastLead_2 {p : Program} {l : Launch} {e : Env} {s : State} {m : MethodId} {args : Array Value} {below : List Frame} {meth : Method} {c : Code} {dC : Nat → ClassId} {dI : Nat → Nat → Nat} {cyI cyB cyJ cyZ : ClassId} {A : Nat → Prop} {a0 a1 a2 b0_world b0_image b0_before b0_taken b0_tape b0_five b0_value b0_walk b0_ends b0_manX b0_manY b0_dogX b0_dogY b0_row b0_round b0_farOne b0_leads b0_drags b0_from b0_near : Nat} {g0_thrown : Int32} {g0_hasImage : Int32} {g0_remembered : Int32} {g0_taped : Int32} {g0_point : Int32} {g0_end : Int32} {g0_begin : Int32} {g0_deep : Int32} {g0_faultAt : Int32} {g0_steps : Int32} (C0 : cxM p s m meth c args wsX11_leastLead RX11 cX11_leastLead 4 (some .int)) (hK : va_K (dC, dI) vwCl (tyA cyI cyB cyJ cyZ) s) (hN : nwA s) (hA : ∀ q : Nat, s.heap.size ≤ q → A q) {post : Int32 → ((Nat → Int32)) → Prop} {g0_men : Int32} {g0_dogs : Int32} {f1 : Nat → Int32} {Q : State → Prop} (hQ : Q = MQ below (va_Qi post (fun u : (Nat → Int32) => wAt dC dI cyI cyB cyJ cyZ A (ceX11_leastLead cyI cyB cyJ cyZ a0 a1 a2 b0_world b0_image b0_before b0_taken b0_tape b0_five b0_value b0_walk b0_ends b0_manX b0_manY b0_dogX b0_dogY b0_row b0_round b0_farOne b0_leads b0_drags b0_from b0_near g0_thrown g0_hasImage g0_remembered g0_taped g0_point g0_end g0_begin g0_deep g0_faultAt g0_steps g0_men g0_dogs f1 u)) A) args s 0 0 A) : ∀ (n : Nat) (f2 : Nat → Int32) (x1 : Int32), wpX11_leastLead_2 post g0_men g0_dogs f1 n f2 x1 → AtW p l e rmX11_leastLead s m args below meth c dC dI A Q 4 0 0 (ceX11_leastLead cyI cyB cyJ cyZ a0 a1 a2 b0_world b0_image b0_before b0_taken b0_tape b0_five b0_value b0_walk b0_ends b0_manX b0_manY b0_dogX b0_dogY b0_row b0_round b0_farOne b0_leads b0_drags b0_from b0_near g0_thrown g0_hasImage g0_remembered g0_taped g0_point g0_end g0_begin g0_deep g0_faultAt g0_steps g0_men g0_dogs f1 f2) [(0, .ref a0), (1, .int x1)] 2 [] := by
  intro n
  induction n with
  | zero => intro f2 x1 hw; exact False.elim hw
  | succ n ih =>
    intro f2 x1 hw H locs hP hD hS ls hl
    have C1 := C0
    obtain ⟨hx, hb, hr, hml, hown, hts, hlocks⟩ := C1
    refine lv_iload_n hx hb dX11_leastLead_2 rfl (lv_at hl 1 rfl) ?_
    refine lv_aload_n hx hb dX11_leastLead_3 rfl (lv_at hl 0 rfl) ?_
    refine va_get (D := (dC, dI)) (ci := 11) (v := .int g0_men) (C := RX11) (T := TX11) (N := 34) hx hb hts inX11_leastLead_X11 hown hK hP 0 rfl rfl 18 (by decide) (hts (.fieldLink RX11 300 "LeadParkModel" "men" "I") (List.mem_of_getElem? (i := 1) rfl)) (fun _ h9 => h9) rfl dX11_leastLead_4 ?_
    refine lv_icmp_ge (tgt := 103) hx hb dX11_leastLead_7 (by decide) (fun hc => ?_) (fun hc => ?_)
    · have hw := hw.1 hc
      refine lv_aload_n hx hb dX11_leastLead_103 rfl (lv_at hl 0 rfl) ?_
      refine lv_aload_n hx hb dX11_leastLead_104 rfl (lv_at hl 0 rfl) ?_
      refine va_get (D := (dC, dI)) (ci := 11) (v := .int g0_men) (C := RX11) (T := TX11) (N := 34) hx hb hts inX11_leastLead_X11 hown hK hP 0 rfl rfl 18 (by decide) (hts (.fieldLink RX11 300 "LeadParkModel" "men" "I") (List.mem_of_getElem? (i := 1) rfl)) (fun _ h9 => h9) rfl dX11_leastLead_105 ?_
      refine lv_iconst (v := 1) hx hb dX11_leastLead_108 (by decide) ?_
      refine lv_isub hx hb dX11_leastLead_109 ?_
      refine lv_aload_n hx hb dX11_leastLead_110 rfl (lv_at hl 0 rfl) ?_
      refine va_get (D := (dC, dI)) (ci := 11) (v := .int g0_dogs) (C := RX11) (T := TX11) (N := 34) hx hb hts inX11_leastLead_X11 hown hK hP 0 rfl rfl 19 (by decide) (hts (.fieldLink RX11 303 "LeadParkModel" "dogs" "I") (List.mem_of_getElem? (i := 2) rfl)) (fun _ h9 => h9) rfl dX11_leastLead_111 ?_
      refine lv_iconst (v := 1) hx hb dX11_leastLead_114 (by decide) ?_
      refine lv_isub hx hb dX11_leastLead_115 ?_
      have hPc := hP.sub (ws' := (ceX11_leadAt cyI cyB cyJ cyZ a0 a2 b0_world b0_image b0_before b0_taken b0_tape b0_five b0_value a1 b0_walk b0_ends b0_manX b0_manY b0_dogX b0_dogY b0_row b0_round b0_farOne b0_leads b0_drags b0_from b0_near g0_thrown g0_hasImage g0_remembered g0_taped g0_point g0_end g0_begin g0_deep g0_faultAt g0_steps g0_men g0_dogs f2)) [0, 2] rfl
      have hDc := hD.sub (ws' := (ceX11_leadAt cyI cyB cyJ cyZ a0 a2 b0_world b0_image b0_before b0_taken b0_tape b0_five b0_value a1 b0_walk b0_ends b0_manX b0_manY b0_dogX b0_dogY b0_row b0_round b0_farOne b0_leads b0_drags b0_from b0_near g0_thrown g0_hasImage g0_remembered g0_taped g0_point g0_end g0_begin g0_deep g0_faultAt g0_steps g0_men g0_dogs f2)) [0, 2] (by decide) rfl
      have hFc := va_free (wc := (ceX11_leadAt cyI cyB cyJ cyZ a0 a2 b0_world b0_image b0_before b0_taken b0_tape b0_five b0_value a1 b0_walk b0_ends b0_manX b0_manY b0_dogX b0_dogY b0_row b0_round b0_farOne b0_leads b0_drags b0_from b0_near g0_thrown g0_hasImage g0_remembered g0_taped g0_point g0_end g0_begin g0_deep g0_faultAt g0_steps g0_men g0_dogs f2)) hD hS hA [0, 2] rfl
      refine va_calli (va_runV (As := [.int (g0_men - 1), .int (g0_dogs - 1)]) (rest := []) ⟨hx, hb, hml, hown, hts⟩ (ctX11_leadAt l dC dI cyI cyB cyJ cyZ _ a0 a2 b0_world b0_image b0_before b0_taken b0_tape b0_five b0_value a1 b0_walk b0_ends b0_manX b0_manY b0_dogX b0_dogY b0_row b0_round b0_farOne b0_leads b0_drags b0_from b0_near g0_thrown g0_hasImage g0_remembered g0_taped g0_point g0_end g0_begin g0_deep g0_faultAt g0_steps g0_men g0_dogs f2 (g0_men - 1) (g0_dogs - 1) _ hw) (cwV 2 hts gX11_leastLead_X11_leadAt rfl rfl rfl (by decide +kernel) ⟨Nat.le_of_ble_eq_true rfl, Nat.le_of_ble_eq_true rfl⟩) ⟨wPre_blind, va_recv hK hPc (ci := 11) (q0 := 0) rfl rfl, fun U hU hW => wPre_of hPc hK hDc hN hU hW⟩ rfl rfl hl.1 rfl (lv_room (Nat.le_of_ble_eq_true rfl)) dX11_leastLead_116 ⟨(Nat.zero_le _), (Nat.zero_le _)⟩) hS (fun q _ h => hFc q h) hFc (fun r2 u1 t H1 locs ht hvm hw hB hz1 hk1 hS => ?_)
      obtain ⟨hP1, hK1, hD1⟩ := hB
      rw [ht] at hP1
      obtain ⟨hP, hD⟩ := va_join (wr := pickW (ceX11_leastLead cyI cyB cyJ cyZ a0 a1 a2 b0_world b0_image b0_before b0_taken b0_tape b0_five b0_value b0_walk b0_ends b0_manX b0_manY b0_dogX b0_dogY b0_row b0_round b0_farOne b0_leads b0_drags b0_from b0_near g0_thrown g0_hasImage g0_remembered g0_taped g0_point g0_end g0_begin g0_deep g0_faultAt g0_steps g0_men g0_dogs f1 f2) [1]) (w1 := (ceX11_leadAt cyI cyB cyJ cyZ a0 a2 b0_world b0_image b0_before b0_taken b0_tape b0_five b0_value a1 b0_walk b0_ends b0_manX b0_manY b0_dogX b0_dogY b0_row b0_round b0_farOne b0_leads b0_drags b0_from b0_near g0_thrown g0_hasImage g0_remembered g0_taped g0_point g0_end g0_begin g0_deep g0_faultAt g0_steps g0_men g0_dogs f2)) hP hD [0, 2] [1] rfl rfl (by decide) (by decide) hk1 hFc hP1 hD1
      have hP := hP.sub (ws' := (ceX11_leastLead cyI cyB cyJ cyZ a0 a1 a2 b0_world b0_image b0_before b0_taken b0_tape b0_five b0_value b0_walk b0_ends b0_manX b0_manY b0_dogX b0_dogY b0_row b0_round b0_farOne b0_leads b0_drags b0_from b0_near g0_thrown g0_hasImage g0_remembered g0_taped g0_point g0_end g0_begin g0_deep g0_faultAt g0_steps g0_men g0_dogs f1 f2)) [1, 0, 2] rfl
      have hD := hD.sub (ws' := (ceX11_leastLead cyI cyB cyJ cyZ a0 a1 a2 b0_world b0_image b0_before b0_taken b0_tape b0_five b0_value b0_walk b0_ends b0_manX b0_manY b0_dogX b0_dogY b0_row b0_round b0_farOne b0_leads b0_drags b0_from b0_near g0_thrown g0_hasImage g0_remembered g0_taped g0_point g0_end g0_begin g0_deep g0_faultAt g0_steps g0_men g0_dogs f1 f2)) [1, 0, 2] (by decide) rfl
      generalize H1 = H at hP hS ⊢
      rw [hQ]
      exact W.iret (v := r2) hx hb hr (fun t ht hW => ⟨⟨r2, (f2), rfl, hw, by rw [ht]; exact hP, va_K.moved hW.alike hK, hD⟩, hS.F ht⟩) hS.2.2 dX11_leastLead_119
    · have hw := hw.2 hc
      refine lv_iconst (v := 0) hx hb dX11_leastLead_10 (by decide) ?_
      refine lv_istore_n (lv' := [(2, .int 0), (0, .ref a0), (1, .int x1)]) hx hb dX11_leastLead_11 rfl hl (by decide) rfl (fun ls hl => ?_)
      obtain ⟨nn, hw⟩ := hw
      exact bX11_leastLead_12 C0 hK hN hA hQ ih nn f2 x1 0 hw _ _ hP hD hS ls (lv_sub hl [1, 2, 0] rfl)
set_option maxRecDepth 100000 in
set_option maxHeartbeats 4000000 in
theorem ctX11_leastLead (l : Launch) (dC : Nat → ClassId) (dI : Nat → Nat → Nat) (cyI cyB cyJ cyZ : ClassId) (sz : Nat) (a0 a1 a2 b0_world b0_image b0_before b0_taken b0_tape b0_five b0_value b0_walk b0_ends b0_manX b0_manY b0_dogX b0_dogY b0_row b0_round b0_farOne b0_leads b0_drags b0_from b0_near : Nat) (g0_thrown : Int32) (g0_hasImage : Int32) (g0_remembered : Int32) (g0_taped : Int32) (g0_point : Int32) (g0_end : Int32) (g0_begin : Int32) (g0_deep : Int32) (g0_faultAt : Int32) (g0_steps : Int32) (g0_men : Int32) (g0_dogs : Int32) (f1 : Nat → Int32) (f2 : Nat → Int32) (post : Int32 → ((Nat → Int32)) → Prop) (hw : wpX11_leastLead post g0_men g0_dogs f1 f2 ) : Met l yX11_leastLead wsX11_leastLead rmX11_leastLead (va_Pc [.ref a0] (wPre dC dI cyI cyB cyJ cyZ sz (ceX11_leastLead cyI cyB cyJ cyZ a0 a1 a2 b0_world b0_image b0_before b0_taken b0_tape b0_five b0_value b0_walk b0_ends b0_manX b0_manY b0_dogX b0_dogY b0_row b0_round b0_farOne b0_leads b0_drags b0_from b0_near g0_thrown g0_hasImage g0_remembered g0_taped g0_point g0_end g0_begin g0_deep g0_faultAt g0_steps g0_men g0_dogs f1 f2))) (va_Qi post (fun u : (Nat → Int32) => wAt dC dI cyI cyB cyJ cyZ (va_A (ceX11_leastLead cyI cyB cyJ cyZ a0 a1 a2 b0_world b0_image b0_before b0_taken b0_tape b0_five b0_value b0_walk b0_ends b0_manX b0_manY b0_dogX b0_dogY b0_row b0_round b0_farOne b0_leads b0_drags b0_from b0_near g0_thrown g0_hasImage g0_remembered g0_taped g0_point g0_end g0_begin g0_deep g0_faultAt g0_steps g0_men g0_dogs f1 f2) sz) (ceX11_leastLead cyI cyB cyJ cyZ a0 a1 a2 b0_world b0_image b0_before b0_taken b0_tape b0_five b0_value b0_walk b0_ends b0_manX b0_manY b0_dogX b0_dogY b0_row b0_round b0_farOne b0_leads b0_drags b0_from b0_near g0_thrown g0_hasImage g0_remembered g0_taped g0_point g0_end g0_begin g0_deep g0_faultAt g0_steps g0_men g0_dogs f1 u)) (va_A (ceX11_leastLead cyI cyB cyJ cyZ a0 a1 a2 b0_world b0_image b0_before b0_taken b0_tape b0_five b0_value b0_walk b0_ends b0_manX b0_manY b0_dogX b0_dogY b0_row b0_round b0_farOne b0_leads b0_drags b0_from b0_near g0_thrown g0_hasImage g0_remembered g0_taped g0_point g0_end g0_begin g0_deep g0_faultAt g0_steps g0_men g0_dogs f1 f2) sz)) 0 0 (va_A (ceX11_leastLead cyI cyB cyJ cyZ a0 a1 a2 b0_world b0_image b0_before b0_taken b0_tape b0_five b0_value b0_walk b0_ends b0_manX b0_manY b0_dogX b0_dogY b0_row b0_round b0_farOne b0_leads b0_drags b0_from b0_near g0_thrown g0_hasImage g0_remembered g0_taped g0_point g0_end g0_begin g0_deep g0_faultAt g0_steps g0_men g0_dogs f1 f2) sz) := by
  refine Met.ofW (cc := cX11_leastLead) (maxL := 4) (ret := (some .int)) (by decide) rfl ?_
  intro p e s m args below meth c s₁ B hml hv
  obtain ⟨rfl, hsz, hP, hK, hD0, hN⟩ := hv
  have hx := B.exec
  have hb := B.bytes
  have hr := B.returns
  have hts := atoms_spec (ws := wsX11_leastLead) B.pre
  have hown : s.vm.findClass RX11 = some m.cls := findClass_of_methodNamed B.named
  have hlocks := B.notSynchronized
  subst hsz
  have hD := hD0.self (sz := s.heap.size)
  generalize hAe : va_A (ceX11_leastLead cyI cyB cyJ cyZ a0 a1 a2 b0_world b0_image b0_before b0_taken b0_tape b0_five b0_value b0_walk b0_ends b0_manX b0_manY b0_dogX b0_dogY b0_row b0_round b0_farOne b0_leads b0_drags b0_from b0_near g0_thrown g0_hasImage g0_remembered g0_taped g0_point g0_end g0_begin g0_deep g0_faultAt g0_steps g0_men g0_dogs f1 f2) s.heap.size = A at hD ⊢
  have hA : ∀ q : Nat, s.heap.size ≤ q → A q := fun q h => by rw [← hAe]; exact Or.inr h
  have hS : va_S A s.heap s.heap [] := va_S.rf
  have C0 : cxM p s m meth c _ wsX11_leastLead RX11 cX11_leastLead 4 (some .int) := ⟨hx, hb, hr, hml, hown, hts, hlocks⟩
  have hl := lv_entry ([.ref a0]) (n := 4) (Nat.le_of_ble_eq_true rfl)
  rw [lg_entry_eq]
  generalize (lg_sl ([.ref a0]) ++ List.replicate (4 - (lg_sl ([.ref a0])).length) Slot.unset).toArray = ls at hl ⊢
  have hl : lv_has ls 4 [(0, .ref a0)] := hl
  show W p l e rmX11_leastLead s m _ below meth c _ _ _ _ _ _
  refine wq (fun Q hQ => ?_)
  refine lv_iconst (v := 0) hx hb dX11_leastLead_0 (by decide) ?_
  refine lv_istore_n (lv' := [(1, .int 0), (0, .ref a0)]) hx hb dX11_leastLead_1 rfl hl (by decide) rfl (fun ls hl => ?_)
  obtain ⟨nn, hw⟩ := hw
  exact bX11_leastLead_2 C0 hK hN hA hQ nn f2 0 hw _ _ hP hD hS ls (lv_sub hl [1, 0] rfl)
/-! LeadParkModel.leastOf (II)I -/
abbrev ceX11_leastOf (cyI cyB cyJ cyZ : ClassId) (a0 a1 a2 a3 a4 b0_image b0_before b0_taken b0_tape b0_five b0_walk b0_ends b0_manX b0_manY b0_dogX b0_dogY b0_row b0_round b0_farOne b0_leads b0_drags b0_from b0_near : Nat) (g0_thrown : Int32) (g0_hasImage : Int32) (g0_remembered : Int32) (g0_taped : Int32) (g0_point : Int32) (g0_end : Int32) (g0_begin : Int32) (g0_deep : Int32) (g0_faultAt : Int32) (g0_steps : Int32) (f1 : Nat → Int32) (g0_men : Int32) (g0_dogs : Int32) (f2 : Nat → Int32) (f3 : Nat → Int32) (f4 : Nat → Int32) : va_W := [(a0, .inr (11, [.int g0_thrown, .ref a1, .ref b0_image, .ref b0_before, .int g0_hasImage, .ref b0_taken, .int g0_remembered, .ref b0_tape, .int g0_taped, .int g0_point, .int g0_end, .int g0_begin, .int g0_deep, .int g0_faultAt, .ref b0_five, .int g0_steps, .ref a2, .ref a3, .int g0_men, .int g0_dogs, .ref a4, .ref b0_walk, .ref b0_ends, .ref b0_manX, .ref b0_manY, .ref b0_dogX, .ref b0_dogY, .ref b0_row, .ref b0_round, .ref b0_farOne, .ref b0_leads, .ref b0_drags, .ref b0_from, .ref b0_near])), (a1, .inl (cyI, 2508, .inl f1)), (a2, .inl (cyI, 400, .inl f2)), (a3, .inl (cyI, 900, .inl f3)), (a4, .inl (cyI, 900, .inl f4))]

abbrev rmX11_leastOf : Room := { frames := 6, cells := 0, slots := 0, locals := 166 }
def wpX11_leastOf (post : Int32 → (Int32 × Int32 × (Nat → Int32) × (Nat → Int32) × (Nat → Int32)) → Prop) (f1 : Nat → Int32) (g0_men : Int32) (g0_dogs : Int32) (f2 : Nat → Int32) (f3 : Nat → Int32) (f4 : Nat → Int32) (p0 : Int32) (p1 : Int32) : Prop :=
  wpX11_lays (fun (u1 : Int32 × Int32 × (Nat → Int32) × (Nat → Int32)) =>
   wpX11_leastLead (fun (r3 : Int32) (u2 : (Nat → Int32)) =>
    post r3 (u1.1, u1.2.1, u1.2.2.1, u1.2.2.2, u2)) u1.1 u1.2.1 u1.2.2.2 f4) f1 g0_men g0_dogs f2 f3 p0 p1
set_option maxRecDepth 100000 in
set_option maxHeartbeats 4000000 in
theorem ctX11_leastOf (l : Launch) (dC : Nat → ClassId) (dI : Nat → Nat → Nat) (cyI cyB cyJ cyZ : ClassId) (sz : Nat) (a0 a1 a2 a3 a4 b0_image b0_before b0_taken b0_tape b0_five b0_walk b0_ends b0_manX b0_manY b0_dogX b0_dogY b0_row b0_round b0_farOne b0_leads b0_drags b0_from b0_near : Nat) (g0_thrown : Int32) (g0_hasImage : Int32) (g0_remembered : Int32) (g0_taped : Int32) (g0_point : Int32) (g0_end : Int32) (g0_begin : Int32) (g0_deep : Int32) (g0_faultAt : Int32) (g0_steps : Int32) (f1 : Nat → Int32) (g0_men : Int32) (g0_dogs : Int32) (f2 : Nat → Int32) (f3 : Nat → Int32) (f4 : Nat → Int32) (p0 : Int32) (p1 : Int32) (post : Int32 → (Int32 × Int32 × (Nat → Int32) × (Nat → Int32) × (Nat → Int32)) → Prop) (hw : wpX11_leastOf post f1 g0_men g0_dogs f2 f3 f4 p0 p1) : Met l yX11_leastOf wsX11_leastOf rmX11_leastOf (va_Pc [.ref a0, .int p0, .int p1] (wPre dC dI cyI cyB cyJ cyZ sz (ceX11_leastOf cyI cyB cyJ cyZ a0 a1 a2 a3 a4 b0_image b0_before b0_taken b0_tape b0_five b0_walk b0_ends b0_manX b0_manY b0_dogX b0_dogY b0_row b0_round b0_farOne b0_leads b0_drags b0_from b0_near g0_thrown g0_hasImage g0_remembered g0_taped g0_point g0_end g0_begin g0_deep g0_faultAt g0_steps f1 g0_men g0_dogs f2 f3 f4))) (va_Qi post (fun u : Int32 × Int32 × (Nat → Int32) × (Nat → Int32) × (Nat → Int32) => wAt dC dI cyI cyB cyJ cyZ (va_A (ceX11_leastOf cyI cyB cyJ cyZ a0 a1 a2 a3 a4 b0_image b0_before b0_taken b0_tape b0_five b0_walk b0_ends b0_manX b0_manY b0_dogX b0_dogY b0_row b0_round b0_farOne b0_leads b0_drags b0_from b0_near g0_thrown g0_hasImage g0_remembered g0_taped g0_point g0_end g0_begin g0_deep g0_faultAt g0_steps f1 g0_men g0_dogs f2 f3 f4) sz) (ceX11_leastOf cyI cyB cyJ cyZ a0 a1 a2 a3 a4 b0_image b0_before b0_taken b0_tape b0_five b0_walk b0_ends b0_manX b0_manY b0_dogX b0_dogY b0_row b0_round b0_farOne b0_leads b0_drags b0_from b0_near g0_thrown g0_hasImage g0_remembered g0_taped g0_point g0_end g0_begin g0_deep g0_faultAt g0_steps f1 u.1 u.2.1 u.2.2.1 u.2.2.2.1 u.2.2.2.2)) (va_A (ceX11_leastOf cyI cyB cyJ cyZ a0 a1 a2 a3 a4 b0_image b0_before b0_taken b0_tape b0_five b0_walk b0_ends b0_manX b0_manY b0_dogX b0_dogY b0_row b0_round b0_farOne b0_leads b0_drags b0_from b0_near g0_thrown g0_hasImage g0_remembered g0_taped g0_point g0_end g0_begin g0_deep g0_faultAt g0_steps f1 g0_men g0_dogs f2 f3 f4) sz)) 0 0 (va_A (ceX11_leastOf cyI cyB cyJ cyZ a0 a1 a2 a3 a4 b0_image b0_before b0_taken b0_tape b0_five b0_walk b0_ends b0_manX b0_manY b0_dogX b0_dogY b0_row b0_round b0_farOne b0_leads b0_drags b0_from b0_near g0_thrown g0_hasImage g0_remembered g0_taped g0_point g0_end g0_begin g0_deep g0_faultAt g0_steps f1 g0_men g0_dogs f2 f3 f4) sz) := by
  refine Met.ofW (cc := cX11_leastOf) (maxL := 3) (ret := (some .int)) (by decide) rfl ?_
  intro p e s m args below meth c s₁ B hml hv
  obtain ⟨rfl, hsz, hP, hK, hD0, hN⟩ := hv
  have hx := B.exec
  have hb := B.bytes
  have hr := B.returns
  have hts := atoms_spec (ws := wsX11_leastOf) B.pre
  have hown : s.vm.findClass RX11 = some m.cls := findClass_of_methodNamed B.named
  have hlocks := B.notSynchronized
  subst hsz
  have hD := hD0.self (sz := s.heap.size)
  generalize hAe : va_A (ceX11_leastOf cyI cyB cyJ cyZ a0 a1 a2 a3 a4 b0_image b0_before b0_taken b0_tape b0_five b0_walk b0_ends b0_manX b0_manY b0_dogX b0_dogY b0_row b0_round b0_farOne b0_leads b0_drags b0_from b0_near g0_thrown g0_hasImage g0_remembered g0_taped g0_point g0_end g0_begin g0_deep g0_faultAt g0_steps f1 g0_men g0_dogs f2 f3 f4) s.heap.size = A at hD ⊢
  have hA : ∀ q : Nat, s.heap.size ≤ q → A q := fun q h => by rw [← hAe]; exact Or.inr h
  have hS : va_S A s.heap s.heap [] := va_S.rf
  have C0 : cxM p s m meth c _ wsX11_leastOf RX11 cX11_leastOf 3 (some .int) := ⟨hx, hb, hr, hml, hown, hts, hlocks⟩
  have hl := lv_entry ([.ref a0, .int p0, .int p1]) (n := 3) (Nat.le_of_ble_eq_true rfl)
  rw [lg_entry_eq]
  generalize (lg_sl ([.ref a0, .int p0, .int p1]) ++ List.replicate (3 - (lg_sl ([.ref a0, .int p0, .int p1])).length) Slot.unset).toArray = ls at hl ⊢
  have hl : lv_has ls 3 [(0, .ref a0), (1, .int p0), (2, .int p1)] := hl
  show W p l e rmX11_leastOf s m _ below meth c _ _ _ _ _ _
  refine wq (fun Q hQ => ?_)
  refine lv_aload_n hx hb dX11_leastOf_0 rfl (lv_at hl 0 rfl) ?_
  refine lv_iload_n hx hb dX11_leastOf_1 rfl (lv_at hl 1 rfl) ?_
  refine lv_iload_n hx hb dX11_leastOf_2 rfl (lv_at hl 2 rfl) ?_
  have hPc := hP.sub (ws' := (ceX11_lays cyI cyB cyJ cyZ a0 a1 a2 a3 b0_image b0_before b0_taken b0_tape b0_five a4 b0_walk b0_ends b0_manX b0_manY b0_dogX b0_dogY b0_row b0_round b0_farOne b0_leads b0_drags b0_from b0_near g0_thrown g0_hasImage g0_remembered g0_taped g0_point g0_end g0_begin g0_deep g0_faultAt g0_steps f1 g0_men g0_dogs f2 f3)) [0, 1, 2, 3] rfl
  have hDc := hD.sub (ws' := (ceX11_lays cyI cyB cyJ cyZ a0 a1 a2 a3 b0_image b0_before b0_taken b0_tape b0_five a4 b0_walk b0_ends b0_manX b0_manY b0_dogX b0_dogY b0_row b0_round b0_farOne b0_leads b0_drags b0_from b0_near g0_thrown g0_hasImage g0_remembered g0_taped g0_point g0_end g0_begin g0_deep g0_faultAt g0_steps f1 g0_men g0_dogs f2 f3)) [0, 1, 2, 3] (by decide) rfl
  have hFc := va_free (wc := (ceX11_lays cyI cyB cyJ cyZ a0 a1 a2 a3 b0_image b0_before b0_taken b0_tape b0_five a4 b0_walk b0_ends b0_manX b0_manY b0_dogX b0_dogY b0_row b0_round b0_farOne b0_leads b0_drags b0_from b0_near g0_thrown g0_hasImage g0_remembered g0_taped g0_point g0_end g0_begin g0_deep g0_faultAt g0_steps f1 g0_men g0_dogs f2 f3)) hD hS hA [0, 1, 2, 3] rfl
  refine va_callv (va_runV (As := [.int p0, .int p1]) (rest := []) ⟨hx, hb, hml, hown, hts⟩ (ctX11_lays l dC dI cyI cyB cyJ cyZ _ a0 a1 a2 a3 b0_image b0_before b0_taken b0_tape b0_five a4 b0_walk b0_ends b0_manX b0_manY b0_dogX b0_dogY b0_row b0_round b0_farOne b0_leads b0_drags b0_from b0_near g0_thrown g0_hasImage g0_remembered g0_taped g0_point g0_end g0_begin g0_deep g0_faultAt g0_steps f1 g0_men g0_dogs f2 f3 p0 p1 _ hw) (cwV 2 hts gX11_leastOf_X11_lays rfl rfl rfl (by decide +kernel) ⟨Nat.le_of_ble_eq_true rfl, Nat.le_of_ble_eq_true rfl⟩) ⟨wPre_blind, va_recv hK hPc (ci := 11) (q0 := 0) rfl rfl, fun U hU hW => wPre_of hPc hK hDc hN hU hW⟩ rfl rfl hl.1 rfl (lv_room (Nat.le_of_ble_eq_true rfl)) dX11_leastOf_3 ⟨(Nat.zero_le _), (Nat.zero_le _)⟩) hS (fun q _ h => hFc q h) hFc (fun u1 t H1 locs ht hvm hw hB hz1 hk1 hS => ?_)
  obtain ⟨hP1, hK1, hD1⟩ := hB
  rw [ht] at hP1
  obtain ⟨hP, hD⟩ := va_join (wr := pickW (ceX11_leastOf cyI cyB cyJ cyZ a0 a1 a2 a3 a4 b0_image b0_before b0_taken b0_tape b0_five b0_walk b0_ends b0_manX b0_manY b0_dogX b0_dogY b0_row b0_round b0_farOne b0_leads b0_drags b0_from b0_near g0_thrown g0_hasImage g0_remembered g0_taped g0_point g0_end g0_begin g0_deep g0_faultAt g0_steps f1 g0_men g0_dogs f2 f3 f4) [4]) (w1 := (ceX11_lays cyI cyB cyJ cyZ a0 a1 a2 a3 b0_image b0_before b0_taken b0_tape b0_five a4 b0_walk b0_ends b0_manX b0_manY b0_dogX b0_dogY b0_row b0_round b0_farOne b0_leads b0_drags b0_from b0_near g0_thrown g0_hasImage g0_remembered g0_taped g0_point g0_end g0_begin g0_deep g0_faultAt g0_steps f1 u1.1 u1.2.1 u1.2.2.1 u1.2.2.2)) hP hD [0, 1, 2, 3] [4] rfl rfl (by decide) (by decide) hk1 hFc hP1 hD1
  have hP := hP.sub (ws' := (ceX11_leastOf cyI cyB cyJ cyZ a0 a1 a2 a3 a4 b0_image b0_before b0_taken b0_tape b0_five b0_walk b0_ends b0_manX b0_manY b0_dogX b0_dogY b0_row b0_round b0_farOne b0_leads b0_drags b0_from b0_near g0_thrown g0_hasImage g0_remembered g0_taped g0_point g0_end g0_begin g0_deep g0_faultAt g0_steps f1 u1.1 u1.2.1 u1.2.2.1 u1.2.2.2 f4)) [1, 2, 3, 4, 0] rfl
  have hD := hD.sub (ws' := (ceX11_leastOf cyI cyB cyJ cyZ a0 a1 a2 a3 a4 b0_image b0_before b0_taken b0_tape b0_five b0_walk b0_ends b0_manX b0_manY b0_dogX b0_dogY b0_row b0_round b0_farOne b0_leads b0_drags b0_from b0_near g0_thrown g0_hasImage g0_remembered g0_taped g0_point g0_end g0_begin g0_deep g0_faultAt g0_steps f1 u1.1 u1.2.1 u1.2.2.1 u1.2.2.2 f4)) [1, 2, 3, 4, 0] (by decide) rfl
  generalize H1 = H at hP hS ⊢
  refine lv_aload_n hx hb dX11_leastOf_6 rfl (lv_at hl 0 rfl) ?_
  have hPc := hP.sub (ws' := (ceX11_leastLead cyI cyB cyJ cyZ a0 a3 a4 a1 b0_image b0_before b0_taken b0_tape b0_five a2 b0_walk b0_ends b0_manX b0_manY b0_dogX b0_dogY b0_row b0_round b0_farOne b0_leads b0_drags b0_from b0_near g0_thrown g0_hasImage g0_remembered g0_taped g0_point g0_end g0_begin g0_deep g0_faultAt g0_steps u1.1 u1.2.1 u1.2.2.2 f4)) [0, 3, 4] rfl
  have hDc := hD.sub (ws' := (ceX11_leastLead cyI cyB cyJ cyZ a0 a3 a4 a1 b0_image b0_before b0_taken b0_tape b0_five a2 b0_walk b0_ends b0_manX b0_manY b0_dogX b0_dogY b0_row b0_round b0_farOne b0_leads b0_drags b0_from b0_near g0_thrown g0_hasImage g0_remembered g0_taped g0_point g0_end g0_begin g0_deep g0_faultAt g0_steps u1.1 u1.2.1 u1.2.2.2 f4)) [0, 3, 4] (by decide) rfl
  have hFc := va_free (wc := (ceX11_leastLead cyI cyB cyJ cyZ a0 a3 a4 a1 b0_image b0_before b0_taken b0_tape b0_five a2 b0_walk b0_ends b0_manX b0_manY b0_dogX b0_dogY b0_row b0_round b0_farOne b0_leads b0_drags b0_from b0_near g0_thrown g0_hasImage g0_remembered g0_taped g0_point g0_end g0_begin g0_deep g0_faultAt g0_steps u1.1 u1.2.1 u1.2.2.2 f4)) hD hS hA [0, 3, 4] rfl
  refine va_calli (va_runV (As := []) (rest := []) ⟨hx, hb, hml, hown, hts⟩ (ctX11_leastLead l dC dI cyI cyB cyJ cyZ _ a0 a3 a4 a1 b0_image b0_before b0_taken b0_tape b0_five a2 b0_walk b0_ends b0_manX b0_manY b0_dogX b0_dogY b0_row b0_round b0_farOne b0_leads b0_drags b0_from b0_near g0_thrown g0_hasImage g0_remembered g0_taped g0_point g0_end g0_begin g0_deep g0_faultAt g0_steps u1.1 u1.2.1 u1.2.2.2 f4 _ hw) (cwV 0 hts gX11_leastOf_X11_leastLead rfl rfl rfl (by decide +kernel) ⟨Nat.le_of_ble_eq_true rfl, Nat.le_of_ble_eq_true rfl⟩) ⟨wPre_blind, va_recv hK hPc (ci := 11) (q0 := 0) rfl rfl, fun U hU hW => wPre_of hPc hK hDc hN hU hW⟩ rfl rfl hl.1 rfl (lv_room (Nat.le_of_ble_eq_true rfl)) dX11_leastOf_7 ⟨(Nat.zero_le _), (Nat.zero_le _)⟩) hS (fun q _ h => hFc q h) hFc (fun r3 u2 t H1 locs ht hvm hw hB hz1 hk1 hS => ?_)
  obtain ⟨hP1, hK1, hD1⟩ := hB
  rw [ht] at hP1
  obtain ⟨hP, hD⟩ := va_join (wr := pickW (ceX11_leastOf cyI cyB cyJ cyZ a0 a1 a2 a3 a4 b0_image b0_before b0_taken b0_tape b0_five b0_walk b0_ends b0_manX b0_manY b0_dogX b0_dogY b0_row b0_round b0_farOne b0_leads b0_drags b0_from b0_near g0_thrown g0_hasImage g0_remembered g0_taped g0_point g0_end g0_begin g0_deep g0_faultAt g0_steps f1 u1.1 u1.2.1 u1.2.2.1 u1.2.2.2 f4) [1, 2]) (w1 := (ceX11_leastLead cyI cyB cyJ cyZ a0 a3 a4 a1 b0_image b0_before b0_taken b0_tape b0_five a2 b0_walk b0_ends b0_manX b0_manY b0_dogX b0_dogY b0_row b0_round b0_farOne b0_leads b0_drags b0_from b0_near g0_thrown g0_hasImage g0_remembered g0_taped g0_point g0_end g0_begin g0_deep g0_faultAt g0_steps u1.1 u1.2.1 u1.2.2.2 u2)) hP hD [0, 3, 4] [1, 2] rfl rfl (by decide) (by decide) hk1 hFc hP1 hD1
  have hP := hP.sub (ws' := (ceX11_leastOf cyI cyB cyJ cyZ a0 a1 a2 a3 a4 b0_image b0_before b0_taken b0_tape b0_five b0_walk b0_ends b0_manX b0_manY b0_dogX b0_dogY b0_row b0_round b0_farOne b0_leads b0_drags b0_from b0_near g0_thrown g0_hasImage g0_remembered g0_taped g0_point g0_end g0_begin g0_deep g0_faultAt g0_steps f1 u1.1 u1.2.1 u1.2.2.1 u1.2.2.2 u2)) [2, 0, 1, 3, 4] rfl
  have hD := hD.sub (ws' := (ceX11_leastOf cyI cyB cyJ cyZ a0 a1 a2 a3 a4 b0_image b0_before b0_taken b0_tape b0_five b0_walk b0_ends b0_manX b0_manY b0_dogX b0_dogY b0_row b0_round b0_farOne b0_leads b0_drags b0_from b0_near g0_thrown g0_hasImage g0_remembered g0_taped g0_point g0_end g0_begin g0_deep g0_faultAt g0_steps f1 u1.1 u1.2.1 u1.2.2.1 u1.2.2.2 u2)) [2, 0, 1, 3, 4] (by decide) rfl
  generalize H1 = H at hP hS ⊢
  rw [hQ]
  exact W.iret (v := r3) hx hb hr (fun t ht hW => ⟨⟨r3, (u1.1, u1.2.1, u1.2.2.1, u1.2.2.2, u2), rfl, hw, by rw [ht]; exact hP, va_K.moved hW.alike hK, hD⟩, hS.F ht⟩) hS.2.2 dX11_leastOf_10
/-! LeadParkModel.orNone (I)I -/

abbrev rmX11_orNone : Room := { frames := 0, cells := 0, slots := 0, locals := 0 }
def wpX11_orNone (post : Int32 → Unit → Prop) (p0 : Int32) : Prop :=
  (¬ p0 = 2000000000 →
   post p0 ()) ∧
  (p0 = 2000000000 →
   post (-1) ())
set_option maxRecDepth 100000 in
set_option maxHeartbeats 4000000 in
theorem ctX11_orNone (l : Launch) (dC : Nat → ClassId) (dI : Nat → Nat → Nat) (cyI cyB cyJ cyZ : ClassId) (sz : Nat) (p0 : Int32) (post : Int32 → Unit → Prop) (hw : wpX11_orNone post p0) : Met l yX11_orNone wsX11_orNone rmX11_orNone (va_Pc [.int p0] (wPre dC dI cyI cyB cyJ cyZ sz ([] : va_W))) (va_Qi post (fun u : Unit => wAt dC dI cyI cyB cyJ cyZ (va_A ([] : va_W) sz) ([] : va_W)) (va_A ([] : va_W) sz)) 0 0 (va_A ([] : va_W) sz) := by
  refine Met.ofW (cc := cX11_orNone) (maxL := 1) (ret := (some .int)) (by decide) rfl ?_
  intro p e s m args below meth c s₁ B hml hv
  obtain ⟨rfl, hsz, hP, hK, hD0, hN⟩ := hv
  have hx := B.exec
  have hb := B.bytes
  have hr := B.returns
  have hts := atoms_spec (ws := wsX11_orNone) B.pre
  have hown : s.vm.findClass RX11 = some m.cls := findClass_of_methodNamed B.named
  have hlocks := B.notSynchronized
  subst hsz
  have hD := hD0.self (sz := s.heap.size)
  generalize hAe : va_A ([] : va_W) s.heap.size = A at hD ⊢
  have hA : ∀ q : Nat, s.heap.size ≤ q → A q := fun q h => by rw [← hAe]; exact Or.inr h
  have hS : va_S A s.heap s.heap [] := va_S.rf
  have C0 : cxM p s m meth c _ wsX11_orNone RX11 cX11_orNone 1 (some .int) := ⟨hx, hb, hr, hml, hown, hts, hlocks⟩
  have hl := lv_entry ([.int p0]) (n := 1) (Nat.le_of_ble_eq_true rfl)
  rw [lg_entry_eq]
  generalize (lg_sl ([.int p0]) ++ List.replicate (1 - (lg_sl ([.int p0])).length) Slot.unset).toArray = ls at hl ⊢
  have hl : lv_has ls 1 [(0, .int p0)] := hl
  show W p l e rmX11_orNone s m _ below meth c _ _ _ _ _ _
  refine wq (fun Q hQ => ?_)
  refine lv_iload_n hx hb dX11_orNone_0 rfl (lv_at hl 0 rfl) ?_
  refine lv_ldcw (v := 2000000000) hx hb hown (hts (.constant RX11 306 (2000000000)) (List.mem_of_getElem? (i := 1) rfl)) dX11_orNone_1 ?_
  refine lv_icmp_ne (tgt := 11) hx hb dX11_orNone_4 (by decide) (fun hc => ?_) (fun hc => ?_)
  · have hw := hw.1 hc
    refine lv_iload_n hx hb dX11_orNone_11 rfl (lv_at hl 0 rfl) ?_
    rw [hQ]
    exact W.iret (v := p0) hx hb hr (fun t ht hW => ⟨⟨p0, (), rfl, hw, by rw [ht]; exact hP, va_K.moved hW.alike hK, hD⟩, hS.F ht⟩) hS.2.2 dX11_orNone_12
  · have hw := hw.2 hc
    refine lv_iconst (v := (-1)) hx hb dX11_orNone_7 (by decide) ?_
    refine lv_goto (tgt := 12) hx hb dX11_orNone_8 (by decide) ?_
    rw [hQ]
    exact W.iret (v := (-1)) hx hb hr (fun t ht hW => ⟨⟨(-1), (), rfl, hw, by rw [ht]; exact hP, va_K.moved hW.alike hK, hD⟩, hS.F ht⟩) hS.2.2 dX11_orNone_12
