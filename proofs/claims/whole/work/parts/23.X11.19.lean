/-! LeadParkModel.ownOf (I)I -/
abbrev ceX11_ownOf (cyI cyB cyJ cyZ : ClassId) (a0 a1 a2 a3 a4 b0_image b0_before b0_taken b0_tape b0_five b0_walk b0_ends b0_manX b0_manY b0_dogX b0_dogY b0_row b0_round b0_farOne b0_leads b0_drags b0_from b0_near : Nat) (g0_thrown : Int32) (g0_hasImage : Int32) (g0_remembered : Int32) (g0_taped : Int32) (g0_point : Int32) (g0_end : Int32) (g0_begin : Int32) (g0_deep : Int32) (g0_faultAt : Int32) (g0_steps : Int32) (f1 : Nat → Int32) (g0_men : Int32) (g0_dogs : Int32) (f2 : Nat → Int32) (f3 : Nat → Int32) (f4 : Nat → Int32) : va_W := [(a0, .inr (11, [.int g0_thrown, .ref a1, .ref b0_image, .ref b0_before, .int g0_hasImage, .ref b0_taken, .int g0_remembered, .ref b0_tape, .int g0_taped, .int g0_point, .int g0_end, .int g0_begin, .int g0_deep, .int g0_faultAt, .ref b0_five, .int g0_steps, .ref a2, .ref a3, .int g0_men, .int g0_dogs, .ref a4, .ref b0_walk, .ref b0_ends, .ref b0_manX, .ref b0_manY, .ref b0_dogX, .ref b0_dogY, .ref b0_row, .ref b0_round, .ref b0_farOne, .ref b0_leads, .ref b0_drags, .ref b0_from, .ref b0_near])), (a1, .inl (cyI, 2508, .inl f1)), (a2, .inl (cyI, 400, .inl f2)), (a3, .inl (cyI, 900, .inl f3)), (a4, .inl (cyI, 900, .inl f4))]

abbrev rmX11_ownOf : Room := { frames := 7, cells := 0, slots := 0, locals := 188 }
set_option maxRecDepth 100000 in
set_option maxHeartbeats 4000000 in
theorem bX11_ownOf_55 {p : Program} {l : Launch} {e : Env} {s : State} {m : MethodId} {args : Array Value} {below : List Frame} {meth : Method} {c : Code} {dC : Nat → ClassId} {dI : Nat → Nat → Nat} {cyI cyB cyJ cyZ : ClassId} {A : Nat → Prop} {a0 a1 a2 a3 a4 b0_image b0_before b0_taken b0_tape b0_five b0_walk b0_ends b0_manX b0_manY b0_dogX b0_dogY b0_row b0_round b0_farOne b0_leads b0_drags b0_from b0_near : Nat} {g0_thrown : Int32} {g0_hasImage : Int32} {g0_remembered : Int32} {g0_taped : Int32} {g0_point : Int32} {g0_end : Int32} {g0_begin : Int32} {g0_deep : Int32} {g0_faultAt : Int32} {g0_steps : Int32} (C0 : cxM p s m meth c args wsX11_ownOf RX11 cX11_ownOf 5 (some .int)) (hK : va_K (dC, dI) vwCl (tyA cyI cyB cyJ cyZ) s) (hN : nwA s) (hA : ∀ q : Nat, s.heap.size ≤ q → A q) {post : Int32 → (Int32 × Int32 × (Nat → Int32) × (Nat → Int32) × (Nat → Int32)) → Prop} {f1 : Nat → Int32} {k17 : Int32 → Int32 → (Nat → Int32) → (Nat → Int32) → (Nat → Int32) → Int32 → Int32 → Int32 → Int32 → Prop} {k4 : Int32 → Int32 → (Nat → Int32) → (Nat → Int32) → (Nat → Int32) → Int32 → Int32 → Int32 → Prop} {Q : State → Prop} (hQ : Q = MQ below (va_Qi post (fun u : Int32 × Int32 × (Nat → Int32) × (Nat → Int32) × (Nat → Int32) => wAt dC dI cyI cyB cyJ cyZ A (ceX11_ownOf cyI cyB cyJ cyZ a0 a1 a2 a3 a4 b0_image b0_before b0_taken b0_tape b0_five b0_walk b0_ends b0_manX b0_manY b0_dogX b0_dogY b0_row b0_round b0_farOne b0_leads b0_drags b0_from b0_near g0_thrown g0_hasImage g0_remembered g0_taped g0_point g0_end g0_begin g0_deep g0_faultAt g0_steps f1 u.1 u.2.1 u.2.2.1 u.2.2.2.1 u.2.2.2.2)) A) args s 0 0 A) (hk17 : ∀ (g0_men : Int32) (g0_dogs : Int32) (f2 : Nat → Int32) (f3 : Nat → Int32) (f4 : Nat → Int32) (x1 : Int32) (x2 : Int32) (x3 : Int32) (x4 : Int32), k17 g0_men g0_dogs f2 f3 f4 x1 x2 x3 x4 → AtW p l e rmX11_ownOf s m args below meth c dC dI A Q 5 0 0 (ceX11_ownOf cyI cyB cyJ cyZ a0 a1 a2 a3 a4 b0_image b0_before b0_taken b0_tape b0_five b0_walk b0_ends b0_manX b0_manY b0_dogX b0_dogY b0_row b0_round b0_farOne b0_leads b0_drags b0_from b0_near g0_thrown g0_hasImage g0_remembered g0_taped g0_point g0_end g0_begin g0_deep g0_faultAt g0_steps f1 g0_men g0_dogs f2 f3 f4) [(0, .ref a0), (1, .int x1), (2, .int x2), (3, .int x3), (4, .int x4)] 17 []) (hk4 : ∀ (g0_men : Int32) (g0_dogs : Int32) (f2 : Nat → Int32) (f3 : Nat → Int32) (f4 : Nat → Int32) (x1 : Int32) (x2 : Int32) (x3 : Int32), k4 g0_men g0_dogs f2 f3 f4 x1 x2 x3 → AtW p l e rmX11_ownOf s m args below meth c dC dI A Q 5 0 0 (ceX11_ownOf cyI cyB cyJ cyZ a0 a1 a2 a3 a4 b0_image b0_before b0_taken b0_tape b0_five b0_walk b0_ends b0_manX b0_manY b0_dogX b0_dogY b0_row b0_round b0_farOne b0_leads b0_drags b0_from b0_near g0_thrown g0_hasImage g0_remembered g0_taped g0_point g0_end g0_begin g0_deep g0_faultAt g0_steps f1 g0_men g0_dogs f2 f3 f4) [(0, .ref a0), (1, .int x1), (2, .int x2), (3, .int x3)] 4 []) : ∀ (g0_men : Int32) (g0_dogs : Int32) (f2 : Nat → Int32) (f3 : Nat → Int32) (f4 : Nat → Int32) (x1 : Int32) (x2 : Int32) (x3 : Int32) (x4 : Int32), wpX11_ownOf_55 k17 k4 post f1 g0_men g0_dogs f2 f3 f4 x1 x2 x3 x4 → AtW p l e rmX11_ownOf s m args below meth c dC dI A Q 5 0 0 (ceX11_ownOf cyI cyB cyJ cyZ a0 a1 a2 a3 a4 b0_image b0_before b0_taken b0_tape b0_five b0_walk b0_ends b0_manX b0_manY b0_dogX b0_dogY b0_row b0_round b0_farOne b0_leads b0_drags b0_from b0_near g0_thrown g0_hasImage g0_remembered g0_taped g0_point g0_end g0_begin g0_deep g0_faultAt g0_steps f1 g0_men g0_dogs f2 f3 f4) [(0, .ref a0), (1, .int x1), (2, .int x2), (3, .int x3), (4, .int x4)] 55 [] := by
  intro g0_men g0_dogs f2 f3 f4 x1 x2 x3 x4 hw H locs hP hD hS ls hl
  have C1 := C0
  obtain ⟨hx, hb, hr, hml, hown, hts, hlocks⟩ := C1
  obtain ⟨v1, ev1⟩ : ∃ y : Int32, y = x4 + 1 := ⟨_, rfl⟩
  have hw := hw v1 ev1
  refine lv_iinc (v := v1) (lv' := [(4, .int v1), (0, .ref a0), (1, .int x1), (2, .int x2), (3, .int x3)]) hx hb dX11_ownOf_55 hl (k := 4) rfl (by rw [ev1]; rfl) (by decide) rfl (fun ls hl => ?_)
  refine lv_goto (tgt := 17) hx hb dX11_ownOf_58 (by decide) ?_
  exact hk17 g0_men g0_dogs f2 f3 f4 x1 x2 x3 v1 hw H locs hP hD hS ls (lv_sub hl [1, 2, 3, 4, 0] rfl)
set_option maxRecDepth 100000 in
set_option maxHeartbeats 4000000 in
theorem bX11_ownOf_17 {p : Program} {l : Launch} {e : Env} {s : State} {m : MethodId} {args : Array Value} {below : List Frame} {meth : Method} {c : Code} {dC : Nat → ClassId} {dI : Nat → Nat → Nat} {cyI cyB cyJ cyZ : ClassId} {A : Nat → Prop} {a0 a1 a2 a3 a4 b0_image b0_before b0_taken b0_tape b0_five b0_walk b0_ends b0_manX b0_manY b0_dogX b0_dogY b0_row b0_round b0_farOne b0_leads b0_drags b0_from b0_near : Nat} {g0_thrown : Int32} {g0_hasImage : Int32} {g0_remembered : Int32} {g0_taped : Int32} {g0_point : Int32} {g0_end : Int32} {g0_begin : Int32} {g0_deep : Int32} {g0_faultAt : Int32} {g0_steps : Int32} (C0 : cxM p s m meth c args wsX11_ownOf RX11 cX11_ownOf 5 (some .int)) (hK : va_K (dC, dI) vwCl (tyA cyI cyB cyJ cyZ) s) (hN : nwA s) (hA : ∀ q : Nat, s.heap.size ≤ q → A q) {post : Int32 → (Int32 × Int32 × (Nat → Int32) × (Nat → Int32) × (Nat → Int32)) → Prop} {f1 : Nat → Int32} {k4 : Int32 → Int32 → (Nat → Int32) → (Nat → Int32) → (Nat → Int32) → Int32 → Int32 → Int32 → Prop} {Q : State → Prop} (hQ : Q = MQ below (va_Qi post (fun u : Int32 × Int32 × (Nat → Int32) × (Nat → Int32) × (Nat → Int32) => wAt dC dI cyI cyB cyJ cyZ A (ceX11_ownOf cyI cyB cyJ cyZ a0 a1 a2 a3 a4 b0_image b0_before b0_taken b0_tape b0_five b0_walk b0_ends b0_manX b0_manY b0_dogX b0_dogY b0_row b0_round b0_farOne b0_leads b0_drags b0_from b0_near g0_thrown g0_hasImage g0_remembered g0_taped g0_point g0_end g0_begin g0_deep g0_faultAt g0_steps f1 u.1 u.2.1 u.2.2.1 u.2.2.2.1 u.2.2.2.2)) A) args s 0 0 A) (hk4 : ∀ (g0_men : Int32) (g0_dogs : Int32) (f2 : Nat → Int32) (f3 : Nat → Int32) (f4 : Nat → Int32) (x1 : Int32) (x2 : Int32) (x3 : Int32), k4 g0_men g0_dogs f2 f3 f4 x1 x2 x3 → AtW p l e rmX11_ownOf s m args below meth c dC dI A Q 5 0 0 (ceX11_ownOf cyI cyB cyJ cyZ a0 a1 a2 a3 a4 b0_image b0_before b0_taken b0_tape b0_five b0_walk b0_ends b0_manX b0_manY b0_dogX b0_dogY b0_row b0_round b0_farOne b0_leads b0_drags b0_from b0_near g0_thrown g0_hasImage g0_remembered g0_taped g0_point g0_end g0_begin g0_deep g0_faultAt g0_steps f1 g0_men g0_dogs f2 f3 f4) [(0, .ref a0), (1, .int x1), (2, .int x2), (3, .int x3)] 4 []) : ∀ (n : Nat) (g0_men : Int32) (g0_dogs : Int32) (f2 : Nat → Int32) (f3 : Nat → Int32) (f4 : Nat → Int32) (x1 : Int32) (x2 : Int32) (x3 : Int32) (x4 : Int32), wpX11_ownOf_17 k4 post f1 n g0_men g0_dogs f2 f3 f4 x1 x2 x3 x4 → AtW p l e rmX11_ownOf s m args below meth c dC dI A Q 5 0 0 (ceX11_ownOf cyI cyB cyJ cyZ a0 a1 a2 a3 a4 b0_image b0_before b0_taken b0_tape b0_five b0_walk b0_ends b0_manX b0_manY b0_dogX b0_dogY b0_row b0_round b0_farOne b0_leads b0_drags b0_from b0_near g0_thrown g0_hasImage g0_remembered g0_taped g0_point g0_end g0_begin g0_deep g0_faultAt g0_steps f1 g0_men g0_dogs f2 f3 f4) [(0, .ref a0), (1, .int x1), (2, .int x2), (3, .int x3), (4, .int x4)] 17 [] := by
  intro n
  induction n with
  | zero => intro g0_men g0_dogs f2 f3 f4 x1 x2 x3 x4 hw; exact False.elim hw
  | succ n ih =>
    intro g0_men g0_dogs f2 f3 f4 x1 x2 x3 x4 hw H locs hP hD hS ls hl
    have C1 := C0
    obtain ⟨hx, hb, hr, hml, hown, hts, hlocks⟩ := C1
    refine lv_iload hx hb dX11_ownOf_17 (lv_at hl 4 rfl) ?_
    refine lv_aload_n hx hb dX11_ownOf_19 rfl (lv_at hl 0 rfl) ?_
    have hPc := hP.sub (ws' := (ceX11_ways cyI cyB cyJ cyZ a0 a1 b0_image b0_before b0_taken b0_tape b0_five a2 a3 a4 b0_walk b0_ends b0_manX b0_manY b0_dogX b0_dogY b0_row b0_round b0_farOne b0_leads b0_drags b0_from b0_near g0_thrown g0_hasImage g0_remembered g0_taped g0_point g0_end g0_begin g0_deep g0_faultAt g0_steps g0_men g0_dogs f1)) [0, 1] rfl
    have hDc := hD.sub (ws' := (ceX11_ways cyI cyB cyJ cyZ a0 a1 b0_image b0_before b0_taken b0_tape b0_five a2 a3 a4 b0_walk b0_ends b0_manX b0_manY b0_dogX b0_dogY b0_row b0_round b0_farOne b0_leads b0_drags b0_from b0_near g0_thrown g0_hasImage g0_remembered g0_taped g0_point g0_end g0_begin g0_deep g0_faultAt g0_steps g0_men g0_dogs f1)) [0, 1] (by decide) rfl
    have hFc := va_free (wc := (ceX11_ways cyI cyB cyJ cyZ a0 a1 b0_image b0_before b0_taken b0_tape b0_five a2 a3 a4 b0_walk b0_ends b0_manX b0_manY b0_dogX b0_dogY b0_row b0_round b0_farOne b0_leads b0_drags b0_from b0_near g0_thrown g0_hasImage g0_remembered g0_taped g0_point g0_end g0_begin g0_deep g0_faultAt g0_steps g0_men g0_dogs f1)) hD hS hA [0, 1] rfl
    refine va_calli (va_runV (As := []) (rest := [.int x4]) ⟨hx, hb, hml, hown, hts⟩ (ctX11_ways l dC dI cyI cyB cyJ cyZ _ a0 a1 b0_image b0_before b0_taken b0_tape b0_five a2 a3 a4 b0_walk b0_ends b0_manX b0_manY b0_dogX b0_dogY b0_row b0_round b0_farOne b0_leads b0_drags b0_from b0_near g0_thrown g0_hasImage g0_remembered g0_taped g0_point g0_end g0_begin g0_deep g0_faultAt g0_steps g0_men g0_dogs f1 _ hw) (cwV 0 hts gX11_ownOf_X11_ways rfl rfl rfl (by decide +kernel) ⟨Nat.le_of_ble_eq_true rfl, Nat.le_of_ble_eq_true rfl⟩) ⟨wPre_blind, va_recv hK hPc (ci := 11) (q0 := 0) rfl rfl, fun U hU hW => wPre_of hPc hK hDc hN hU hW⟩ rfl rfl hl.1 rfl (lv_room (Nat.le_of_ble_eq_true rfl)) dX11_ownOf_20 ⟨(Nat.zero_le _), (Nat.zero_le _)⟩) hS (fun q _ h => hFc q h) hFc (fun r2 u1 t H1 locs ht hvm hw hB hz1 hk1 hS => ?_)
    obtain ⟨hP1, hK1, hD1⟩ := hB
    rw [ht] at hP1
    obtain ⟨hP, hD⟩ := va_join (wr := pickW (ceX11_ownOf cyI cyB cyJ cyZ a0 a1 a2 a3 a4 b0_image b0_before b0_taken b0_tape b0_five b0_walk b0_ends b0_manX b0_manY b0_dogX b0_dogY b0_row b0_round b0_farOne b0_leads b0_drags b0_from b0_near g0_thrown g0_hasImage g0_remembered g0_taped g0_point g0_end g0_begin g0_deep g0_faultAt g0_steps f1 g0_men g0_dogs f2 f3 f4) [2, 3, 4]) (w1 := (ceX11_ways cyI cyB cyJ cyZ a0 a1 b0_image b0_before b0_taken b0_tape b0_five a2 a3 a4 b0_walk b0_ends b0_manX b0_manY b0_dogX b0_dogY b0_row b0_round b0_farOne b0_leads b0_drags b0_from b0_near g0_thrown g0_hasImage g0_remembered g0_taped g0_point g0_end g0_begin g0_deep g0_faultAt g0_steps g0_men g0_dogs f1)) hP hD [0, 1] [2, 3, 4] rfl rfl (by decide) (by decide) hk1 hFc hP1 hD1
    have hP := hP.sub (ws' := (ceX11_ownOf cyI cyB cyJ cyZ a0 a1 a2 a3 a4 b0_image b0_before b0_taken b0_tape b0_five b0_walk b0_ends b0_manX b0_manY b0_dogX b0_dogY b0_row b0_round b0_farOne b0_leads b0_drags b0_from b0_near g0_thrown g0_hasImage g0_remembered g0_taped g0_point g0_end g0_begin g0_deep g0_faultAt g0_steps f1 g0_men g0_dogs f2 f3 f4)) [3, 4, 0, 1, 2] rfl
    have hD := hD.sub (ws' := (ceX11_ownOf cyI cyB cyJ cyZ a0 a1 a2 a3 a4 b0_image b0_before b0_taken b0_tape b0_five b0_walk b0_ends b0_manX b0_manY b0_dogX b0_dogY b0_row b0_round b0_farOne b0_leads b0_drags b0_from b0_near g0_thrown g0_hasImage g0_remembered g0_taped g0_point g0_end g0_begin g0_deep g0_faultAt g0_steps f1 g0_men g0_dogs f2 f3 f4)) [3, 4, 0, 1, 2] (by decide) rfl
    generalize H1 = H at hP hS ⊢
    refine lv_icmp_ge (tgt := 61) hx hb dX11_ownOf_23 (by decide) (fun hc => ?_) (fun hc => ?_)
    · have hw := hw.1 hc
      obtain ⟨v3, ev3⟩ : ∃ y : Int32, y = x3 + 1 := ⟨_, rfl⟩
      have hw := hw v3 ev3
      refine lv_iinc (v := v3) (lv' := [(3, .int v3), (0, .ref a0), (1, .int x1), (2, .int x2), (4, .int x4)]) hx hb dX11_ownOf_61 hl (k := 3) rfl (by rw [ev3]; rfl) (by decide) rfl (fun ls hl => ?_)
      refine lv_goto (tgt := 4) hx hb dX11_ownOf_64 (by decide) ?_
      exact hk4 g0_men g0_dogs f2 f3 f4 x1 x2 v3 hw H locs hP hD hS ls (lv_sub hl [1, 2, 3, 0] rfl)
    · have hw := hw.2 hc
      refine lv_iload_n hx hb dX11_ownOf_26 rfl (lv_at hl 1 rfl) ?_
      refine lv_iload_n hx hb dX11_ownOf_27 rfl (lv_at hl 3 rfl) ?_
      have hPc := hP.sub (ws' := ([] : va_W)) [] rfl
      have hDc := hD.sub (ws' := ([] : va_W)) [] (by decide) rfl
      have hFc := va_free (wc := ([] : va_W)) hD hS hA [] rfl
      refine va_calli (va_runS (As := [.int x1, .int x3]) (rest := []) ⟨hx, hb, hml, hown, hts⟩ (ctX11_has l dC dI cyI cyB cyJ cyZ _ x1 x3 _ hw) (va_cwS 2 hts gX11_ownOf_X11_has rfl rfl rfl (by decide +kernel) ⟨Nat.le_of_ble_eq_true rfl, Nat.le_of_ble_eq_true rfl⟩) ⟨wPre_blind, fun U hU hW => wPre_of hPc hK hDc hN hU hW⟩ rfl rfl hl.1 rfl (lv_room (Nat.le_of_ble_eq_true rfl)) dX11_ownOf_28 ⟨(Nat.zero_le _), (Nat.zero_le _)⟩) hS (fun q _ h => hFc q h) hFc (fun r5 u4 t H1 locs ht hvm hw hB hz1 hk1 hS => ?_)
      obtain ⟨hP1, hK1, hD1⟩ := hB
      rw [ht] at hP1
      obtain ⟨hP, hD⟩ := va_join (wr := pickW (ceX11_ownOf cyI cyB cyJ cyZ a0 a1 a2 a3 a4 b0_image b0_before b0_taken b0_tape b0_five b0_walk b0_ends b0_manX b0_manY b0_dogX b0_dogY b0_row b0_round b0_farOne b0_leads b0_drags b0_from b0_near g0_thrown g0_hasImage g0_remembered g0_taped g0_point g0_end g0_begin g0_deep g0_faultAt g0_steps f1 g0_men g0_dogs f2 f3 f4) [0, 1, 2, 3, 4]) (w1 := ([] : va_W)) hP hD [] [0, 1, 2, 3, 4] rfl rfl (by decide) (by decide) hk1 hFc hP1 hD1
      have hP := hP.sub (ws' := (ceX11_ownOf cyI cyB cyJ cyZ a0 a1 a2 a3 a4 b0_image b0_before b0_taken b0_tape b0_five b0_walk b0_ends b0_manX b0_manY b0_dogX b0_dogY b0_row b0_round b0_farOne b0_leads b0_drags b0_from b0_near g0_thrown g0_hasImage g0_remembered g0_taped g0_point g0_end g0_begin g0_deep g0_faultAt g0_steps f1 g0_men g0_dogs f2 f3 f4)) [0, 1, 2, 3, 4] rfl
      have hD := hD.sub (ws' := (ceX11_ownOf cyI cyB cyJ cyZ a0 a1 a2 a3 a4 b0_image b0_before b0_taken b0_tape b0_five b0_walk b0_ends b0_manX b0_manY b0_dogX b0_dogY b0_row b0_round b0_farOne b0_leads b0_drags b0_from b0_near g0_thrown g0_hasImage g0_remembered g0_taped g0_point g0_end g0_begin g0_deep g0_faultAt g0_steps f1 g0_men g0_dogs f2 f3 f4)) [0, 1, 2, 3, 4] (by decide) rfl
      generalize H1 = H at hP hS ⊢
      refine lv_if_eq (tgt := 55) hx hb dX11_ownOf_31 (by decide) (fun hc => ?_) (fun hc => ?_)
      · have hw := hw.1 hc
        exact bX11_ownOf_55 C0 hK hN hA hQ ih hk4 g0_men g0_dogs f2 f3 f4 x1 x2 x3 x4 hw _ _ hP hD hS ls (lv_sub hl [0, 1, 2, 3, 4] rfl)
      · have hw := hw.2 hc
        refine lv_iload_n hx hb dX11_ownOf_34 rfl (lv_at hl 1 rfl) ?_
        refine lv_iload hx hb dX11_ownOf_35 (lv_at hl 4 rfl) ?_
        have hPc := hP.sub (ws' := ([] : va_W)) [] rfl
        have hDc := hD.sub (ws' := ([] : va_W)) [] (by decide) rfl
        have hFc := va_free (wc := ([] : va_W)) hD hS hA [] rfl
        refine va_calli (va_runS (As := [.int x1, .int x4]) (rest := []) ⟨hx, hb, hml, hown, hts⟩ (ctX11_has l dC dI cyI cyB cyJ cyZ _ x1 x4 _ hw) (va_cwS 2 hts gX11_ownOf_X11_has rfl rfl rfl (by decide +kernel) ⟨Nat.le_of_ble_eq_true rfl, Nat.le_of_ble_eq_true rfl⟩) ⟨wPre_blind, fun U hU hW => wPre_of hPc hK hDc hN hU hW⟩ rfl rfl hl.1 rfl (lv_room (Nat.le_of_ble_eq_true rfl)) dX11_ownOf_37 ⟨(Nat.zero_le _), (Nat.zero_le _)⟩) hS (fun q _ h => hFc q h) hFc (fun r7 u6 t H1 locs ht hvm hw hB hz1 hk1 hS => ?_)
        obtain ⟨hP1, hK1, hD1⟩ := hB
        rw [ht] at hP1
        obtain ⟨hP, hD⟩ := va_join (wr := pickW (ceX11_ownOf cyI cyB cyJ cyZ a0 a1 a2 a3 a4 b0_image b0_before b0_taken b0_tape b0_five b0_walk b0_ends b0_manX b0_manY b0_dogX b0_dogY b0_row b0_round b0_farOne b0_leads b0_drags b0_from b0_near g0_thrown g0_hasImage g0_remembered g0_taped g0_point g0_end g0_begin g0_deep g0_faultAt g0_steps f1 g0_men g0_dogs f2 f3 f4) [0, 1, 2, 3, 4]) (w1 := ([] : va_W)) hP hD [] [0, 1, 2, 3, 4] rfl rfl (by decide) (by decide) hk1 hFc hP1 hD1
        have hP := hP.sub (ws' := (ceX11_ownOf cyI cyB cyJ cyZ a0 a1 a2 a3 a4 b0_image b0_before b0_taken b0_tape b0_five b0_walk b0_ends b0_manX b0_manY b0_dogX b0_dogY b0_row b0_round b0_farOne b0_leads b0_drags b0_from b0_near g0_thrown g0_hasImage g0_remembered g0_taped g0_point g0_end g0_begin g0_deep g0_faultAt g0_steps f1 g0_men g0_dogs f2 f3 f4)) [0, 1, 2, 3, 4] rfl
        have hD := hD.sub (ws' := (ceX11_ownOf cyI cyB cyJ cyZ a0 a1 a2 a3 a4 b0_image b0_before b0_taken b0_tape b0_five b0_walk b0_ends b0_manX b0_manY b0_dogX b0_dogY b0_row b0_round b0_farOne b0_leads b0_drags b0_from b0_near g0_thrown g0_hasImage g0_remembered g0_taped g0_point g0_end g0_begin g0_deep g0_faultAt g0_steps f1 g0_men g0_dogs f2 f3 f4)) [0, 1, 2, 3, 4] (by decide) rfl
        generalize H1 = H at hP hS ⊢
        refine lv_if_eq (tgt := 55) hx hb dX11_ownOf_40 (by decide) (fun hc => ?_) (fun hc => ?_)
        · have hw := hw.1 hc
          exact bX11_ownOf_55 C0 hK hN hA hQ ih hk4 g0_men g0_dogs f2 f3 f4 x1 x2 x3 x4 hw _ _ hP hD hS ls (lv_sub hl [0, 1, 2, 3, 4] rfl)
        · have hw := hw.2 hc
          refine lv_iload_n hx hb dX11_ownOf_43 rfl (lv_at hl 2 rfl) ?_
          refine lv_aload_n hx hb dX11_ownOf_44 rfl (lv_at hl 0 rfl) ?_
          refine lv_iload_n hx hb dX11_ownOf_45 rfl (lv_at hl 3 rfl) ?_
          refine lv_iload hx hb dX11_ownOf_46 (lv_at hl 4 rfl) ?_
          have hPc := hP.sub (ws' := (ceX11_leastOf cyI cyB cyJ cyZ a0 a1 a2 a3 a4 b0_image b0_before b0_taken b0_tape b0_five b0_walk b0_ends b0_manX b0_manY b0_dogX b0_dogY b0_row b0_round b0_farOne b0_leads b0_drags b0_from b0_near g0_thrown g0_hasImage g0_remembered g0_taped g0_point g0_end g0_begin g0_deep g0_faultAt g0_steps f1 g0_men g0_dogs f2 f3 f4)) [0, 1, 2, 3, 4] rfl
          have hDc := hD.sub (ws' := (ceX11_leastOf cyI cyB cyJ cyZ a0 a1 a2 a3 a4 b0_image b0_before b0_taken b0_tape b0_five b0_walk b0_ends b0_manX b0_manY b0_dogX b0_dogY b0_row b0_round b0_farOne b0_leads b0_drags b0_from b0_near g0_thrown g0_hasImage g0_remembered g0_taped g0_point g0_end g0_begin g0_deep g0_faultAt g0_steps f1 g0_men g0_dogs f2 f3 f4)) [0, 1, 2, 3, 4] (by decide) rfl
          have hFc := va_free (wc := (ceX11_leastOf cyI cyB cyJ cyZ a0 a1 a2 a3 a4 b0_image b0_before b0_taken b0_tape b0_five b0_walk b0_ends b0_manX b0_manY b0_dogX b0_dogY b0_row b0_round b0_farOne b0_leads b0_drags b0_from b0_near g0_thrown g0_hasImage g0_remembered g0_taped g0_point g0_end g0_begin g0_deep g0_faultAt g0_steps f1 g0_men g0_dogs f2 f3 f4)) hD hS hA [0, 1, 2, 3, 4] rfl
          refine va_calli (va_runV (As := [.int x3, .int x4]) (rest := [.int x2]) ⟨hx, hb, hml, hown, hts⟩ (ctX11_leastOf l dC dI cyI cyB cyJ cyZ _ a0 a1 a2 a3 a4 b0_image b0_before b0_taken b0_tape b0_five b0_walk b0_ends b0_manX b0_manY b0_dogX b0_dogY b0_row b0_round b0_farOne b0_leads b0_drags b0_from b0_near g0_thrown g0_hasImage g0_remembered g0_taped g0_point g0_end g0_begin g0_deep g0_faultAt g0_steps f1 g0_men g0_dogs f2 f3 f4 x3 x4 _ hw) (cwV 2 hts gX11_ownOf_X11_leastOf rfl rfl rfl (by decide +kernel) ⟨Nat.le_of_ble_eq_true rfl, Nat.le_of_ble_eq_true rfl⟩) ⟨wPre_blind, va_recv hK hPc (ci := 11) (q0 := 0) rfl rfl, fun U hU hW => wPre_of hPc hK hDc hN hU hW⟩ rfl rfl hl.1 rfl (lv_room (Nat.le_of_ble_eq_true rfl)) dX11_ownOf_48 ⟨(Nat.zero_le _), (Nat.zero_le _)⟩) hS (fun q _ h => hFc q h) hFc (fun r9 u8 t H1 locs ht hvm hw hB hz1 hk1 hS => ?_)
          obtain ⟨hP1, hK1, hD1⟩ := hB
          rw [ht] at hP1
          obtain ⟨hP, hD⟩ := va_join (wr := pickW (ceX11_ownOf cyI cyB cyJ cyZ a0 a1 a2 a3 a4 b0_image b0_before b0_taken b0_tape b0_five b0_walk b0_ends b0_manX b0_manY b0_dogX b0_dogY b0_row b0_round b0_farOne b0_leads b0_drags b0_from b0_near g0_thrown g0_hasImage g0_remembered g0_taped g0_point g0_end g0_begin g0_deep g0_faultAt g0_steps f1 g0_men g0_dogs f2 f3 f4) []) (w1 := (ceX11_leastOf cyI cyB cyJ cyZ a0 a1 a2 a3 a4 b0_image b0_before b0_taken b0_tape b0_five b0_walk b0_ends b0_manX b0_manY b0_dogX b0_dogY b0_row b0_round b0_farOne b0_leads b0_drags b0_from b0_near g0_thrown g0_hasImage g0_remembered g0_taped g0_point g0_end g0_begin g0_deep g0_faultAt g0_steps f1 u8.1 u8.2.1 u8.2.2.1 u8.2.2.2.1 u8.2.2.2.2)) hP hD [0, 1, 2, 3, 4] [] rfl rfl (by decide) (by decide) hk1 hFc hP1 hD1
          have hP := hP.sub (ws' := (ceX11_ownOf cyI cyB cyJ cyZ a0 a1 a2 a3 a4 b0_image b0_before b0_taken b0_tape b0_five b0_walk b0_ends b0_manX b0_manY b0_dogX b0_dogY b0_row b0_round b0_farOne b0_leads b0_drags b0_from b0_near g0_thrown g0_hasImage g0_remembered g0_taped g0_point g0_end g0_begin g0_deep g0_faultAt g0_steps f1 u8.1 u8.2.1 u8.2.2.1 u8.2.2.2.1 u8.2.2.2.2)) [0, 1, 2, 3, 4] rfl
          have hD := hD.sub (ws' := (ceX11_ownOf cyI cyB cyJ cyZ a0 a1 a2 a3 a4 b0_image b0_before b0_taken b0_tape b0_five b0_walk b0_ends b0_manX b0_manY b0_dogX b0_dogY b0_row b0_round b0_farOne b0_leads b0_drags b0_from b0_near g0_thrown g0_hasImage g0_remembered g0_taped g0_point g0_end g0_begin g0_deep g0_faultAt g0_steps f1 u8.1 u8.2.1 u8.2.2.1 u8.2.2.2.1 u8.2.2.2.2)) [0, 1, 2, 3, 4] (by decide) rfl
          generalize H1 = H at hP hS ⊢
          refine va_mmax hx hb (hml.trans hl.1.symm) hown (hts (.methodLink RX11 273 Lib.Math.max.name) (List.mem_of_getElem? (i := 1) rfl)) (hts (.static Lib.Math.max.name) (List.mem_of_getElem? (i := 2) rfl)) (hts (.initialized "java/lang/Math") (List.mem_of_getElem? (i := 3) rfl)) (hts (.code Lib.Math.max.name Lib.Math.max.code 2 (some .int)) (List.mem_of_getElem? (i := 4) rfl)) (Nat.le_of_ble_eq_true rfl) (Nat.le_of_ble_eq_true rfl) (by decide) (by decide) dX11_ownOf_51 ?_
          refine lv_topi (fun v10 ev10 => ?_)
          have hw := hw v10 ev10
          refine lv_istore_n (lv' := [(2, .int v10), (0, .ref a0), (1, .int x1), (3, .int x3), (4, .int x4)]) hx hb dX11_ownOf_54 rfl hl (by decide) rfl (fun ls hl => ?_)
          exact bX11_ownOf_55 C0 hK hN hA hQ ih hk4 u8.1 u8.2.1 u8.2.2.1 u8.2.2.2.1 u8.2.2.2.2 x1 v10 x3 x4 hw _ _ hP hD hS ls (lv_sub hl [1, 2, 0, 3, 4] rfl)
set_option maxRecDepth 100000 in
set_option maxHeartbeats 4000000 in
theorem bX11_ownOf_4 {p : Program} {l : Launch} {e : Env} {s : State} {m : MethodId} {args : Array Value} {below : List Frame} {meth : Method} {c : Code} {dC : Nat → ClassId} {dI : Nat → Nat → Nat} {cyI cyB cyJ cyZ : ClassId} {A : Nat → Prop} {a0 a1 a2 a3 a4 b0_image b0_before b0_taken b0_tape b0_five b0_walk b0_ends b0_manX b0_manY b0_dogX b0_dogY b0_row b0_round b0_farOne b0_leads b0_drags b0_from b0_near : Nat} {g0_thrown : Int32} {g0_hasImage : Int32} {g0_remembered : Int32} {g0_taped : Int32} {g0_point : Int32} {g0_end : Int32} {g0_begin : Int32} {g0_deep : Int32} {g0_faultAt : Int32} {g0_steps : Int32} (C0 : cxM p s m meth c args wsX11_ownOf RX11 cX11_ownOf 5 (some .int)) (hK : va_K (dC, dI) vwCl (tyA cyI cyB cyJ cyZ) s) (hN : nwA s) (hA : ∀ q : Nat, s.heap.size ≤ q → A q) {post : Int32 → (Int32 × Int32 × (Nat → Int32) × (Nat → Int32) × (Nat → Int32)) → Prop} {f1 : Nat → Int32} {Q : State → Prop} (hQ : Q = MQ below (va_Qi post (fun u : Int32 × Int32 × (Nat → Int32) × (Nat → Int32) × (Nat → Int32) => wAt dC dI cyI cyB cyJ cyZ A (ceX11_ownOf cyI cyB cyJ cyZ a0 a1 a2 a3 a4 b0_image b0_before b0_taken b0_tape b0_five b0_walk b0_ends b0_manX b0_manY b0_dogX b0_dogY b0_row b0_round b0_farOne b0_leads b0_drags b0_from b0_near g0_thrown g0_hasImage g0_remembered g0_taped g0_point g0_end g0_begin g0_deep g0_faultAt g0_steps f1 u.1 u.2.1 u.2.2.1 u.2.2.2.1 u.2.2.2.2)) A) args s 0 0 A) : ∀ (n : Nat) (g0_men : Int32) (g0_dogs : Int32) (f2 : Nat → Int32) (f3 : Nat → Int32) (f4 : Nat → Int32) (x1 : Int32) (x2 : Int32) (x3 : Int32), wpX11_ownOf_4 post f1 n g0_men g0_dogs f2 f3 f4 x1 x2 x3 → AtW p l e rmX11_ownOf s m args below meth c dC dI A Q 5 0 0 (ceX11_ownOf cyI cyB cyJ cyZ a0 a1 a2 a3 a4 b0_image b0_before b0_taken b0_tape b0_five b0_walk b0_ends b0_manX b0_manY b0_dogX b0_dogY b0_row b0_round b0_farOne b0_leads b0_drags b0_from b0_near g0_thrown g0_hasImage g0_remembered g0_taped g0_point g0_end g0_begin g0_deep g0_faultAt g0_steps f1 g0_men g0_dogs f2 f3 f4) [(0, .ref a0), (1, .int x1), (2, .int x2), (3, .int x3)] 4 [] := by
  intro n
  induction n with
  | zero => intro g0_men g0_dogs f2 f3 f4 x1 x2 x3 hw; exact False.elim hw
  | succ n ih =>
    intro g0_men g0_dogs f2 f3 f4 x1 x2 x3 hw H locs hP hD hS ls hl
    have C1 := C0
    obtain ⟨hx, hb, hr, hml, hown, hts, hlocks⟩ := C1
    refine lv_iload_n hx hb dX11_ownOf_4 rfl (lv_at hl 3 rfl) ?_
    refine lv_aload_n hx hb dX11_ownOf_5 rfl (lv_at hl 0 rfl) ?_
    have hPc := hP.sub (ws' := (ceX11_ways cyI cyB cyJ cyZ a0 a1 b0_image b0_before b0_taken b0_tape b0_five a2 a3 a4 b0_walk b0_ends b0_manX b0_manY b0_dogX b0_dogY b0_row b0_round b0_farOne b0_leads b0_drags b0_from b0_near g0_thrown g0_hasImage g0_remembered g0_taped g0_point g0_end g0_begin g0_deep g0_faultAt g0_steps g0_men g0_dogs f1)) [0, 1] rfl
    have hDc := hD.sub (ws' := (ceX11_ways cyI cyB cyJ cyZ a0 a1 b0_image b0_before b0_taken b0_tape b0_five a2 a3 a4 b0_walk b0_ends b0_manX b0_manY b0_dogX b0_dogY b0_row b0_round b0_farOne b0_leads b0_drags b0_from b0_near g0_thrown g0_hasImage g0_remembered g0_taped g0_point g0_end g0_begin g0_deep g0_faultAt g0_steps g0_men g0_dogs f1)) [0, 1] (by decide) rfl
    have hFc := va_free (wc := (ceX11_ways cyI cyB cyJ cyZ a0 a1 b0_image b0_before b0_taken b0_tape b0_five a2 a3 a4 b0_walk b0_ends b0_manX b0_manY b0_dogX b0_dogY b0_row b0_round b0_farOne b0_leads b0_drags b0_from b0_near g0_thrown g0_hasImage g0_remembered g0_taped g0_point g0_end g0_begin g0_deep g0_faultAt g0_steps g0_men g0_dogs f1)) hD hS hA [0, 1] rfl
    refine va_calli (va_runV (As := []) (rest := [.int x3]) ⟨hx, hb, hml, hown, hts⟩ (ctX11_ways l dC dI cyI cyB cyJ cyZ _ a0 a1 b0_image b0_before b0_taken b0_tape b0_five a2 a3 a4 b0_walk b0_ends b0_manX b0_manY b0_dogX b0_dogY b0_row b0_round b0_farOne b0_leads b0_drags b0_from b0_near g0_thrown g0_hasImage g0_remembered g0_taped g0_point g0_end g0_begin g0_deep g0_faultAt g0_steps g0_men g0_dogs f1 _ hw) (cwV 0 hts gX11_ownOf_X11_ways rfl rfl rfl (by decide +kernel) ⟨Nat.le_of_ble_eq_true rfl, Nat.le_of_ble_eq_true rfl⟩) ⟨wPre_blind, va_recv hK hPc (ci := 11) (q0 := 0) rfl rfl, fun U hU hW => wPre_of hPc hK hDc hN hU hW⟩ rfl rfl hl.1 rfl (lv_room (Nat.le_of_ble_eq_true rfl)) dX11_ownOf_6 ⟨(Nat.zero_le _), (Nat.zero_le _)⟩) hS (fun q _ h => hFc q h) hFc (fun r2 u1 t H1 locs ht hvm hw hB hz1 hk1 hS => ?_)
    obtain ⟨hP1, hK1, hD1⟩ := hB
    rw [ht] at hP1
    obtain ⟨hP, hD⟩ := va_join (wr := pickW (ceX11_ownOf cyI cyB cyJ cyZ a0 a1 a2 a3 a4 b0_image b0_before b0_taken b0_tape b0_five b0_walk b0_ends b0_manX b0_manY b0_dogX b0_dogY b0_row b0_round b0_farOne b0_leads b0_drags b0_from b0_near g0_thrown g0_hasImage g0_remembered g0_taped g0_point g0_end g0_begin g0_deep g0_faultAt g0_steps f1 g0_men g0_dogs f2 f3 f4) [2, 3, 4]) (w1 := (ceX11_ways cyI cyB cyJ cyZ a0 a1 b0_image b0_before b0_taken b0_tape b0_five a2 a3 a4 b0_walk b0_ends b0_manX b0_manY b0_dogX b0_dogY b0_row b0_round b0_farOne b0_leads b0_drags b0_from b0_near g0_thrown g0_hasImage g0_remembered g0_taped g0_point g0_end g0_begin g0_deep g0_faultAt g0_steps g0_men g0_dogs f1)) hP hD [0, 1] [2, 3, 4] rfl rfl (by decide) (by decide) hk1 hFc hP1 hD1
    have hP := hP.sub (ws' := (ceX11_ownOf cyI cyB cyJ cyZ a0 a1 a2 a3 a4 b0_image b0_before b0_taken b0_tape b0_five b0_walk b0_ends b0_manX b0_manY b0_dogX b0_dogY b0_row b0_round b0_farOne b0_leads b0_drags b0_from b0_near g0_thrown g0_hasImage g0_remembered g0_taped g0_point g0_end g0_begin g0_deep g0_faultAt g0_steps f1 g0_men g0_dogs f2 f3 f4)) [3, 4, 0, 1, 2] rfl
    have hD := hD.sub (ws' := (ceX11_ownOf cyI cyB cyJ cyZ a0 a1 a2 a3 a4 b0_image b0_before b0_taken b0_tape b0_five b0_walk b0_ends b0_manX b0_manY b0_dogX b0_dogY b0_row b0_round b0_farOne b0_leads b0_drags b0_from b0_near g0_thrown g0_hasImage g0_remembered g0_taped g0_point g0_end g0_begin g0_deep g0_faultAt g0_steps f1 g0_men g0_dogs f2 f3 f4)) [3, 4, 0, 1, 2] (by decide) rfl
    generalize H1 = H at hP hS ⊢
    refine lv_icmp_ge (tgt := 67) hx hb dX11_ownOf_9 (by decide) (fun hc => ?_) (fun hc => ?_)
    · have hw := hw.1 hc
      refine lv_iload_n hx hb dX11_ownOf_67 rfl (lv_at hl 2 rfl) ?_
      have hPc := hP.sub (ws' := ([] : va_W)) [] rfl
      have hDc := hD.sub (ws' := ([] : va_W)) [] (by decide) rfl
      have hFc := va_free (wc := ([] : va_W)) hD hS hA [] rfl
      refine va_calli (va_runS (As := [.int x2]) (rest := []) ⟨hx, hb, hml, hown, hts⟩ (ctX11_orNone l dC dI cyI cyB cyJ cyZ _ x2 _ hw) (va_cwS 1 hts gX11_ownOf_X11_orNone rfl rfl rfl (by decide +kernel) ⟨Nat.le_of_ble_eq_true rfl, Nat.le_of_ble_eq_true rfl⟩) ⟨wPre_blind, fun U hU hW => wPre_of hPc hK hDc hN hU hW⟩ rfl rfl hl.1 rfl (lv_room (Nat.le_of_ble_eq_true rfl)) dX11_ownOf_68 ⟨(Nat.zero_le _), (Nat.zero_le _)⟩) hS (fun q _ h => hFc q h) hFc (fun r4 u3 t H1 locs ht hvm hw hB hz1 hk1 hS => ?_)
      obtain ⟨hP1, hK1, hD1⟩ := hB
      rw [ht] at hP1
      obtain ⟨hP, hD⟩ := va_join (wr := pickW (ceX11_ownOf cyI cyB cyJ cyZ a0 a1 a2 a3 a4 b0_image b0_before b0_taken b0_tape b0_five b0_walk b0_ends b0_manX b0_manY b0_dogX b0_dogY b0_row b0_round b0_farOne b0_leads b0_drags b0_from b0_near g0_thrown g0_hasImage g0_remembered g0_taped g0_point g0_end g0_begin g0_deep g0_faultAt g0_steps f1 g0_men g0_dogs f2 f3 f4) [0, 1, 2, 3, 4]) (w1 := ([] : va_W)) hP hD [] [0, 1, 2, 3, 4] rfl rfl (by decide) (by decide) hk1 hFc hP1 hD1
      have hP := hP.sub (ws' := (ceX11_ownOf cyI cyB cyJ cyZ a0 a1 a2 a3 a4 b0_image b0_before b0_taken b0_tape b0_five b0_walk b0_ends b0_manX b0_manY b0_dogX b0_dogY b0_row b0_round b0_farOne b0_leads b0_drags b0_from b0_near g0_thrown g0_hasImage g0_remembered g0_taped g0_point g0_end g0_begin g0_deep g0_faultAt g0_steps f1 g0_men g0_dogs f2 f3 f4)) [0, 1, 2, 3, 4] rfl
      have hD := hD.sub (ws' := (ceX11_ownOf cyI cyB cyJ cyZ a0 a1 a2 a3 a4 b0_image b0_before b0_taken b0_tape b0_five b0_walk b0_ends b0_manX b0_manY b0_dogX b0_dogY b0_row b0_round b0_farOne b0_leads b0_drags b0_from b0_near g0_thrown g0_hasImage g0_remembered g0_taped g0_point g0_end g0_begin g0_deep g0_faultAt g0_steps f1 g0_men g0_dogs f2 f3 f4)) [0, 1, 2, 3, 4] (by decide) rfl
      generalize H1 = H at hP hS ⊢
      rw [hQ]
      exact W.iret (v := r4) hx hb hr (fun t ht hW => ⟨⟨r4, (g0_men, g0_dogs, f2, f3, f4), rfl, hw, by rw [ht]; exact hP, va_K.moved hW.alike hK, hD⟩, hS.F ht⟩) hS.2.2 dX11_ownOf_71
    · have hw := hw.2 hc
      refine lv_iload_n hx hb dX11_ownOf_12 rfl (lv_at hl 3 rfl) ?_
      refine lv_iconst (v := 1) hx hb dX11_ownOf_13 (by decide) ?_
      refine lv_iadd hx hb dX11_ownOf_14 ?_
      refine lv_topi (fun v5 ev5 => ?_)
      have hw := hw v5 ev5
      refine lv_istore (lv' := [(4, .int v5), (0, .ref a0), (1, .int x1), (2, .int x2), (3, .int x3)]) hx hb dX11_ownOf_15 hl (by decide) rfl (fun ls hl => ?_)
      obtain ⟨nn, hw⟩ := hw
      exact bX11_ownOf_17 C0 hK hN hA hQ ih nn g0_men g0_dogs f2 f3 f4 x1 x2 x3 v5 hw _ _ hP hD hS ls (lv_sub hl [1, 2, 3, 4, 0] rfl)
set_option maxRecDepth 100000 in
set_option maxHeartbeats 4000000 in
theorem ctX11_ownOf (l : Launch) (dC : Nat → ClassId) (dI : Nat → Nat → Nat) (cyI cyB cyJ cyZ : ClassId) (sz : Nat) (a0 a1 a2 a3 a4 b0_image b0_before b0_taken b0_tape b0_five b0_walk b0_ends b0_manX b0_manY b0_dogX b0_dogY b0_row b0_round b0_farOne b0_leads b0_drags b0_from b0_near : Nat) (g0_thrown : Int32) (g0_hasImage : Int32) (g0_remembered : Int32) (g0_taped : Int32) (g0_point : Int32) (g0_end : Int32) (g0_begin : Int32) (g0_deep : Int32) (g0_faultAt : Int32) (g0_steps : Int32) (f1 : Nat → Int32) (g0_men : Int32) (g0_dogs : Int32) (f2 : Nat → Int32) (f3 : Nat → Int32) (f4 : Nat → Int32) (p0 : Int32) (post : Int32 → (Int32 × Int32 × (Nat → Int32) × (Nat → Int32) × (Nat → Int32)) → Prop) (hw : wpX11_ownOf post f1 g0_men g0_dogs f2 f3 f4 p0) : Met l yX11_ownOf wsX11_ownOf rmX11_ownOf (va_Pc [.ref a0, .int p0] (wPre dC dI cyI cyB cyJ cyZ sz (ceX11_ownOf cyI cyB cyJ cyZ a0 a1 a2 a3 a4 b0_image b0_before b0_taken b0_tape b0_five b0_walk b0_ends b0_manX b0_manY b0_dogX b0_dogY b0_row b0_round b0_farOne b0_leads b0_drags b0_from b0_near g0_thrown g0_hasImage g0_remembered g0_taped g0_point g0_end g0_begin g0_deep g0_faultAt g0_steps f1 g0_men g0_dogs f2 f3 f4))) (va_Qi post (fun u : Int32 × Int32 × (Nat → Int32) × (Nat → Int32) × (Nat → Int32) => wAt dC dI cyI cyB cyJ cyZ (va_A (ceX11_ownOf cyI cyB cyJ cyZ a0 a1 a2 a3 a4 b0_image b0_before b0_taken b0_tape b0_five b0_walk b0_ends b0_manX b0_manY b0_dogX b0_dogY b0_row b0_round b0_farOne b0_leads b0_drags b0_from b0_near g0_thrown g0_hasImage g0_remembered g0_taped g0_point g0_end g0_begin g0_deep g0_faultAt g0_steps f1 g0_men g0_dogs f2 f3 f4) sz) (ceX11_ownOf cyI cyB cyJ cyZ a0 a1 a2 a3 a4 b0_image b0_before b0_taken b0_tape b0_five b0_walk b0_ends b0_manX b0_manY b0_dogX b0_dogY b0_row b0_round b0_farOne b0_leads b0_drags b0_from b0_near g0_thrown g0_hasImage g0_remembered g0_taped g0_point g0_end g0_begin g0_deep g0_faultAt g0_steps f1 u.1 u.2.1 u.2.2.1 u.2.2.2.1 u.2.2.2.2)) (va_A (ceX11_ownOf cyI cyB cyJ cyZ a0 a1 a2 a3 a4 b0_image b0_before b0_taken b0_tape b0_five b0_walk b0_ends b0_manX b0_manY b0_dogX b0_dogY b0_row b0_round b0_farOne b0_leads b0_drags b0_from b0_near g0_thrown g0_hasImage g0_remembered g0_taped g0_point g0_end g0_begin g0_deep g0_faultAt g0_steps f1 g0_men g0_dogs f2 f3 f4) sz)) 0 0 (va_A (ceX11_ownOf cyI cyB cyJ cyZ a0 a1 a2 a3 a4 b0_image b0_before b0_taken b0_tape b0_five b0_walk b0_ends b0_manX b0_manY b0_dogX b0_dogY b0_row b0_round b0_farOne b0_leads b0_drags b0_from b0_near g0_thrown g0_hasImage g0_remembered g0_taped g0_point g0_end g0_begin g0_deep g0_faultAt g0_steps f1 g0_men g0_dogs f2 f3 f4) sz) := by
  refine Met.ofW (cc := cX11_ownOf) (maxL := 5) (ret := (some .int)) (by decide) rfl ?_
  intro p e s m args below meth c s₁ B hml hv
  obtain ⟨rfl, hsz, hP, hK, hD0, hN⟩ := hv
  have hx := B.exec
  have hb := B.bytes
  have hr := B.returns
  have hts := atoms_spec (ws := wsX11_ownOf) B.pre
  have hown : s.vm.findClass RX11 = some m.cls := findClass_of_methodNamed B.named
  have hlocks := B.notSynchronized
  subst hsz
  have hD := hD0.self (sz := s.heap.size)
  generalize hAe : va_A (ceX11_ownOf cyI cyB cyJ cyZ a0 a1 a2 a3 a4 b0_image b0_before b0_taken b0_tape b0_five b0_walk b0_ends b0_manX b0_manY b0_dogX b0_dogY b0_row b0_round b0_farOne b0_leads b0_drags b0_from b0_near g0_thrown g0_hasImage g0_remembered g0_taped g0_point g0_end g0_begin g0_deep g0_faultAt g0_steps f1 g0_men g0_dogs f2 f3 f4) s.heap.size = A at hD ⊢
  have hA : ∀ q : Nat, s.heap.size ≤ q → A q := fun q h => by rw [← hAe]; exact Or.inr h
  have hS : va_S A s.heap s.heap [] := va_S.rf
  have C0 : cxM p s m meth c _ wsX11_ownOf RX11 cX11_ownOf 5 (some .int) := ⟨hx, hb, hr, hml, hown, hts, hlocks⟩
  have hl := lv_entry ([.ref a0, .int p0]) (n := 5) (Nat.le_of_ble_eq_true rfl)
  rw [lg_entry_eq]
  generalize (lg_sl ([.ref a0, .int p0]) ++ List.replicate (5 - (lg_sl ([.ref a0, .int p0])).length) Slot.unset).toArray = ls at hl ⊢
  have hl : lv_has ls 5 [(0, .ref a0), (1, .int p0)] := hl
  show W p l e rmX11_ownOf s m _ below meth c _ _ _ _ _ _
  refine wq (fun Q hQ => ?_)
  refine lv_iconst (v := 0) hx hb dX11_ownOf_0 (by decide) ?_
  refine lv_istore_n (lv' := [(2, .int 0), (0, .ref a0), (1, .int p0)]) hx hb dX11_ownOf_1 rfl hl (by decide) rfl (fun ls hl => ?_)
  refine lv_iconst (v := 0) hx hb dX11_ownOf_2 (by decide) ?_
  refine lv_istore_n (lv' := [(3, .int 0), (2, .int 0), (0, .ref a0), (1, .int p0)]) hx hb dX11_ownOf_3 rfl hl (by decide) rfl (fun ls hl => ?_)
  obtain ⟨nn, hw⟩ := hw
  exact bX11_ownOf_4 C0 hK hN hA hQ nn g0_men g0_dogs f2 f3 f4 p0 0 0 hw _ _ hP hD hS ls (lv_sub hl [2, 3, 1, 0] rfl)
/-! LeadParkModel.own (I)I -/
abbrev ceX11_own (cyI cyB cyJ cyZ : ClassId) (a0 a1 a2 a3 a4 b0_image b0_before b0_taken b0_tape b0_five b0_walk b0_ends b0_manX b0_manY b0_dogX b0_dogY b0_row b0_round b0_farOne b0_leads b0_drags b0_from b0_near : Nat) (g0_hasImage : Int32) (g0_remembered : Int32) (g0_taped : Int32) (g0_point : Int32) (g0_end : Int32) (g0_begin : Int32) (g0_deep : Int32) (g0_faultAt : Int32) (g0_steps : Int32) (f1 : Nat → Int32) (g0_thrown : Int32) (g0_men : Int32) (g0_dogs : Int32) (f2 : Nat → Int32) (f3 : Nat → Int32) (f4 : Nat → Int32) : va_W := [(a0, .inr (11, [.int g0_thrown, .ref a1, .ref b0_image, .ref b0_before, .int g0_hasImage, .ref b0_taken, .int g0_remembered, .ref b0_tape, .int g0_taped, .int g0_point, .int g0_end, .int g0_begin, .int g0_deep, .int g0_faultAt, .ref b0_five, .int g0_steps, .ref a2, .ref a3, .int g0_men, .int g0_dogs, .ref a4, .ref b0_walk, .ref b0_ends, .ref b0_manX, .ref b0_manY, .ref b0_dogX, .ref b0_dogY, .ref b0_row, .ref b0_round, .ref b0_farOne, .ref b0_leads, .ref b0_drags, .ref b0_from, .ref b0_near])), (a1, .inl (cyI, 2508, .inl f1)), (a2, .inl (cyI, 400, .inl f2)), (a3, .inl (cyI, 900, .inl f3)), (a4, .inl (cyI, 900, .inl f4))]

theorem inX11_own_X11 : ∀ w ∈ wsX110, w ∈ wsX11_own := fun _ h => List.mem_cons_of_mem _ (List.mem_append_right _ h)
abbrev rmX11_own : Room := { frames := 8, cells := 0, slots := 0, locals := 212 }
set_option maxRecDepth 100000 in
set_option maxHeartbeats 4000000 in
theorem ctX11_own (l : Launch) (dC : Nat → ClassId) (dI : Nat → Nat → Nat) (cyI cyB cyJ cyZ : ClassId) (sz : Nat) (a0 a1 a2 a3 a4 b0_image b0_before b0_taken b0_tape b0_five b0_walk b0_ends b0_manX b0_manY b0_dogX b0_dogY b0_row b0_round b0_farOne b0_leads b0_drags b0_from b0_near : Nat) (g0_hasImage : Int32) (g0_remembered : Int32) (g0_taped : Int32) (g0_point : Int32) (g0_end : Int32) (g0_begin : Int32) (g0_deep : Int32) (g0_faultAt : Int32) (g0_steps : Int32) (f1 : Nat → Int32) (g0_thrown : Int32) (g0_men : Int32) (g0_dogs : Int32) (f2 : Nat → Int32) (f3 : Nat → Int32) (f4 : Nat → Int32) (p0 : Int32) (post : Int32 → (Int32 × Int32 × Int32 × (Nat → Int32) × (Nat → Int32) × (Nat → Int32)) → Prop) (hw : wpX11_own post f1 g0_thrown g0_men g0_dogs f2 f3 f4 p0) : Met l yX11_own wsX11_own rmX11_own (va_Pc [.ref a0, .int p0] (wPre dC dI cyI cyB cyJ cyZ sz (ceX11_own cyI cyB cyJ cyZ a0 a1 a2 a3 a4 b0_image b0_before b0_taken b0_tape b0_five b0_walk b0_ends b0_manX b0_manY b0_dogX b0_dogY b0_row b0_round b0_farOne b0_leads b0_drags b0_from b0_near g0_hasImage g0_remembered g0_taped g0_point g0_end g0_begin g0_deep g0_faultAt g0_steps f1 g0_thrown g0_men g0_dogs f2 f3 f4))) (va_Qi post (fun u : Int32 × Int32 × Int32 × (Nat → Int32) × (Nat → Int32) × (Nat → Int32) => wAt dC dI cyI cyB cyJ cyZ (va_A (ceX11_own cyI cyB cyJ cyZ a0 a1 a2 a3 a4 b0_image b0_before b0_taken b0_tape b0_five b0_walk b0_ends b0_manX b0_manY b0_dogX b0_dogY b0_row b0_round b0_farOne b0_leads b0_drags b0_from b0_near g0_hasImage g0_remembered g0_taped g0_point g0_end g0_begin g0_deep g0_faultAt g0_steps f1 g0_thrown g0_men g0_dogs f2 f3 f4) sz) (ceX11_own cyI cyB cyJ cyZ a0 a1 a2 a3 a4 b0_image b0_before b0_taken b0_tape b0_five b0_walk b0_ends b0_manX b0_manY b0_dogX b0_dogY b0_row b0_round b0_farOne b0_leads b0_drags b0_from b0_near g0_hasImage g0_remembered g0_taped g0_point g0_end g0_begin g0_deep g0_faultAt g0_steps f1 u.1 u.2.1 u.2.2.1 u.2.2.2.1 u.2.2.2.2.1 u.2.2.2.2.2)) (va_A (ceX11_own cyI cyB cyJ cyZ a0 a1 a2 a3 a4 b0_image b0_before b0_taken b0_tape b0_five b0_walk b0_ends b0_manX b0_manY b0_dogX b0_dogY b0_row b0_round b0_farOne b0_leads b0_drags b0_from b0_near g0_hasImage g0_remembered g0_taped g0_point g0_end g0_begin g0_deep g0_faultAt g0_steps f1 g0_thrown g0_men g0_dogs f2 f3 f4) sz)) 0 0 (va_A (ceX11_own cyI cyB cyJ cyZ a0 a1 a2 a3 a4 b0_image b0_before b0_taken b0_tape b0_five b0_walk b0_ends b0_manX b0_manY b0_dogX b0_dogY b0_row b0_round b0_farOne b0_leads b0_drags b0_from b0_near g0_hasImage g0_remembered g0_taped g0_point g0_end g0_begin g0_deep g0_faultAt g0_steps f1 g0_thrown g0_men g0_dogs f2 f3 f4) sz) := by
  refine Met.ofW (cc := cX11_own) (maxL := 2) (ret := (some .int)) (by decide) rfl ?_
  intro p e s m args below meth c s₁ B hml hv
  obtain ⟨rfl, hsz, hP, hK, hD0, hN⟩ := hv
  have hx := B.exec
  have hb := B.bytes
  have hr := B.returns
  have hts := atoms_spec (ws := wsX11_own) B.pre
  have hown : s.vm.findClass RX11 = some m.cls := findClass_of_methodNamed B.named
  have hlocks := B.notSynchronized
  subst hsz
  have hD := hD0.self (sz := s.heap.size)
  generalize hAe : va_A (ceX11_own cyI cyB cyJ cyZ a0 a1 a2 a3 a4 b0_image b0_before b0_taken b0_tape b0_five b0_walk b0_ends b0_manX b0_manY b0_dogX b0_dogY b0_row b0_round b0_farOne b0_leads b0_drags b0_from b0_near g0_hasImage g0_remembered g0_taped g0_point g0_end g0_begin g0_deep g0_faultAt g0_steps f1 g0_thrown g0_men g0_dogs f2 f3 f4) s.heap.size = A at hD ⊢
  have hA : ∀ q : Nat, s.heap.size ≤ q → A q := fun q h => by rw [← hAe]; exact Or.inr h
  have hS : va_S A s.heap s.heap [] := va_S.rf
  have C0 : cxM p s m meth c _ wsX11_own RX11 cX11_own 2 (some .int) := ⟨hx, hb, hr, hml, hown, hts, hlocks⟩
  have hl := lv_entry ([.ref a0, .int p0]) (n := 2) (Nat.le_of_ble_eq_true rfl)
  rw [lg_entry_eq]
  generalize (lg_sl ([.ref a0, .int p0]) ++ List.replicate (2 - (lg_sl ([.ref a0, .int p0])).length) Slot.unset).toArray = ls at hl ⊢
  have hl : lv_has ls 2 [(0, .ref a0), (1, .int p0)] := hl
  show W p l e rmX11_own s m _ below meth c _ _ _ _ _ _
  refine wq (fun Q hQ => ?_)
  refine lv_aload_n hx hb dX11_own_0 rfl (lv_at hl 0 rfl) ?_
  refine lv_iconst (v := 0) hx hb dX11_own_1 (by decide) ?_
  refine va_put (D := (dC, dI)) (ci := 11) (v := .int 0) (ty := .int) (C := RX11) (T := TX11) (N := 34) hx hb hts inX11_own_X11 tyX11 tyX11_ok nmX11 hown hK hP hD hS 0 rfl rfl 0 (by decide) (hts (.fieldLink RX11 3 "LeadParkModel" "thrown" "I") (List.mem_of_getElem? (i := 1) rfl)) (fun _ h9 => h9) rfl (by decide +kernel) rfl rfl (Nat.le_of_ble_eq_true rfl) dX11_own_2 (fun H locs hP hD hS => ?_)
  have hP : va_P (dC, dI) vwCl (ceX11_own cyI cyB cyJ cyZ a0 a1 a2 a3 a4 b0_image b0_before b0_taken b0_tape b0_five b0_walk b0_ends b0_manX b0_manY b0_dogX b0_dogY b0_row b0_round b0_farOne b0_leads b0_drags b0_from b0_near g0_hasImage g0_remembered g0_taped g0_point g0_end g0_begin g0_deep g0_faultAt g0_steps f1 0 g0_men g0_dogs f2 f3 f4) H := hP
  have hD : va_D A (ceX11_own cyI cyB cyJ cyZ a0 a1 a2 a3 a4 b0_image b0_before b0_taken b0_tape b0_five b0_walk b0_ends b0_manX b0_manY b0_dogX b0_dogY b0_row b0_round b0_farOne b0_leads b0_drags b0_from b0_near g0_hasImage g0_remembered g0_taped g0_point g0_end g0_begin g0_deep g0_faultAt g0_steps f1 0 g0_men g0_dogs f2 f3 f4) := hD
  refine lv_aload_n hx hb dX11_own_5 rfl (lv_at hl 0 rfl) ?_
  refine lv_iload_n hx hb dX11_own_6 rfl (lv_at hl 1 rfl) ?_
  have hPc := hP.sub (ws' := (ceX11_ownOf cyI cyB cyJ cyZ a0 a1 a2 a3 a4 b0_image b0_before b0_taken b0_tape b0_five b0_walk b0_ends b0_manX b0_manY b0_dogX b0_dogY b0_row b0_round b0_farOne b0_leads b0_drags b0_from b0_near 0 g0_hasImage g0_remembered g0_taped g0_point g0_end g0_begin g0_deep g0_faultAt g0_steps f1 g0_men g0_dogs f2 f3 f4)) [0, 1, 2, 3, 4] rfl
  have hDc := hD.sub (ws' := (ceX11_ownOf cyI cyB cyJ cyZ a0 a1 a2 a3 a4 b0_image b0_before b0_taken b0_tape b0_five b0_walk b0_ends b0_manX b0_manY b0_dogX b0_dogY b0_row b0_round b0_farOne b0_leads b0_drags b0_from b0_near 0 g0_hasImage g0_remembered g0_taped g0_point g0_end g0_begin g0_deep g0_faultAt g0_steps f1 g0_men g0_dogs f2 f3 f4)) [0, 1, 2, 3, 4] (by decide) rfl
  have hFc := va_free (wc := (ceX11_ownOf cyI cyB cyJ cyZ a0 a1 a2 a3 a4 b0_image b0_before b0_taken b0_tape b0_five b0_walk b0_ends b0_manX b0_manY b0_dogX b0_dogY b0_row b0_round b0_farOne b0_leads b0_drags b0_from b0_near 0 g0_hasImage g0_remembered g0_taped g0_point g0_end g0_begin g0_deep g0_faultAt g0_steps f1 g0_men g0_dogs f2 f3 f4)) hD hS hA [0, 1, 2, 3, 4] rfl
  refine va_calli (va_runV (As := [.int p0]) (rest := []) ⟨hx, hb, hml, hown, hts⟩ (ctX11_ownOf l dC dI cyI cyB cyJ cyZ _ a0 a1 a2 a3 a4 b0_image b0_before b0_taken b0_tape b0_five b0_walk b0_ends b0_manX b0_manY b0_dogX b0_dogY b0_row b0_round b0_farOne b0_leads b0_drags b0_from b0_near 0 g0_hasImage g0_remembered g0_taped g0_point g0_end g0_begin g0_deep g0_faultAt g0_steps f1 g0_men g0_dogs f2 f3 f4 p0 _ hw) (cwV 1 hts gX11_own_X11_ownOf rfl rfl rfl (by decide +kernel) ⟨Nat.le_of_ble_eq_true rfl, Nat.le_of_ble_eq_true rfl⟩) ⟨wPre_blind, va_recv hK hPc (ci := 11) (q0 := 0) rfl rfl, fun U hU hW => wPre_of hPc hK hDc hN hU hW⟩ rfl rfl hl.1 rfl (lv_room (Nat.le_of_ble_eq_true rfl)) dX11_own_7 ⟨(Nat.zero_le _), (Nat.zero_le _)⟩) hS (fun q _ h => hFc q h) hFc (fun r2 u1 t H1 locs ht hvm hw hB hz1 hk1 hS => ?_)
  obtain ⟨hP1, hK1, hD1⟩ := hB
  rw [ht] at hP1
  obtain ⟨hP, hD⟩ := va_join (wr := pickW (ceX11_own cyI cyB cyJ cyZ a0 a1 a2 a3 a4 b0_image b0_before b0_taken b0_tape b0_five b0_walk b0_ends b0_manX b0_manY b0_dogX b0_dogY b0_row b0_round b0_farOne b0_leads b0_drags b0_from b0_near g0_hasImage g0_remembered g0_taped g0_point g0_end g0_begin g0_deep g0_faultAt g0_steps f1 0 g0_men g0_dogs f2 f3 f4) []) (w1 := (ceX11_ownOf cyI cyB cyJ cyZ a0 a1 a2 a3 a4 b0_image b0_before b0_taken b0_tape b0_five b0_walk b0_ends b0_manX b0_manY b0_dogX b0_dogY b0_row b0_round b0_farOne b0_leads b0_drags b0_from b0_near 0 g0_hasImage g0_remembered g0_taped g0_point g0_end g0_begin g0_deep g0_faultAt g0_steps f1 u1.1 u1.2.1 u1.2.2.1 u1.2.2.2.1 u1.2.2.2.2)) hP hD [0, 1, 2, 3, 4] [] rfl rfl (by decide) (by decide) hk1 hFc hP1 hD1
  have hP := hP.sub (ws' := (ceX11_own cyI cyB cyJ cyZ a0 a1 a2 a3 a4 b0_image b0_before b0_taken b0_tape b0_five b0_walk b0_ends b0_manX b0_manY b0_dogX b0_dogY b0_row b0_round b0_farOne b0_leads b0_drags b0_from b0_near g0_hasImage g0_remembered g0_taped g0_point g0_end g0_begin g0_deep g0_faultAt g0_steps f1 0 u1.1 u1.2.1 u1.2.2.1 u1.2.2.2.1 u1.2.2.2.2)) [0, 1, 2, 3, 4] rfl
  have hD := hD.sub (ws' := (ceX11_own cyI cyB cyJ cyZ a0 a1 a2 a3 a4 b0_image b0_before b0_taken b0_tape b0_five b0_walk b0_ends b0_manX b0_manY b0_dogX b0_dogY b0_row b0_round b0_farOne b0_leads b0_drags b0_from b0_near g0_hasImage g0_remembered g0_taped g0_point g0_end g0_begin g0_deep g0_faultAt g0_steps f1 0 u1.1 u1.2.1 u1.2.2.1 u1.2.2.2.1 u1.2.2.2.2)) [0, 1, 2, 3, 4] (by decide) rfl
  generalize H1 = H at hP hS ⊢
  rw [hQ]
  exact W.iret (v := r2) hx hb hr (fun t ht hW => ⟨⟨r2, (0, u1.1, u1.2.1, u1.2.2.1, u1.2.2.2.1, u1.2.2.2.2), rfl, hw, by rw [ht]; exact hP, va_K.moved hW.alike hK, hD⟩, hS.F ht⟩) hS.2.2 dX11_own_10
/-! LeadParkModel.forged (II)Z -/
abbrev ceX11_forged (cyI cyB cyJ cyZ : ClassId) (a0 a1 a2 a3 a4 b0_image b0_before b0_taken b0_tape b0_five b0_walk b0_ends b0_manX b0_manY b0_dogX b0_dogY b0_row b0_round b0_farOne b0_leads b0_drags b0_from b0_near : Nat) (g0_hasImage : Int32) (g0_remembered : Int32) (g0_taped : Int32) (g0_point : Int32) (g0_end : Int32) (g0_begin : Int32) (g0_deep : Int32) (g0_faultAt : Int32) (g0_steps : Int32) (f1 : Nat → Int32) (g0_thrown : Int32) (g0_men : Int32) (g0_dogs : Int32) (f2 : Nat → Int32) (f3 : Nat → Int32) (f4 : Nat → Int32) : va_W := [(a0, .inr (11, [.int g0_thrown, .ref a1, .ref b0_image, .ref b0_before, .int g0_hasImage, .ref b0_taken, .int g0_remembered, .ref b0_tape, .int g0_taped, .int g0_point, .int g0_end, .int g0_begin, .int g0_deep, .int g0_faultAt, .ref b0_five, .int g0_steps, .ref a2, .ref a3, .int g0_men, .int g0_dogs, .ref a4, .ref b0_walk, .ref b0_ends, .ref b0_manX, .ref b0_manY, .ref b0_dogX, .ref b0_dogY, .ref b0_row, .ref b0_round, .ref b0_farOne, .ref b0_leads, .ref b0_drags, .ref b0_from, .ref b0_near])), (a1, .inl (cyI, 2508, .inl f1)), (a2, .inl (cyI, 400, .inl f2)), (a3, .inl (cyI, 900, .inl f3)), (a4, .inl (cyI, 900, .inl f4))]

theorem inX11_forged_X11 : ∀ w ∈ wsX110, w ∈ wsX11_forged := fun _ h => List.mem_cons_of_mem _ (List.mem_append_right _ h)
abbrev rmX11_forged : Room := { frames := 8, cells := 0, slots := 0, locals := 214 }
set_option maxRecDepth 100000 in
set_option maxHeartbeats 4000000 in
theorem ctX11_forged (l : Launch) (dC : Nat → ClassId) (dI : Nat → Nat → Nat) (cyI cyB cyJ cyZ : ClassId) (sz : Nat) (a0 a1 a2 a3 a4 b0_image b0_before b0_taken b0_tape b0_five b0_walk b0_ends b0_manX b0_manY b0_dogX b0_dogY b0_row b0_round b0_farOne b0_leads b0_drags b0_from b0_near : Nat) (g0_hasImage : Int32) (g0_remembered : Int32) (g0_taped : Int32) (g0_point : Int32) (g0_end : Int32) (g0_begin : Int32) (g0_deep : Int32) (g0_faultAt : Int32) (g0_steps : Int32) (f1 : Nat → Int32) (g0_thrown : Int32) (g0_men : Int32) (g0_dogs : Int32) (f2 : Nat → Int32) (f3 : Nat → Int32) (f4 : Nat → Int32) (p0 : Int32) (p1 : Int32) (post : Int32 → (Int32 × Int32 × Int32 × (Nat → Int32) × (Nat → Int32) × (Nat → Int32)) → Prop) (hw : wpX11_forged post f1 g0_thrown g0_men g0_dogs f2 f3 f4 p0 p1) : Met l yX11_forged wsX11_forged rmX11_forged (va_Pc [.ref a0, .int p0, .int p1] (wPre dC dI cyI cyB cyJ cyZ sz (ceX11_forged cyI cyB cyJ cyZ a0 a1 a2 a3 a4 b0_image b0_before b0_taken b0_tape b0_five b0_walk b0_ends b0_manX b0_manY b0_dogX b0_dogY b0_row b0_round b0_farOne b0_leads b0_drags b0_from b0_near g0_hasImage g0_remembered g0_taped g0_point g0_end g0_begin g0_deep g0_faultAt g0_steps f1 g0_thrown g0_men g0_dogs f2 f3 f4))) (va_Qi post (fun u : Int32 × Int32 × Int32 × (Nat → Int32) × (Nat → Int32) × (Nat → Int32) => wAt dC dI cyI cyB cyJ cyZ (va_A (ceX11_forged cyI cyB cyJ cyZ a0 a1 a2 a3 a4 b0_image b0_before b0_taken b0_tape b0_five b0_walk b0_ends b0_manX b0_manY b0_dogX b0_dogY b0_row b0_round b0_farOne b0_leads b0_drags b0_from b0_near g0_hasImage g0_remembered g0_taped g0_point g0_end g0_begin g0_deep g0_faultAt g0_steps f1 g0_thrown g0_men g0_dogs f2 f3 f4) sz) (ceX11_forged cyI cyB cyJ cyZ a0 a1 a2 a3 a4 b0_image b0_before b0_taken b0_tape b0_five b0_walk b0_ends b0_manX b0_manY b0_dogX b0_dogY b0_row b0_round b0_farOne b0_leads b0_drags b0_from b0_near g0_hasImage g0_remembered g0_taped g0_point g0_end g0_begin g0_deep g0_faultAt g0_steps f1 u.1 u.2.1 u.2.2.1 u.2.2.2.1 u.2.2.2.2.1 u.2.2.2.2.2)) (va_A (ceX11_forged cyI cyB cyJ cyZ a0 a1 a2 a3 a4 b0_image b0_before b0_taken b0_tape b0_five b0_walk b0_ends b0_manX b0_manY b0_dogX b0_dogY b0_row b0_round b0_farOne b0_leads b0_drags b0_from b0_near g0_hasImage g0_remembered g0_taped g0_point g0_end g0_begin g0_deep g0_faultAt g0_steps f1 g0_thrown g0_men g0_dogs f2 f3 f4) sz)) 0 0 (va_A (ceX11_forged cyI cyB cyJ cyZ a0 a1 a2 a3 a4 b0_image b0_before b0_taken b0_tape b0_five b0_walk b0_ends b0_manX b0_manY b0_dogX b0_dogY b0_row b0_round b0_farOne b0_leads b0_drags b0_from b0_near g0_hasImage g0_remembered g0_taped g0_point g0_end g0_begin g0_deep g0_faultAt g0_steps f1 g0_thrown g0_men g0_dogs f2 f3 f4) sz) := by
  refine Met.ofW (cc := cX11_forged) (maxL := 5) (ret := (some .boolean)) (by decide) rfl ?_
  intro p e s m args below meth c s₁ B hml hv
  obtain ⟨rfl, hsz, hP, hK, hD0, hN⟩ := hv
  have hx := B.exec
  have hb := B.bytes
  have hr := B.returns
  have hts := atoms_spec (ws := wsX11_forged) B.pre
  have hown : s.vm.findClass RX11 = some m.cls := findClass_of_methodNamed B.named
  have hlocks := B.notSynchronized
  subst hsz
  have hD := hD0.self (sz := s.heap.size)
  generalize hAe : va_A (ceX11_forged cyI cyB cyJ cyZ a0 a1 a2 a3 a4 b0_image b0_before b0_taken b0_tape b0_five b0_walk b0_ends b0_manX b0_manY b0_dogX b0_dogY b0_row b0_round b0_farOne b0_leads b0_drags b0_from b0_near g0_hasImage g0_remembered g0_taped g0_point g0_end g0_begin g0_deep g0_faultAt g0_steps f1 g0_thrown g0_men g0_dogs f2 f3 f4) s.heap.size = A at hD ⊢
  have hA : ∀ q : Nat, s.heap.size ≤ q → A q := fun q h => by rw [← hAe]; exact Or.inr h
  have hS : va_S A s.heap s.heap [] := va_S.rf
  have C0 : cxM p s m meth c _ wsX11_forged RX11 cX11_forged 5 (some .boolean) := ⟨hx, hb, hr, hml, hown, hts, hlocks⟩
  have hl := lv_entry ([.ref a0, .int p0, .int p1]) (n := 5) (Nat.le_of_ble_eq_true rfl)
  rw [lg_entry_eq]
  generalize (lg_sl ([.ref a0, .int p0, .int p1]) ++ List.replicate (5 - (lg_sl ([.ref a0, .int p0, .int p1])).length) Slot.unset).toArray = ls at hl ⊢
  have hl : lv_has ls 5 [(0, .ref a0), (1, .int p0), (2, .int p1)] := hl
  show W p l e rmX11_forged s m _ below meth c _ _ _ _ _ _
  refine wq (fun Q hQ => ?_)
  refine lv_aload_n hx hb dX11_forged_0 rfl (lv_at hl 0 rfl) ?_
  refine lv_iconst (v := 0) hx hb dX11_forged_1 (by decide) ?_
  refine va_put (D := (dC, dI)) (ci := 11) (v := .int 0) (ty := .int) (C := RX11) (T := TX11) (N := 34) hx hb hts inX11_forged_X11 tyX11 tyX11_ok nmX11 hown hK hP hD hS 0 rfl rfl 0 (by decide) (hts (.fieldLink RX11 3 "LeadParkModel" "thrown" "I") (List.mem_of_getElem? (i := 1) rfl)) (fun _ h9 => h9) rfl (by decide +kernel) rfl rfl (Nat.le_of_ble_eq_true rfl) dX11_forged_2 (fun H locs hP hD hS => ?_)
  have hP : va_P (dC, dI) vwCl (ceX11_forged cyI cyB cyJ cyZ a0 a1 a2 a3 a4 b0_image b0_before b0_taken b0_tape b0_five b0_walk b0_ends b0_manX b0_manY b0_dogX b0_dogY b0_row b0_round b0_farOne b0_leads b0_drags b0_from b0_near g0_hasImage g0_remembered g0_taped g0_point g0_end g0_begin g0_deep g0_faultAt g0_steps f1 0 g0_men g0_dogs f2 f3 f4) H := hP
  have hD : va_D A (ceX11_forged cyI cyB cyJ cyZ a0 a1 a2 a3 a4 b0_image b0_before b0_taken b0_tape b0_five b0_walk b0_ends b0_manX b0_manY b0_dogX b0_dogY b0_row b0_round b0_farOne b0_leads b0_drags b0_from b0_near g0_hasImage g0_remembered g0_taped g0_point g0_end g0_begin g0_deep g0_faultAt g0_steps f1 0 g0_men g0_dogs f2 f3 f4) := hD
  refine lv_aload_n hx hb dX11_forged_5 rfl (lv_at hl 0 rfl) ?_
  refine lv_aload_n hx hb dX11_forged_6 rfl (lv_at hl 0 rfl) ?_
  refine lv_iload_n hx hb dX11_forged_7 rfl (lv_at hl 1 rfl) ?_
  have hPc := hP.sub (ws' := (ceX11_noWay cyI cyB cyJ cyZ a0 a1 b0_image b0_before b0_taken b0_tape b0_five a2 a3 a4 b0_walk b0_ends b0_manX b0_manY b0_dogX b0_dogY b0_row b0_round b0_farOne b0_leads b0_drags b0_from b0_near 0 g0_hasImage g0_remembered g0_taped g0_point g0_end g0_begin g0_deep g0_faultAt g0_steps g0_men g0_dogs f1)) [0, 1] rfl
  have hDc := hD.sub (ws' := (ceX11_noWay cyI cyB cyJ cyZ a0 a1 b0_image b0_before b0_taken b0_tape b0_five a2 a3 a4 b0_walk b0_ends b0_manX b0_manY b0_dogX b0_dogY b0_row b0_round b0_farOne b0_leads b0_drags b0_from b0_near 0 g0_hasImage g0_remembered g0_taped g0_point g0_end g0_begin g0_deep g0_faultAt g0_steps g0_men g0_dogs f1)) [0, 1] (by decide) rfl
  have hFc := va_free (wc := (ceX11_noWay cyI cyB cyJ cyZ a0 a1 b0_image b0_before b0_taken b0_tape b0_five a2 a3 a4 b0_walk b0_ends b0_manX b0_manY b0_dogX b0_dogY b0_row b0_round b0_farOne b0_leads b0_drags b0_from b0_near 0 g0_hasImage g0_remembered g0_taped g0_point g0_end g0_begin g0_deep g0_faultAt g0_steps g0_men g0_dogs f1)) hD hS hA [0, 1] rfl
  refine va_calli (va_runV (As := [.int p0]) (rest := [.ref a0]) ⟨hx, hb, hml, hown, hts⟩ (ctX11_noWay l dC dI cyI cyB cyJ cyZ _ a0 a1 b0_image b0_before b0_taken b0_tape b0_five a2 a3 a4 b0_walk b0_ends b0_manX b0_manY b0_dogX b0_dogY b0_row b0_round b0_farOne b0_leads b0_drags b0_from b0_near 0 g0_hasImage g0_remembered g0_taped g0_point g0_end g0_begin g0_deep g0_faultAt g0_steps g0_men g0_dogs f1 p0 _ hw) (cwV 1 hts gX11_forged_X11_noWay rfl rfl rfl (by decide +kernel) ⟨Nat.le_of_ble_eq_true rfl, Nat.le_of_ble_eq_true rfl⟩) ⟨wPre_blind, va_recv hK hPc (ci := 11) (q0 := 0) rfl rfl, fun U hU hW => wPre_of hPc hK hDc hN hU hW⟩ rfl rfl hl.1 rfl (lv_room (Nat.le_of_ble_eq_true rfl)) dX11_forged_8 ⟨(Nat.zero_le _), (Nat.zero_le _)⟩) hS (fun q _ h => hFc q h) hFc (fun r2 u1 t H1 locs ht hvm hw hB hz1 hk1 hS => ?_)
  obtain ⟨hP1, hK1, hD1⟩ := hB
  rw [ht] at hP1
  obtain ⟨hP, hD⟩ := va_join (wr := pickW (ceX11_forged cyI cyB cyJ cyZ a0 a1 a2 a3 a4 b0_image b0_before b0_taken b0_tape b0_five b0_walk b0_ends b0_manX b0_manY b0_dogX b0_dogY b0_row b0_round b0_farOne b0_leads b0_drags b0_from b0_near g0_hasImage g0_remembered g0_taped g0_point g0_end g0_begin g0_deep g0_faultAt g0_steps f1 0 g0_men g0_dogs f2 f3 f4) [2, 3, 4]) (w1 := (ceX11_noWay cyI cyB cyJ cyZ a0 a1 b0_image b0_before b0_taken b0_tape b0_five a2 a3 a4 b0_walk b0_ends b0_manX b0_manY b0_dogX b0_dogY b0_row b0_round b0_farOne b0_leads b0_drags b0_from b0_near 0 g0_hasImage g0_remembered g0_taped g0_point g0_end g0_begin g0_deep g0_faultAt g0_steps g0_men g0_dogs f1)) hP hD [0, 1] [2, 3, 4] rfl rfl (by decide) (by decide) hk1 hFc hP1 hD1
  have hP := hP.sub (ws' := (ceX11_forged cyI cyB cyJ cyZ a0 a1 a2 a3 a4 b0_image b0_before b0_taken b0_tape b0_five b0_walk b0_ends b0_manX b0_manY b0_dogX b0_dogY b0_row b0_round b0_farOne b0_leads b0_drags b0_from b0_near g0_hasImage g0_remembered g0_taped g0_point g0_end g0_begin g0_deep g0_faultAt g0_steps f1 0 g0_men g0_dogs f2 f3 f4)) [3, 4, 0, 1, 2] rfl
  have hD := hD.sub (ws' := (ceX11_forged cyI cyB cyJ cyZ a0 a1 a2 a3 a4 b0_image b0_before b0_taken b0_tape b0_five b0_walk b0_ends b0_manX b0_manY b0_dogX b0_dogY b0_row b0_round b0_farOne b0_leads b0_drags b0_from b0_near g0_hasImage g0_remembered g0_taped g0_point g0_end g0_begin g0_deep g0_faultAt g0_steps f1 0 g0_men g0_dogs f2 f3 f4)) [3, 4, 0, 1, 2] (by decide) rfl
  generalize H1 = H at hP hS ⊢
  refine lv_iconst (v := 1) hx hb dX11_forged_11 (by decide) ?_
  have hPc := hP.sub (ws' := (ceX11_throwsIf cyI cyB cyJ cyZ a0 a1 b0_image b0_before b0_taken b0_tape b0_five a2 a3 a4 b0_walk b0_ends b0_manX b0_manY b0_dogX b0_dogY b0_row b0_round b0_farOne b0_leads b0_drags b0_from b0_near g0_hasImage g0_remembered g0_taped g0_point g0_end g0_begin g0_deep g0_faultAt g0_steps g0_men g0_dogs 0)) [0] rfl
  have hDc := hD.sub (ws' := (ceX11_throwsIf cyI cyB cyJ cyZ a0 a1 b0_image b0_before b0_taken b0_tape b0_five a2 a3 a4 b0_walk b0_ends b0_manX b0_manY b0_dogX b0_dogY b0_row b0_round b0_farOne b0_leads b0_drags b0_from b0_near g0_hasImage g0_remembered g0_taped g0_point g0_end g0_begin g0_deep g0_faultAt g0_steps g0_men g0_dogs 0)) [0] (by decide) rfl
  have hFc := va_free (wc := (ceX11_throwsIf cyI cyB cyJ cyZ a0 a1 b0_image b0_before b0_taken b0_tape b0_five a2 a3 a4 b0_walk b0_ends b0_manX b0_manY b0_dogX b0_dogY b0_row b0_round b0_farOne b0_leads b0_drags b0_from b0_near g0_hasImage g0_remembered g0_taped g0_point g0_end g0_begin g0_deep g0_faultAt g0_steps g0_men g0_dogs 0)) hD hS hA [0] rfl
  refine va_calli (va_runV (As := [.int r2, .int 1]) (rest := []) ⟨hx, hb, hml, hown, hts⟩ (ctX11_throwsIf l dC dI cyI cyB cyJ cyZ _ a0 a1 b0_image b0_before b0_taken b0_tape b0_five a2 a3 a4 b0_walk b0_ends b0_manX b0_manY b0_dogX b0_dogY b0_row b0_round b0_farOne b0_leads b0_drags b0_from b0_near g0_hasImage g0_remembered g0_taped g0_point g0_end g0_begin g0_deep g0_faultAt g0_steps g0_men g0_dogs 0 r2 1 _ hw) (cwV 2 hts gX11_forged_X11_throwsIf rfl rfl rfl (by decide +kernel) ⟨Nat.le_of_ble_eq_true rfl, Nat.le_of_ble_eq_true rfl⟩) ⟨wPre_blind, va_recv hK hPc (ci := 11) (q0 := 0) rfl rfl, fun U hU hW => wPre_of hPc hK hDc hN hU hW⟩ rfl rfl hl.1 rfl (lv_room (Nat.le_of_ble_eq_true rfl)) dX11_forged_12 ⟨(Nat.zero_le _), (Nat.zero_le _)⟩) hS (fun q _ h => hFc q h) hFc (fun r4 u3 t H1 locs ht hvm hw hB hz1 hk1 hS => ?_)
  obtain ⟨hP1, hK1, hD1⟩ := hB
  rw [ht] at hP1
  obtain ⟨hP, hD⟩ := va_join (wr := pickW (ceX11_forged cyI cyB cyJ cyZ a0 a1 a2 a3 a4 b0_image b0_before b0_taken b0_tape b0_five b0_walk b0_ends b0_manX b0_manY b0_dogX b0_dogY b0_row b0_round b0_farOne b0_leads b0_drags b0_from b0_near g0_hasImage g0_remembered g0_taped g0_point g0_end g0_begin g0_deep g0_faultAt g0_steps f1 0 g0_men g0_dogs f2 f3 f4) [1, 2, 3, 4]) (w1 := (ceX11_throwsIf cyI cyB cyJ cyZ a0 a1 b0_image b0_before b0_taken b0_tape b0_five a2 a3 a4 b0_walk b0_ends b0_manX b0_manY b0_dogX b0_dogY b0_row b0_round b0_farOne b0_leads b0_drags b0_from b0_near g0_hasImage g0_remembered g0_taped g0_point g0_end g0_begin g0_deep g0_faultAt g0_steps g0_men g0_dogs u3)) hP hD [0] [1, 2, 3, 4] rfl rfl (by decide) (by decide) hk1 hFc hP1 hD1
  have hP := hP.sub (ws' := (ceX11_forged cyI cyB cyJ cyZ a0 a1 a2 a3 a4 b0_image b0_before b0_taken b0_tape b0_five b0_walk b0_ends b0_manX b0_manY b0_dogX b0_dogY b0_row b0_round b0_farOne b0_leads b0_drags b0_from b0_near g0_hasImage g0_remembered g0_taped g0_point g0_end g0_begin g0_deep g0_faultAt g0_steps f1 u3 g0_men g0_dogs f2 f3 f4)) [4, 0, 1, 2, 3] rfl
  have hD := hD.sub (ws' := (ceX11_forged cyI cyB cyJ cyZ a0 a1 a2 a3 a4 b0_image b0_before b0_taken b0_tape b0_five b0_walk b0_ends b0_manX b0_manY b0_dogX b0_dogY b0_row b0_round b0_farOne b0_leads b0_drags b0_from b0_near g0_hasImage g0_remembered g0_taped g0_point g0_end g0_begin g0_deep g0_faultAt g0_steps f1 u3 g0_men g0_dogs f2 f3 f4)) [4, 0, 1, 2, 3] (by decide) rfl
  generalize H1 = H at hP hS ⊢
  refine lv_if_eq (tgt := 20) hx hb dX11_forged_15 (by decide) (fun hc => ?_) (fun hc => ?_)
  · have hw := hw.1 hc
    refine lv_aload_n hx hb dX11_forged_20 rfl (lv_at hl 0 rfl) ?_
    refine lv_iload_n hx hb dX11_forged_21 rfl (lv_at hl 1 rfl) ?_
    refine lv_iload_n hx hb dX11_forged_22 rfl (lv_at hl 2 rfl) ?_
    have hPc := hP.sub (ws' := (ceX11_nearestOf cyI cyB cyJ cyZ a0 a1 a2 a3 a4 b0_image b0_before b0_taken b0_tape b0_five b0_walk b0_ends b0_manX b0_manY b0_dogX b0_dogY b0_row b0_round b0_farOne b0_leads b0_drags b0_from b0_near u3 g0_hasImage g0_remembered g0_taped g0_point g0_end g0_begin g0_deep g0_faultAt g0_steps f1 g0_men g0_dogs f2 f3 f4)) [0, 1, 2, 3, 4] rfl
    have hDc := hD.sub (ws' := (ceX11_nearestOf cyI cyB cyJ cyZ a0 a1 a2 a3 a4 b0_image b0_before b0_taken b0_tape b0_five b0_walk b0_ends b0_manX b0_manY b0_dogX b0_dogY b0_row b0_round b0_farOne b0_leads b0_drags b0_from b0_near u3 g0_hasImage g0_remembered g0_taped g0_point g0_end g0_begin g0_deep g0_faultAt g0_steps f1 g0_men g0_dogs f2 f3 f4)) [0, 1, 2, 3, 4] (by decide) rfl
    have hFc := va_free (wc := (ceX11_nearestOf cyI cyB cyJ cyZ a0 a1 a2 a3 a4 b0_image b0_before b0_taken b0_tape b0_five b0_walk b0_ends b0_manX b0_manY b0_dogX b0_dogY b0_row b0_round b0_farOne b0_leads b0_drags b0_from b0_near u3 g0_hasImage g0_remembered g0_taped g0_point g0_end g0_begin g0_deep g0_faultAt g0_steps f1 g0_men g0_dogs f2 f3 f4)) hD hS hA [0, 1, 2, 3, 4] rfl
    refine va_calli (va_runV (As := [.int p0, .int p1]) (rest := []) ⟨hx, hb, hml, hown, hts⟩ (ctX11_nearestOf l dC dI cyI cyB cyJ cyZ _ a0 a1 a2 a3 a4 b0_image b0_before b0_taken b0_tape b0_five b0_walk b0_ends b0_manX b0_manY b0_dogX b0_dogY b0_row b0_round b0_farOne b0_leads b0_drags b0_from b0_near u3 g0_hasImage g0_remembered g0_taped g0_point g0_end g0_begin g0_deep g0_faultAt g0_steps f1 g0_men g0_dogs f2 f3 f4 p0 p1 _ hw) (cwV 2 hts gX11_forged_X11_nearestOf rfl rfl rfl (by decide +kernel) ⟨Nat.le_of_ble_eq_true rfl, Nat.le_of_ble_eq_true rfl⟩) ⟨wPre_blind, va_recv hK hPc (ci := 11) (q0 := 0) rfl rfl, fun U hU hW => wPre_of hPc hK hDc hN hU hW⟩ rfl rfl hl.1 rfl (lv_room (Nat.le_of_ble_eq_true rfl)) dX11_forged_23 ⟨(Nat.zero_le _), (Nat.zero_le _)⟩) hS (fun q _ h => hFc q h) hFc (fun r6 u5 t H1 locs ht hvm hw hB hz1 hk1 hS => ?_)
    obtain ⟨hP1, hK1, hD1⟩ := hB
    rw [ht] at hP1
    obtain ⟨hP, hD⟩ := va_join (wr := pickW (ceX11_forged cyI cyB cyJ cyZ a0 a1 a2 a3 a4 b0_image b0_before b0_taken b0_tape b0_five b0_walk b0_ends b0_manX b0_manY b0_dogX b0_dogY b0_row b0_round b0_farOne b0_leads b0_drags b0_from b0_near g0_hasImage g0_remembered g0_taped g0_point g0_end g0_begin g0_deep g0_faultAt g0_steps f1 u3 g0_men g0_dogs f2 f3 f4) []) (w1 := (ceX11_nearestOf cyI cyB cyJ cyZ a0 a1 a2 a3 a4 b0_image b0_before b0_taken b0_tape b0_five b0_walk b0_ends b0_manX b0_manY b0_dogX b0_dogY b0_row b0_round b0_farOne b0_leads b0_drags b0_from b0_near u3 g0_hasImage g0_remembered g0_taped g0_point g0_end g0_begin g0_deep g0_faultAt g0_steps f1 u5.1 u5.2.1 u5.2.2.1 u5.2.2.2.1 u5.2.2.2.2)) hP hD [0, 1, 2, 3, 4] [] rfl rfl (by decide) (by decide) hk1 hFc hP1 hD1
    have hP := hP.sub (ws' := (ceX11_forged cyI cyB cyJ cyZ a0 a1 a2 a3 a4 b0_image b0_before b0_taken b0_tape b0_five b0_walk b0_ends b0_manX b0_manY b0_dogX b0_dogY b0_row b0_round b0_farOne b0_leads b0_drags b0_from b0_near g0_hasImage g0_remembered g0_taped g0_point g0_end g0_begin g0_deep g0_faultAt g0_steps f1 u3 u5.1 u5.2.1 u5.2.2.1 u5.2.2.2.1 u5.2.2.2.2)) [0, 1, 2, 3, 4] rfl
    have hD := hD.sub (ws' := (ceX11_forged cyI cyB cyJ cyZ a0 a1 a2 a3 a4 b0_image b0_before b0_taken b0_tape b0_five b0_walk b0_ends b0_manX b0_manY b0_dogX b0_dogY b0_row b0_round b0_farOne b0_leads b0_drags b0_from b0_near g0_hasImage g0_remembered g0_taped g0_point g0_end g0_begin g0_deep g0_faultAt g0_steps f1 u3 u5.1 u5.2.1 u5.2.2.1 u5.2.2.2.1 u5.2.2.2.2)) [0, 1, 2, 3, 4] (by decide) rfl
    generalize H1 = H at hP hS ⊢
    refine lv_istore_n (lv' := [(3, .int r6), (0, .ref a0), (1, .int p0), (2, .int p1)]) hx hb dX11_forged_26 rfl hl (by decide) rfl (fun ls hl => ?_)
    refine lv_aload_n hx hb dX11_forged_27 rfl (lv_at hl 1 rfl) ?_
    refine lv_iload_n hx hb dX11_forged_28 rfl (lv_at hl 3 rfl) ?_
    have hPc := hP.sub (ws' := (ceX11_ownOf cyI cyB cyJ cyZ a0 a1 a2 a3 a4 b0_image b0_before b0_taken b0_tape b0_five b0_walk b0_ends b0_manX b0_manY b0_dogX b0_dogY b0_row b0_round b0_farOne b0_leads b0_drags b0_from b0_near u3 g0_hasImage g0_remembered g0_taped g0_point g0_end g0_begin g0_deep g0_faultAt g0_steps f1 u5.1 u5.2.1 u5.2.2.1 u5.2.2.2.1 u5.2.2.2.2)) [0, 1, 2, 3, 4] rfl
    have hDc := hD.sub (ws' := (ceX11_ownOf cyI cyB cyJ cyZ a0 a1 a2 a3 a4 b0_image b0_before b0_taken b0_tape b0_five b0_walk b0_ends b0_manX b0_manY b0_dogX b0_dogY b0_row b0_round b0_farOne b0_leads b0_drags b0_from b0_near u3 g0_hasImage g0_remembered g0_taped g0_point g0_end g0_begin g0_deep g0_faultAt g0_steps f1 u5.1 u5.2.1 u5.2.2.1 u5.2.2.2.1 u5.2.2.2.2)) [0, 1, 2, 3, 4] (by decide) rfl
    have hFc := va_free (wc := (ceX11_ownOf cyI cyB cyJ cyZ a0 a1 a2 a3 a4 b0_image b0_before b0_taken b0_tape b0_five b0_walk b0_ends b0_manX b0_manY b0_dogX b0_dogY b0_row b0_round b0_farOne b0_leads b0_drags b0_from b0_near u3 g0_hasImage g0_remembered g0_taped g0_point g0_end g0_begin g0_deep g0_faultAt g0_steps f1 u5.1 u5.2.1 u5.2.2.1 u5.2.2.2.1 u5.2.2.2.2)) hD hS hA [0, 1, 2, 3, 4] rfl
    refine va_calli (va_runV (As := [.int p1]) (rest := []) ⟨hx, hb, hml, hown, hts⟩ (ctX11_ownOf l dC dI cyI cyB cyJ cyZ _ a0 a1 a2 a3 a4 b0_image b0_before b0_taken b0_tape b0_five b0_walk b0_ends b0_manX b0_manY b0_dogX b0_dogY b0_row b0_round b0_farOne b0_leads b0_drags b0_from b0_near u3 g0_hasImage g0_remembered g0_taped g0_point g0_end g0_begin g0_deep g0_faultAt g0_steps f1 u5.1 u5.2.1 u5.2.2.1 u5.2.2.2.1 u5.2.2.2.2 p1 _ hw) (cwV 1 hts gX11_forged_X11_ownOf rfl rfl rfl (by decide +kernel) ⟨Nat.le_of_ble_eq_true rfl, Nat.le_of_ble_eq_true rfl⟩) ⟨wPre_blind, va_recv hK hPc (ci := 11) (q0 := 0) rfl rfl, fun U hU hW => wPre_of hPc hK hDc hN hU hW⟩ rfl rfl hl.1 rfl (lv_room (Nat.le_of_ble_eq_true rfl)) dX11_forged_29 ⟨(Nat.zero_le _), (Nat.zero_le _)⟩) hS (fun q _ h => hFc q h) hFc (fun r8 u7 t H1 locs ht hvm hw hB hz1 hk1 hS => ?_)
    obtain ⟨hP1, hK1, hD1⟩ := hB
    rw [ht] at hP1
    obtain ⟨hP, hD⟩ := va_join (wr := pickW (ceX11_forged cyI cyB cyJ cyZ a0 a1 a2 a3 a4 b0_image b0_before b0_taken b0_tape b0_five b0_walk b0_ends b0_manX b0_manY b0_dogX b0_dogY b0_row b0_round b0_farOne b0_leads b0_drags b0_from b0_near g0_hasImage g0_remembered g0_taped g0_point g0_end g0_begin g0_deep g0_faultAt g0_steps f1 u3 u5.1 u5.2.1 u5.2.2.1 u5.2.2.2.1 u5.2.2.2.2) []) (w1 := (ceX11_ownOf cyI cyB cyJ cyZ a0 a1 a2 a3 a4 b0_image b0_before b0_taken b0_tape b0_five b0_walk b0_ends b0_manX b0_manY b0_dogX b0_dogY b0_row b0_round b0_farOne b0_leads b0_drags b0_from b0_near u3 g0_hasImage g0_remembered g0_taped g0_point g0_end g0_begin g0_deep g0_faultAt g0_steps f1 u7.1 u7.2.1 u7.2.2.1 u7.2.2.2.1 u7.2.2.2.2)) hP hD [0, 1, 2, 3, 4] [] rfl rfl (by decide) (by decide) hk1 hFc hP1 hD1
    have hP := hP.sub (ws' := (ceX11_forged cyI cyB cyJ cyZ a0 a1 a2 a3 a4 b0_image b0_before b0_taken b0_tape b0_five b0_walk b0_ends b0_manX b0_manY b0_dogX b0_dogY b0_row b0_round b0_farOne b0_leads b0_drags b0_from b0_near g0_hasImage g0_remembered g0_taped g0_point g0_end g0_begin g0_deep g0_faultAt g0_steps f1 u3 u7.1 u7.2.1 u7.2.2.1 u7.2.2.2.1 u7.2.2.2.2)) [0, 1, 2, 3, 4] rfl
    have hD := hD.sub (ws' := (ceX11_forged cyI cyB cyJ cyZ a0 a1 a2 a3 a4 b0_image b0_before b0_taken b0_tape b0_five b0_walk b0_ends b0_manX b0_manY b0_dogX b0_dogY b0_row b0_round b0_farOne b0_leads b0_drags b0_from b0_near g0_hasImage g0_remembered g0_taped g0_point g0_end g0_begin g0_deep g0_faultAt g0_steps f1 u3 u7.1 u7.2.1 u7.2.2.1 u7.2.2.2.1 u7.2.2.2.2)) [0, 1, 2, 3, 4] (by decide) rfl
    generalize H1 = H at hP hS ⊢
    refine lv_istore (lv' := [(4, .int r8), (3, .int r6), (0, .ref a0), (1, .int p0), (2, .int p1)]) hx hb dX11_forged_32 hl (by decide) rfl (fun ls hl => ?_)
    refine lv_iload_n hx hb dX11_forged_34 rfl (lv_at hl 1 rfl) ?_
    refine lv_if_lt (tgt := 54) hx hb dX11_forged_35 (by decide) (fun hc => ?_) (fun hc => ?_)
    · have hw := hw.1 hc
      refine lv_iconst (v := 1) hx hb dX11_forged_54 (by decide) ?_
      refine lv_goto (tgt := 59) hx hb dX11_forged_55 (by decide) ?_
      rw [hQ]
      exact W.zret (v := 1) (ty := .boolean) hx hb hr rfl (fun t ht hW => ⟨⟨1, (u3, u7.1, u7.2.1, u7.2.2.1, u7.2.2.2.1, u7.2.2.2.2), rfl, hw, by rw [ht]; exact hP, va_K.moved hW.alike hK, hD⟩, hS.F ht⟩) hS.2.2 dX11_forged_59
    · have hw := hw.2 hc
      refine lv_iload hx hb dX11_forged_38 (lv_at hl 0 rfl) ?_
      refine lv_if_lt (tgt := 54) hx hb dX11_forged_40 (by decide) (fun hc => ?_) (fun hc => ?_)
      · have hw := hw.1 hc
        refine lv_iconst (v := 1) hx hb dX11_forged_54 (by decide) ?_
        refine lv_goto (tgt := 59) hx hb dX11_forged_55 (by decide) ?_
        rw [hQ]
        exact W.zret (v := 1) (ty := .boolean) hx hb hr rfl (fun t ht hW => ⟨⟨1, (u3, u7.1, u7.2.1, u7.2.2.1, u7.2.2.2.1, u7.2.2.2.2), rfl, hw, by rw [ht]; exact hP, va_K.moved hW.alike hK, hD⟩, hS.F ht⟩) hS.2.2 dX11_forged_59
      · have hw := hw.2 hc
        refine lv_aload_n hx hb dX11_forged_43 rfl (lv_at hl 2 rfl) ?_
        refine lv_iload_n hx hb dX11_forged_44 rfl (lv_at hl 3 rfl) ?_
        refine lv_iload_n hx hb dX11_forged_45 rfl (lv_at hl 1 rfl) ?_
        have hPc := hP.sub (ws' := (ceX11_leastOf cyI cyB cyJ cyZ a0 a1 a2 a3 a4 b0_image b0_before b0_taken b0_tape b0_five b0_walk b0_ends b0_manX b0_manY b0_dogX b0_dogY b0_row b0_round b0_farOne b0_leads b0_drags b0_from b0_near u3 g0_hasImage g0_remembered g0_taped g0_point g0_end g0_begin g0_deep g0_faultAt g0_steps f1 u7.1 u7.2.1 u7.2.2.1 u7.2.2.2.1 u7.2.2.2.2)) [0, 1, 2, 3, 4] rfl
        have hDc := hD.sub (ws' := (ceX11_leastOf cyI cyB cyJ cyZ a0 a1 a2 a3 a4 b0_image b0_before b0_taken b0_tape b0_five b0_walk b0_ends b0_manX b0_manY b0_dogX b0_dogY b0_row b0_round b0_farOne b0_leads b0_drags b0_from b0_near u3 g0_hasImage g0_remembered g0_taped g0_point g0_end g0_begin g0_deep g0_faultAt g0_steps f1 u7.1 u7.2.1 u7.2.2.1 u7.2.2.2.1 u7.2.2.2.2)) [0, 1, 2, 3, 4] (by decide) rfl
        have hFc := va_free (wc := (ceX11_leastOf cyI cyB cyJ cyZ a0 a1 a2 a3 a4 b0_image b0_before b0_taken b0_tape b0_five b0_walk b0_ends b0_manX b0_manY b0_dogX b0_dogY b0_row b0_round b0_farOne b0_leads b0_drags b0_from b0_near u3 g0_hasImage g0_remembered g0_taped g0_point g0_end g0_begin g0_deep g0_faultAt g0_steps f1 u7.1 u7.2.1 u7.2.2.1 u7.2.2.2.1 u7.2.2.2.2)) hD hS hA [0, 1, 2, 3, 4] rfl
        refine va_calli (va_runV (As := [.int p0, .int r6]) (rest := []) ⟨hx, hb, hml, hown, hts⟩ (ctX11_leastOf l dC dI cyI cyB cyJ cyZ _ a0 a1 a2 a3 a4 b0_image b0_before b0_taken b0_tape b0_five b0_walk b0_ends b0_manX b0_manY b0_dogX b0_dogY b0_row b0_round b0_farOne b0_leads b0_drags b0_from b0_near u3 g0_hasImage g0_remembered g0_taped g0_point g0_end g0_begin g0_deep g0_faultAt g0_steps f1 u7.1 u7.2.1 u7.2.2.1 u7.2.2.2.1 u7.2.2.2.2 p0 r6 _ hw) (cwV 2 hts gX11_forged_X11_leastOf rfl rfl rfl (by decide +kernel) ⟨Nat.le_of_ble_eq_true rfl, Nat.le_of_ble_eq_true rfl⟩) ⟨wPre_blind, va_recv hK hPc (ci := 11) (q0 := 0) rfl rfl, fun U hU hW => wPre_of hPc hK hDc hN hU hW⟩ rfl rfl hl.1 rfl (lv_room (Nat.le_of_ble_eq_true rfl)) dX11_forged_46 ⟨(Nat.zero_le _), (Nat.zero_le _)⟩) hS (fun q _ h => hFc q h) hFc (fun r10 u9 t H1 locs ht hvm hw hB hz1 hk1 hS => ?_)
        obtain ⟨hP1, hK1, hD1⟩ := hB
        rw [ht] at hP1
        obtain ⟨hP, hD⟩ := va_join (wr := pickW (ceX11_forged cyI cyB cyJ cyZ a0 a1 a2 a3 a4 b0_image b0_before b0_taken b0_tape b0_five b0_walk b0_ends b0_manX b0_manY b0_dogX b0_dogY b0_row b0_round b0_farOne b0_leads b0_drags b0_from b0_near g0_hasImage g0_remembered g0_taped g0_point g0_end g0_begin g0_deep g0_faultAt g0_steps f1 u3 u7.1 u7.2.1 u7.2.2.1 u7.2.2.2.1 u7.2.2.2.2) []) (w1 := (ceX11_leastOf cyI cyB cyJ cyZ a0 a1 a2 a3 a4 b0_image b0_before b0_taken b0_tape b0_five b0_walk b0_ends b0_manX b0_manY b0_dogX b0_dogY b0_row b0_round b0_farOne b0_leads b0_drags b0_from b0_near u3 g0_hasImage g0_remembered g0_taped g0_point g0_end g0_begin g0_deep g0_faultAt g0_steps f1 u9.1 u9.2.1 u9.2.2.1 u9.2.2.2.1 u9.2.2.2.2)) hP hD [0, 1, 2, 3, 4] [] rfl rfl (by decide) (by decide) hk1 hFc hP1 hD1
        have hP := hP.sub (ws' := (ceX11_forged cyI cyB cyJ cyZ a0 a1 a2 a3 a4 b0_image b0_before b0_taken b0_tape b0_five b0_walk b0_ends b0_manX b0_manY b0_dogX b0_dogY b0_row b0_round b0_farOne b0_leads b0_drags b0_from b0_near g0_hasImage g0_remembered g0_taped g0_point g0_end g0_begin g0_deep g0_faultAt g0_steps f1 u3 u9.1 u9.2.1 u9.2.2.1 u9.2.2.2.1 u9.2.2.2.2)) [0, 1, 2, 3, 4] rfl
        have hD := hD.sub (ws' := (ceX11_forged cyI cyB cyJ cyZ a0 a1 a2 a3 a4 b0_image b0_before b0_taken b0_tape b0_five b0_walk b0_ends b0_manX b0_manY b0_dogX b0_dogY b0_row b0_round b0_farOne b0_leads b0_drags b0_from b0_near g0_hasImage g0_remembered g0_taped g0_point g0_end g0_begin g0_deep g0_faultAt g0_steps f1 u3 u9.1 u9.2.1 u9.2.2.1 u9.2.2.2.1 u9.2.2.2.2)) [0, 1, 2, 3, 4] (by decide) rfl
        generalize H1 = H at hP hS ⊢
        refine lv_iload hx hb dX11_forged_49 (lv_at hl 0 rfl) ?_
        refine lv_icmp_le (tgt := 58) hx hb dX11_forged_51 (by decide) (fun hc => ?_) (fun hc => ?_)
        · have hw := hw.1 hc
          refine lv_iconst (v := 0) hx hb dX11_forged_58 (by decide) ?_
          rw [hQ]
          exact W.zret (v := 0) (ty := .boolean) hx hb hr rfl (fun t ht hW => ⟨⟨0, (u3, u9.1, u9.2.1, u9.2.2.1, u9.2.2.2.1, u9.2.2.2.2), rfl, hw, by rw [ht]; exact hP, va_K.moved hW.alike hK, hD⟩, hS.F ht⟩) hS.2.2 dX11_forged_59
        · have hw := hw.2 hc
          refine lv_iconst (v := 1) hx hb dX11_forged_54 (by decide) ?_
          refine lv_goto (tgt := 59) hx hb dX11_forged_55 (by decide) ?_
          rw [hQ]
          exact W.zret (v := 1) (ty := .boolean) hx hb hr rfl (fun t ht hW => ⟨⟨1, (u3, u9.1, u9.2.1, u9.2.2.1, u9.2.2.2.1, u9.2.2.2.2), rfl, hw, by rw [ht]; exact hP, va_K.moved hW.alike hK, hD⟩, hS.F ht⟩) hS.2.2 dX11_forged_59
  · have hw := hw.2 hc
    refine lv_iconst (v := 0) hx hb dX11_forged_18 (by decide) ?_
    rw [hQ]
    exact W.zret (v := 0) (ty := .boolean) hx hb hr rfl (fun t ht hW => ⟨⟨0, (u3, g0_men, g0_dogs, f2, f3, f4), rfl, hw, by rw [ht]; exact hP, va_K.moved hW.alike hK, hD⟩, hS.F ht⟩) hS.2.2 dX11_forged_19
/-! LeadParkModel.mark (ZIII)I -/
abbrev ceX11_mark (cyI cyB cyJ cyZ : ClassId) (a0 a1 b0_image b0_before b0_taken b0_tape b0_five b0_value b0_far b0_lead b0_walk b0_ends b0_manX b0_manY b0_dogX b0_dogY b0_row b0_round b0_farOne b0_leads b0_drags b0_from b0_near : Nat) (g0_hasImage : Int32) (g0_remembered : Int32) (g0_taped : Int32) (g0_point : Int32) (g0_end : Int32) (g0_begin : Int32) (g0_deep : Int32) (g0_faultAt : Int32) (g0_steps : Int32) (g0_men : Int32) (g0_dogs : Int32) (g0_thrown : Int32) (f1 : Nat → Int32) : va_W := [(a0, .inr (11, [.int g0_thrown, .ref a1, .ref b0_image, .ref b0_before, .int g0_hasImage, .ref b0_taken, .int g0_remembered, .ref b0_tape, .int g0_taped, .int g0_point, .int g0_end, .int g0_begin, .int g0_deep, .int g0_faultAt, .ref b0_five, .int g0_steps, .ref b0_value, .ref b0_far, .int g0_men, .int g0_dogs, .ref b0_lead, .ref b0_walk, .ref b0_ends, .ref b0_manX, .ref b0_manY, .ref b0_dogX, .ref b0_dogY, .ref b0_row, .ref b0_round, .ref b0_farOne, .ref b0_leads, .ref b0_drags, .ref b0_from, .ref b0_near])), (a1, .inl (cyI, 2508, .inl f1))]

theorem inX11_mark_X11 : ∀ w ∈ wsX110, w ∈ wsX11_mark := fun _ h => List.mem_cons_of_mem _ (List.mem_append_right _ h)
abbrev rmX11_mark : Room := { frames := 1, cells := 0, slots := 0, locals := 22 }
set_option maxRecDepth 100000 in
set_option maxHeartbeats 4000000 in
theorem bX11_mark_107 {p : Program} {l : Launch} {e : Env} {s : State} {m : MethodId} {args : Array Value} {below : List Frame} {meth : Method} {c : Code} {dC : Nat → ClassId} {dI : Nat → Nat → Nat} {cyI cyB cyJ cyZ : ClassId} {A : Nat → Prop} {a0 a1 b0_image b0_before b0_taken b0_tape b0_five b0_value b0_far b0_lead b0_walk b0_ends b0_manX b0_manY b0_dogX b0_dogY b0_row b0_round b0_farOne b0_leads b0_drags b0_from b0_near : Nat} {g0_hasImage : Int32} {g0_remembered : Int32} {g0_taped : Int32} {g0_point : Int32} {g0_end : Int32} {g0_begin : Int32} {g0_deep : Int32} {g0_faultAt : Int32} {g0_steps : Int32} {g0_men : Int32} {g0_dogs : Int32} (C0 : cxM p s m meth c args wsX11_mark RX11 cX11_mark 6 (some .int)) (hK : va_K (dC, dI) vwCl (tyA cyI cyB cyJ cyZ) s) (hN : nwA s) (hA : ∀ q : Nat, s.heap.size ≤ q → A q) {post : Int32 → (Int32 × (Nat → Int32)) → Prop} {Q : State → Prop} (hQ : Q = MQ below (va_Qi post (fun u : Int32 × (Nat → Int32) => wAt dC dI cyI cyB cyJ cyZ A (ceX11_mark cyI cyB cyJ cyZ a0 a1 b0_image b0_before b0_taken b0_tape b0_five b0_value b0_far b0_lead b0_walk b0_ends b0_manX b0_manY b0_dogX b0_dogY b0_row b0_round b0_farOne b0_leads b0_drags b0_from b0_near g0_hasImage g0_remembered g0_taped g0_point g0_end g0_begin g0_deep g0_faultAt g0_steps g0_men g0_dogs u.1 u.2)) A) args s 0 0 A) : ∀ (g0_thrown : Int32) (f1 : Nat → Int32) (x2 : Int32) (x3 : Int32) (x4 : Int32) (x5 : Int32) (s1 : Int32) (s2 : Int32), wpX11_mark_107 post g0_thrown f1 x2 x3 x4 x5 s1 s2 → AtW p l e rmX11_mark s m args below meth c dC dI A Q 6 0 0 (ceX11_mark cyI cyB cyJ cyZ a0 a1 b0_image b0_before b0_taken b0_tape b0_five b0_value b0_far b0_lead b0_walk b0_ends b0_manX b0_manY b0_dogX b0_dogY b0_row b0_round b0_farOne b0_leads b0_drags b0_from b0_near g0_hasImage g0_remembered g0_taped g0_point g0_end g0_begin g0_deep g0_faultAt g0_steps g0_men g0_dogs g0_thrown f1) [(0, .ref a0), (2, .int x2), (3, .int x3), (4, .int x4), (5, .int x5)] 107 [.int s2, .int s1, .ref a1] := by
  intro g0_thrown f1 x2 x3 x4 x5 s1 s2 hw H locs hP hD hS ls hl
  have C1 := C0
  obtain ⟨hx, hb, hr, hml, hown, hts, hlocks⟩ := C1
  obtain ⟨hi, hw⟩ := hw
  refine va_iast hx hb hK hP hD hS 1 0 rfl rfl hi dX11_mark_107 (fun H locs hP hD hS => ?_)
  have hP : va_P (dC, dI) vwCl (ceX11_mark cyI cyB cyJ cyZ a0 a1 b0_image b0_before b0_taken b0_tape b0_five b0_value b0_far b0_lead b0_walk b0_ends b0_manX b0_manY b0_dogX b0_dogY b0_row b0_round b0_farOne b0_leads b0_drags b0_from b0_near g0_hasImage g0_remembered g0_taped g0_point g0_end g0_begin g0_deep g0_faultAt g0_steps g0_men g0_dogs g0_thrown (upd f1 s1.toNatClampNeg s2)) H := hP
  have hD : va_D A (ceX11_mark cyI cyB cyJ cyZ a0 a1 b0_image b0_before b0_taken b0_tape b0_five b0_value b0_far b0_lead b0_walk b0_ends b0_manX b0_manY b0_dogX b0_dogY b0_row b0_round b0_farOne b0_leads b0_drags b0_from b0_near g0_hasImage g0_remembered g0_taped g0_point g0_end g0_begin g0_deep g0_faultAt g0_steps g0_men g0_dogs g0_thrown (upd f1 s1.toNatClampNeg s2)) := hD
  refine lv_aload_n hx hb dX11_mark_108 rfl (lv_at hl 0 rfl) ?_
  refine va_get (D := (dC, dI)) (ci := 11) (v := .ref a1) (C := RX11) (T := TX11) (N := 34) hx hb hts inX11_mark_X11 hown hK hP 0 rfl rfl 1 (by decide) (hts (.fieldLink RX11 13 "LeadParkModel" "world" "[I") (List.mem_of_getElem? (i := 2) rfl)) (fun _ h9 => h9) rfl dX11_mark_109 ?_
  refine lv_iload hx hb dX11_mark_112 (lv_at hl 4 rfl) ?_
  refine lv_iconst (v := 1) hx hb dX11_mark_114 (by decide) ?_
  refine lv_iadd hx hb dX11_mark_115 ?_
  refine lv_iload_n hx hb dX11_mark_116 rfl (lv_at hl 1 rfl) ?_
  obtain ⟨hi, hw⟩ := hw
  refine va_iast hx hb hK hP hD hS 1 0 rfl rfl hi dX11_mark_117 (fun H locs hP hD hS => ?_)
  have hP : va_P (dC, dI) vwCl (ceX11_mark cyI cyB cyJ cyZ a0 a1 b0_image b0_before b0_taken b0_tape b0_five b0_value b0_far b0_lead b0_walk b0_ends b0_manX b0_manY b0_dogX b0_dogY b0_row b0_round b0_farOne b0_leads b0_drags b0_from b0_near g0_hasImage g0_remembered g0_taped g0_point g0_end g0_begin g0_deep g0_faultAt g0_steps g0_men g0_dogs g0_thrown (upd (upd f1 s1.toNatClampNeg s2) (x5 + 1).toNatClampNeg x2)) H := hP
  have hD : va_D A (ceX11_mark cyI cyB cyJ cyZ a0 a1 b0_image b0_before b0_taken b0_tape b0_five b0_value b0_far b0_lead b0_walk b0_ends b0_manX b0_manY b0_dogX b0_dogY b0_row b0_round b0_farOne b0_leads b0_drags b0_from b0_near g0_hasImage g0_remembered g0_taped g0_point g0_end g0_begin g0_deep g0_faultAt g0_steps g0_men g0_dogs g0_thrown (upd (upd f1 s1.toNatClampNeg s2) (x5 + 1).toNatClampNeg x2)) := hD
  refine lv_aload_n hx hb dX11_mark_118 rfl (lv_at hl 0 rfl) ?_
  refine va_get (D := (dC, dI)) (ci := 11) (v := .ref a1) (C := RX11) (T := TX11) (N := 34) hx hb hts inX11_mark_X11 hown hK hP 0 rfl rfl 1 (by decide) (hts (.fieldLink RX11 13 "LeadParkModel" "world" "[I") (List.mem_of_getElem? (i := 2) rfl)) (fun _ h9 => h9) rfl dX11_mark_119 ?_
  refine lv_iload hx hb dX11_mark_122 (lv_at hl 4 rfl) ?_
  refine lv_iconst (v := 2) hx hb dX11_mark_124 (by decide) ?_
  refine lv_iadd hx hb dX11_mark_125 ?_
  refine lv_iload_n hx hb dX11_mark_126 rfl (lv_at hl 2 rfl) ?_
  obtain ⟨hi, hw⟩ := hw
  refine va_iast hx hb hK hP hD hS 1 0 rfl rfl hi dX11_mark_127 (fun H locs hP hD hS => ?_)
  have hP : va_P (dC, dI) vwCl (ceX11_mark cyI cyB cyJ cyZ a0 a1 b0_image b0_before b0_taken b0_tape b0_five b0_value b0_far b0_lead b0_walk b0_ends b0_manX b0_manY b0_dogX b0_dogY b0_row b0_round b0_farOne b0_leads b0_drags b0_from b0_near g0_hasImage g0_remembered g0_taped g0_point g0_end g0_begin g0_deep g0_faultAt g0_steps g0_men g0_dogs g0_thrown (upd (upd (upd f1 s1.toNatClampNeg s2) (x5 + 1).toNatClampNeg x2) (x5 + 2).toNatClampNeg x3)) H := hP
  have hD : va_D A (ceX11_mark cyI cyB cyJ cyZ a0 a1 b0_image b0_before b0_taken b0_tape b0_five b0_value b0_far b0_lead b0_walk b0_ends b0_manX b0_manY b0_dogX b0_dogY b0_row b0_round b0_farOne b0_leads b0_drags b0_from b0_near g0_hasImage g0_remembered g0_taped g0_point g0_end g0_begin g0_deep g0_faultAt g0_steps g0_men g0_dogs g0_thrown (upd (upd (upd f1 s1.toNatClampNeg s2) (x5 + 1).toNatClampNeg x2) (x5 + 2).toNatClampNeg x3)) := hD
  refine lv_aload_n hx hb dX11_mark_128 rfl (lv_at hl 0 rfl) ?_
  refine va_get (D := (dC, dI)) (ci := 11) (v := .ref a1) (C := RX11) (T := TX11) (N := 34) hx hb hts inX11_mark_X11 hown hK hP 0 rfl rfl 1 (by decide) (hts (.fieldLink RX11 13 "LeadParkModel" "world" "[I") (List.mem_of_getElem? (i := 2) rfl)) (fun _ h9 => h9) rfl dX11_mark_129 ?_
  refine lv_iload hx hb dX11_mark_132 (lv_at hl 4 rfl) ?_
  refine lv_iconst (v := 3) hx hb dX11_mark_134 (by decide) ?_
  refine lv_iadd hx hb dX11_mark_135 ?_
  refine lv_iload hx hb dX11_mark_136 (lv_at hl 3 rfl) ?_
  obtain ⟨hi, hw⟩ := hw
  refine va_iast hx hb hK hP hD hS 1 0 rfl rfl hi dX11_mark_138 (fun H locs hP hD hS => ?_)
  have hP : va_P (dC, dI) vwCl (ceX11_mark cyI cyB cyJ cyZ a0 a1 b0_image b0_before b0_taken b0_tape b0_five b0_value b0_far b0_lead b0_walk b0_ends b0_manX b0_manY b0_dogX b0_dogY b0_row b0_round b0_farOne b0_leads b0_drags b0_from b0_near g0_hasImage g0_remembered g0_taped g0_point g0_end g0_begin g0_deep g0_faultAt g0_steps g0_men g0_dogs g0_thrown (upd (upd (upd (upd f1 s1.toNatClampNeg s2) (x5 + 1).toNatClampNeg x2) (x5 + 2).toNatClampNeg x3) (x5 + 3).toNatClampNeg x4)) H := hP
  have hD : va_D A (ceX11_mark cyI cyB cyJ cyZ a0 a1 b0_image b0_before b0_taken b0_tape b0_five b0_value b0_far b0_lead b0_walk b0_ends b0_manX b0_manY b0_dogX b0_dogY b0_row b0_round b0_farOne b0_leads b0_drags b0_from b0_near g0_hasImage g0_remembered g0_taped g0_point g0_end g0_begin g0_deep g0_faultAt g0_steps g0_men g0_dogs g0_thrown (upd (upd (upd (upd f1 s1.toNatClampNeg s2) (x5 + 1).toNatClampNeg x2) (x5 + 2).toNatClampNeg x3) (x5 + 3).toNatClampNeg x4)) := hD
  refine lv_aload_n hx hb dX11_mark_139 rfl (lv_at hl 0 rfl) ?_
  refine va_get (D := (dC, dI)) (ci := 11) (v := .ref a1) (C := RX11) (T := TX11) (N := 34) hx hb hts inX11_mark_X11 hown hK hP 0 rfl rfl 1 (by decide) (hts (.fieldLink RX11 13 "LeadParkModel" "world" "[I") (List.mem_of_getElem? (i := 2) rfl)) (fun _ h9 => h9) rfl dX11_mark_140 ?_
  refine lv_iconst (v := 4) hx hb dX11_mark_143 (by decide) ?_
  refine lv_dup2_11 hx hb dX11_mark_144 rfl rfl ?_
  obtain ⟨hi, hw⟩ := hw
  refine va_iald hx hb hK hP 1 0 rfl rfl hi dX11_mark_145 ?_
  refine lv_iconst (v := 1) hx hb dX11_mark_146 (by decide) ?_
  refine lv_iadd hx hb dX11_mark_147 ?_
  obtain ⟨hi, hw⟩ := hw
  refine va_iast hx hb hK hP hD hS 1 0 rfl rfl hi dX11_mark_148 (fun H locs hP hD hS => ?_)
  have hP : va_P (dC, dI) vwCl (ceX11_mark cyI cyB cyJ cyZ a0 a1 b0_image b0_before b0_taken b0_tape b0_five b0_value b0_far b0_lead b0_walk b0_ends b0_manX b0_manY b0_dogX b0_dogY b0_row b0_round b0_farOne b0_leads b0_drags b0_from b0_near g0_hasImage g0_remembered g0_taped g0_point g0_end g0_begin g0_deep g0_faultAt g0_steps g0_men g0_dogs g0_thrown (upd (upd (upd (upd (upd f1 s1.toNatClampNeg s2) (x5 + 1).toNatClampNeg x2) (x5 + 2).toNatClampNeg x3) (x5 + 3).toNatClampNeg x4) (4 : Int32).toNatClampNeg (((upd (upd (upd (upd f1 s1.toNatClampNeg s2) (x5 + 1).toNatClampNeg x2) (x5 + 2).toNatClampNeg x3) (x5 + 3).toNatClampNeg x4) (4 : Int32).toNatClampNeg) + 1))) H := hP
  have hD : va_D A (ceX11_mark cyI cyB cyJ cyZ a0 a1 b0_image b0_before b0_taken b0_tape b0_five b0_value b0_far b0_lead b0_walk b0_ends b0_manX b0_manY b0_dogX b0_dogY b0_row b0_round b0_farOne b0_leads b0_drags b0_from b0_near g0_hasImage g0_remembered g0_taped g0_point g0_end g0_begin g0_deep g0_faultAt g0_steps g0_men g0_dogs g0_thrown (upd (upd (upd (upd (upd f1 s1.toNatClampNeg s2) (x5 + 1).toNatClampNeg x2) (x5 + 2).toNatClampNeg x3) (x5 + 3).toNatClampNeg x4) (4 : Int32).toNatClampNeg (((upd (upd (upd (upd f1 s1.toNatClampNeg s2) (x5 + 1).toNatClampNeg x2) (x5 + 2).toNatClampNeg x3) (x5 + 3).toNatClampNeg x4) (4 : Int32).toNatClampNeg) + 1))) := hD
  refine lv_aload_n hx hb dX11_mark_149 rfl (lv_at hl 0 rfl) ?_
  refine va_get (D := (dC, dI)) (ci := 11) (v := .ref a1) (C := RX11) (T := TX11) (N := 34) hx hb hts inX11_mark_X11 hown hK hP 0 rfl rfl 1 (by decide) (hts (.fieldLink RX11 13 "LeadParkModel" "world" "[I") (List.mem_of_getElem? (i := 2) rfl)) (fun _ h9 => h9) rfl dX11_mark_150 ?_
  refine lv_iconst (v := 4) hx hb dX11_mark_153 (by decide) ?_
  obtain ⟨hi, hw⟩ := hw
  refine va_iald hx hb hK hP 1 0 rfl rfl hi dX11_mark_154 ?_
  refine lv_iconst (v := 1) hx hb dX11_mark_155 (by decide) ?_
  refine lv_isub hx hb dX11_mark_156 ?_
  rw [hQ]
  exact W.iret (v := ((upd (upd (upd (upd (upd f1 s1.toNatClampNeg s2) (x5 + 1).toNatClampNeg x2) (x5 + 2).toNatClampNeg x3) (x5 + 3).toNatClampNeg x4) (4 : Int32).toNatClampNeg (((upd (upd (upd (upd f1 s1.toNatClampNeg s2) (x5 + 1).toNatClampNeg x2) (x5 + 2).toNatClampNeg x3) (x5 + 3).toNatClampNeg x4) (4 : Int32).toNatClampNeg) + 1)) (4 : Int32).toNatClampNeg) - 1) hx hb hr (fun t ht hW => ⟨⟨((upd (upd (upd (upd (upd f1 s1.toNatClampNeg s2) (x5 + 1).toNatClampNeg x2) (x5 + 2).toNatClampNeg x3) (x5 + 3).toNatClampNeg x4) (4 : Int32).toNatClampNeg (((upd (upd (upd (upd f1 s1.toNatClampNeg s2) (x5 + 1).toNatClampNeg x2) (x5 + 2).toNatClampNeg x3) (x5 + 3).toNatClampNeg x4) (4 : Int32).toNatClampNeg) + 1)) (4 : Int32).toNatClampNeg) - 1, (g0_thrown, (upd (upd (upd (upd (upd f1 s1.toNatClampNeg s2) (x5 + 1).toNatClampNeg x2) (x5 + 2).toNatClampNeg x3) (x5 + 3).toNatClampNeg x4) (4 : Int32).toNatClampNeg (((upd (upd (upd (upd f1 s1.toNatClampNeg s2) (x5 + 1).toNatClampNeg x2) (x5 + 2).toNatClampNeg x3) (x5 + 3).toNatClampNeg x4) (4 : Int32).toNatClampNeg) + 1))), rfl, hw, by rw [ht]; exact hP, va_K.moved hW.alike hK, hD⟩, hS.F ht⟩) hS.2.2 dX11_mark_157
set_option maxRecDepth 100000 in
set_option maxHeartbeats 4000000 in
theorem bX11_mark_69 {p : Program} {l : Launch} {e : Env} {s : State} {m : MethodId} {args : Array Value} {below : List Frame} {meth : Method} {c : Code} {dC : Nat → ClassId} {dI : Nat → Nat → Nat} {cyI cyB cyJ cyZ : ClassId} {A : Nat → Prop} {a0 a1 b0_image b0_before b0_taken b0_tape b0_five b0_value b0_far b0_lead b0_walk b0_ends b0_manX b0_manY b0_dogX b0_dogY b0_row b0_round b0_farOne b0_leads b0_drags b0_from b0_near : Nat} {g0_hasImage : Int32} {g0_remembered : Int32} {g0_taped : Int32} {g0_point : Int32} {g0_end : Int32} {g0_begin : Int32} {g0_deep : Int32} {g0_faultAt : Int32} {g0_steps : Int32} {g0_men : Int32} {g0_dogs : Int32} (C0 : cxM p s m meth c args wsX11_mark RX11 cX11_mark 6 (some .int)) (hK : va_K (dC, dI) vwCl (tyA cyI cyB cyJ cyZ) s) (hN : nwA s) (hA : ∀ q : Nat, s.heap.size ≤ q → A q) {post : Int32 → (Int32 × (Nat → Int32)) → Prop} {Q : State → Prop} (hQ : Q = MQ below (va_Qi post (fun u : Int32 × (Nat → Int32) => wAt dC dI cyI cyB cyJ cyZ A (ceX11_mark cyI cyB cyJ cyZ a0 a1 b0_image b0_before b0_taken b0_tape b0_five b0_value b0_far b0_lead b0_walk b0_ends b0_manX b0_manY b0_dogX b0_dogY b0_row b0_round b0_farOne b0_leads b0_drags b0_from b0_near g0_hasImage g0_remembered g0_taped g0_point g0_end g0_begin g0_deep g0_faultAt g0_steps g0_men g0_dogs u.1 u.2)) A) args s 0 0 A) : ∀ (g0_thrown : Int32) (f1 : Nat → Int32) (x1 : Int32) (x2 : Int32) (x3 : Int32) (x4 : Int32) (s1 : Int32), wpX11_mark_69 post g0_thrown f1 x1 x2 x3 x4 s1 → AtW p l e rmX11_mark s m args below meth c dC dI A Q 6 0 0 (ceX11_mark cyI cyB cyJ cyZ a0 a1 b0_image b0_before b0_taken b0_tape b0_five b0_value b0_far b0_lead b0_walk b0_ends b0_manX b0_manY b0_dogX b0_dogY b0_row b0_round b0_farOne b0_leads b0_drags b0_from b0_near g0_hasImage g0_remembered g0_taped g0_point g0_end g0_begin g0_deep g0_faultAt g0_steps g0_men g0_dogs g0_thrown f1) [(0, .ref a0), (1, .int x1), (2, .int x2), (3, .int x3), (4, .int x4)] 69 [.int s1, .ref a0] := by
  intro g0_thrown f1 x1 x2 x3 x4 s1 hw H locs hP hD hS ls hl
  have C1 := C0
  obtain ⟨hx, hb, hr, hml, hown, hts, hlocks⟩ := C1
  refine lv_iconst (v := 2) hx hb dX11_mark_69 (by decide) ?_
  have hPc := hP.sub (ws' := (ceX11_throwsIf cyI cyB cyJ cyZ a0 a1 b0_image b0_before b0_taken b0_tape b0_five b0_value b0_far b0_lead b0_walk b0_ends b0_manX b0_manY b0_dogX b0_dogY b0_row b0_round b0_farOne b0_leads b0_drags b0_from b0_near g0_hasImage g0_remembered g0_taped g0_point g0_end g0_begin g0_deep g0_faultAt g0_steps g0_men g0_dogs g0_thrown)) [0] rfl
  have hDc := hD.sub (ws' := (ceX11_throwsIf cyI cyB cyJ cyZ a0 a1 b0_image b0_before b0_taken b0_tape b0_five b0_value b0_far b0_lead b0_walk b0_ends b0_manX b0_manY b0_dogX b0_dogY b0_row b0_round b0_farOne b0_leads b0_drags b0_from b0_near g0_hasImage g0_remembered g0_taped g0_point g0_end g0_begin g0_deep g0_faultAt g0_steps g0_men g0_dogs g0_thrown)) [0] (by decide) rfl
  have hFc := va_free (wc := (ceX11_throwsIf cyI cyB cyJ cyZ a0 a1 b0_image b0_before b0_taken b0_tape b0_five b0_value b0_far b0_lead b0_walk b0_ends b0_manX b0_manY b0_dogX b0_dogY b0_row b0_round b0_farOne b0_leads b0_drags b0_from b0_near g0_hasImage g0_remembered g0_taped g0_point g0_end g0_begin g0_deep g0_faultAt g0_steps g0_men g0_dogs g0_thrown)) hD hS hA [0] rfl
  refine va_calli (va_runV (As := [.int s1, .int 2]) (rest := []) ⟨hx, hb, hml, hown, hts⟩ (ctX11_throwsIf l dC dI cyI cyB cyJ cyZ _ a0 a1 b0_image b0_before b0_taken b0_tape b0_five b0_value b0_far b0_lead b0_walk b0_ends b0_manX b0_manY b0_dogX b0_dogY b0_row b0_round b0_farOne b0_leads b0_drags b0_from b0_near g0_hasImage g0_remembered g0_taped g0_point g0_end g0_begin g0_deep g0_faultAt g0_steps g0_men g0_dogs g0_thrown s1 2 _ hw) (cwV 2 hts gX11_mark_X11_throwsIf rfl rfl rfl (by decide +kernel) ⟨Nat.le_of_ble_eq_true rfl, Nat.le_of_ble_eq_true rfl⟩) ⟨wPre_blind, va_recv hK hPc (ci := 11) (q0 := 0) rfl rfl, fun U hU hW => wPre_of hPc hK hDc hN hU hW⟩ rfl rfl hl.1 rfl (lv_room (Nat.le_of_ble_eq_true rfl)) dX11_mark_70 ⟨(Nat.zero_le _), (Nat.zero_le _)⟩) hS (fun q _ h => hFc q h) hFc (fun r2 u1 t H1 locs ht hvm hw hB hz1 hk1 hS => ?_)
  obtain ⟨hP1, hK1, hD1⟩ := hB
  rw [ht] at hP1
  obtain ⟨hP, hD⟩ := va_join (wr := pickW (ceX11_mark cyI cyB cyJ cyZ a0 a1 b0_image b0_before b0_taken b0_tape b0_five b0_value b0_far b0_lead b0_walk b0_ends b0_manX b0_manY b0_dogX b0_dogY b0_row b0_round b0_farOne b0_leads b0_drags b0_from b0_near g0_hasImage g0_remembered g0_taped g0_point g0_end g0_begin g0_deep g0_faultAt g0_steps g0_men g0_dogs g0_thrown f1) [1]) (w1 := (ceX11_throwsIf cyI cyB cyJ cyZ a0 a1 b0_image b0_before b0_taken b0_tape b0_five b0_value b0_far b0_lead b0_walk b0_ends b0_manX b0_manY b0_dogX b0_dogY b0_row b0_round b0_farOne b0_leads b0_drags b0_from b0_near g0_hasImage g0_remembered g0_taped g0_point g0_end g0_begin g0_deep g0_faultAt g0_steps g0_men g0_dogs u1)) hP hD [0] [1] rfl rfl (by decide) (by decide) hk1 hFc hP1 hD1
  have hP := hP.sub (ws' := (ceX11_mark cyI cyB cyJ cyZ a0 a1 b0_image b0_before b0_taken b0_tape b0_five b0_value b0_far b0_lead b0_walk b0_ends b0_manX b0_manY b0_dogX b0_dogY b0_row b0_round b0_farOne b0_leads b0_drags b0_from b0_near g0_hasImage g0_remembered g0_taped g0_point g0_end g0_begin g0_deep g0_faultAt g0_steps g0_men g0_dogs u1 f1)) [1, 0] rfl
  have hD := hD.sub (ws' := (ceX11_mark cyI cyB cyJ cyZ a0 a1 b0_image b0_before b0_taken b0_tape b0_five b0_value b0_far b0_lead b0_walk b0_ends b0_manX b0_manY b0_dogX b0_dogY b0_row b0_round b0_farOne b0_leads b0_drags b0_from b0_near g0_hasImage g0_remembered g0_taped g0_point g0_end g0_begin g0_deep g0_faultAt g0_steps g0_men g0_dogs u1 f1)) [1, 0] (by decide) rfl
  generalize H1 = H at hP hS ⊢
  refine lv_if_eq (tgt := 78) hx hb dX11_mark_73 (by decide) (fun hc => ?_) (fun hc => ?_)
  · have hw := hw.1 hc
    refine lv_sipush (v := 778) hx hb dX11_mark_78 (by decide) ?_
    refine lv_iconst (v := 4) hx hb dX11_mark_81 (by decide) ?_
    refine lv_aload_n hx hb dX11_mark_82 rfl (lv_at hl 0 rfl) ?_
    refine va_get (D := (dC, dI)) (ci := 11) (v := .ref a1) (C := RX11) (T := TX11) (N := 34) hx hb hts inX11_mark_X11 hown hK hP 0 rfl rfl 1 (by decide) (hts (.fieldLink RX11 13 "LeadParkModel" "world" "[I") (List.mem_of_getElem? (i := 2) rfl)) (fun _ h9 => h9) rfl dX11_mark_83 ?_
    refine lv_iconst (v := 4) hx hb dX11_mark_86 (by decide) ?_
    obtain ⟨hi, hw⟩ := hw
    refine va_iald hx hb hK hP 1 0 rfl rfl hi dX11_mark_87 ?_
    refine lv_imul hx hb dX11_mark_88 ?_
    refine lv_iadd hx hb dX11_mark_89 ?_
    refine lv_topi (fun v3 ev3 => ?_)
    have hw := hw v3 ev3
    refine lv_istore (lv' := [(5, .int v3), (0, .ref a0), (1, .int x1), (2, .int x2), (3, .int x3), (4, .int x4)]) hx hb dX11_mark_90 hl (by decide) rfl (fun ls hl => ?_)
    refine lv_aload_n hx hb dX11_mark_92 rfl (lv_at hl 1 rfl) ?_
    refine va_get (D := (dC, dI)) (ci := 11) (v := .ref a1) (C := RX11) (T := TX11) (N := 34) hx hb hts inX11_mark_X11 hown hK hP 0 rfl rfl 1 (by decide) (hts (.fieldLink RX11 13 "LeadParkModel" "world" "[I") (List.mem_of_getElem? (i := 2) rfl)) (fun _ h9 => h9) rfl dX11_mark_93 ?_
    refine lv_iload hx hb dX11_mark_96 (lv_at hl 0 rfl) ?_
    refine lv_iload_n hx hb dX11_mark_98 rfl (lv_at hl 2 rfl) ?_
    refine lv_if_eq (tgt := 106) hx hb dX11_mark_99 (by decide) (fun hc => ?_) (fun hc => ?_)
    · have hw := hw.1 hc
      refine lv_iconst (v := 0) hx hb dX11_mark_106 (by decide) ?_
      exact bX11_mark_107 C0 hK hN hA hQ u1 f1 x2 x3 x4 v3 v3 0 hw _ _ hP hD hS ls (lv_sub hl [1, 3, 4, 5, 0] rfl)
    · have hw := hw.2 hc
      refine lv_iconst (v := 1) hx hb dX11_mark_102 (by decide) ?_
      refine lv_goto (tgt := 107) hx hb dX11_mark_103 (by decide) ?_
      exact bX11_mark_107 C0 hK hN hA hQ u1 f1 x2 x3 x4 v3 v3 1 hw _ _ hP hD hS ls (lv_sub hl [1, 3, 4, 5, 0] rfl)
  · have hw := hw.2 hc
    refine lv_iconst (v := 0) hx hb dX11_mark_76 (by decide) ?_
    rw [hQ]
    exact W.iret (v := 0) hx hb hr (fun t ht hW => ⟨⟨0, (u1, f1), rfl, hw, by rw [ht]; exact hP, va_K.moved hW.alike hK, hD⟩, hS.F ht⟩) hS.2.2 dX11_mark_77
set_option maxRecDepth 100000 in
set_option maxHeartbeats 4000000 in
theorem bX11_mark_45 {p : Program} {l : Launch} {e : Env} {s : State} {m : MethodId} {args : Array Value} {below : List Frame} {meth : Method} {c : Code} {dC : Nat → ClassId} {dI : Nat → Nat → Nat} {cyI cyB cyJ cyZ : ClassId} {A : Nat → Prop} {a0 a1 b0_image b0_before b0_taken b0_tape b0_five b0_value b0_far b0_lead b0_walk b0_ends b0_manX b0_manY b0_dogX b0_dogY b0_row b0_round b0_farOne b0_leads b0_drags b0_from b0_near : Nat} {g0_hasImage : Int32} {g0_remembered : Int32} {g0_taped : Int32} {g0_point : Int32} {g0_end : Int32} {g0_begin : Int32} {g0_deep : Int32} {g0_faultAt : Int32} {g0_steps : Int32} {g0_men : Int32} {g0_dogs : Int32} (C0 : cxM p s m meth c args wsX11_mark RX11 cX11_mark 6 (some .int)) (hK : va_K (dC, dI) vwCl (tyA cyI cyB cyJ cyZ) s) (hN : nwA s) (hA : ∀ q : Nat, s.heap.size ≤ q → A q) {post : Int32 → (Int32 × (Nat → Int32)) → Prop} {Q : State → Prop} (hQ : Q = MQ below (va_Qi post (fun u : Int32 × (Nat → Int32) => wAt dC dI cyI cyB cyJ cyZ A (ceX11_mark cyI cyB cyJ cyZ a0 a1 b0_image b0_before b0_taken b0_tape b0_five b0_value b0_far b0_lead b0_walk b0_ends b0_manX b0_manY b0_dogX b0_dogY b0_row b0_round b0_farOne b0_leads b0_drags b0_from b0_near g0_hasImage g0_remembered g0_taped g0_point g0_end g0_begin g0_deep g0_faultAt g0_steps g0_men g0_dogs u.1 u.2)) A) args s 0 0 A) : ∀ (g0_thrown : Int32) (f1 : Nat → Int32) (x1 : Int32) (x2 : Int32) (x3 : Int32) (x4 : Int32) (s1 : Int32), wpX11_mark_45 post g0_thrown f1 x1 x2 x3 x4 s1 → AtW p l e rmX11_mark s m args below meth c dC dI A Q 6 0 0 (ceX11_mark cyI cyB cyJ cyZ a0 a1 b0_image b0_before b0_taken b0_tape b0_five b0_value b0_far b0_lead b0_walk b0_ends b0_manX b0_manY b0_dogX b0_dogY b0_row b0_round b0_farOne b0_leads b0_drags b0_from b0_near g0_hasImage g0_remembered g0_taped g0_point g0_end g0_begin g0_deep g0_faultAt g0_steps g0_men g0_dogs g0_thrown f1) [(0, .ref a0), (1, .int x1), (2, .int x2), (3, .int x3), (4, .int x4)] 45 [.int s1, .ref a0] := by
  intro g0_thrown f1 x1 x2 x3 x4 s1 hw H locs hP hD hS ls hl
  have C1 := C0
  obtain ⟨hx, hb, hr, hml, hown, hts, hlocks⟩ := C1
  refine lv_iconst (v := 1) hx hb dX11_mark_45 (by decide) ?_
  have hPc := hP.sub (ws' := (ceX11_throwsIf cyI cyB cyJ cyZ a0 a1 b0_image b0_before b0_taken b0_tape b0_five b0_value b0_far b0_lead b0_walk b0_ends b0_manX b0_manY b0_dogX b0_dogY b0_row b0_round b0_farOne b0_leads b0_drags b0_from b0_near g0_hasImage g0_remembered g0_taped g0_point g0_end g0_begin g0_deep g0_faultAt g0_steps g0_men g0_dogs g0_thrown)) [0] rfl
  have hDc := hD.sub (ws' := (ceX11_throwsIf cyI cyB cyJ cyZ a0 a1 b0_image b0_before b0_taken b0_tape b0_five b0_value b0_far b0_lead b0_walk b0_ends b0_manX b0_manY b0_dogX b0_dogY b0_row b0_round b0_farOne b0_leads b0_drags b0_from b0_near g0_hasImage g0_remembered g0_taped g0_point g0_end g0_begin g0_deep g0_faultAt g0_steps g0_men g0_dogs g0_thrown)) [0] (by decide) rfl
  have hFc := va_free (wc := (ceX11_throwsIf cyI cyB cyJ cyZ a0 a1 b0_image b0_before b0_taken b0_tape b0_five b0_value b0_far b0_lead b0_walk b0_ends b0_manX b0_manY b0_dogX b0_dogY b0_row b0_round b0_farOne b0_leads b0_drags b0_from b0_near g0_hasImage g0_remembered g0_taped g0_point g0_end g0_begin g0_deep g0_faultAt g0_steps g0_men g0_dogs g0_thrown)) hD hS hA [0] rfl
  refine va_calli (va_runV (As := [.int s1, .int 1]) (rest := []) ⟨hx, hb, hml, hown, hts⟩ (ctX11_throwsIf l dC dI cyI cyB cyJ cyZ _ a0 a1 b0_image b0_before b0_taken b0_tape b0_five b0_value b0_far b0_lead b0_walk b0_ends b0_manX b0_manY b0_dogX b0_dogY b0_row b0_round b0_farOne b0_leads b0_drags b0_from b0_near g0_hasImage g0_remembered g0_taped g0_point g0_end g0_begin g0_deep g0_faultAt g0_steps g0_men g0_dogs g0_thrown s1 1 _ hw) (cwV 2 hts gX11_mark_X11_throwsIf rfl rfl rfl (by decide +kernel) ⟨Nat.le_of_ble_eq_true rfl, Nat.le_of_ble_eq_true rfl⟩) ⟨wPre_blind, va_recv hK hPc (ci := 11) (q0 := 0) rfl rfl, fun U hU hW => wPre_of hPc hK hDc hN hU hW⟩ rfl rfl hl.1 rfl (lv_room (Nat.le_of_ble_eq_true rfl)) dX11_mark_46 ⟨(Nat.zero_le _), (Nat.zero_le _)⟩) hS (fun q _ h => hFc q h) hFc (fun r2 u1 t H1 locs ht hvm hw hB hz1 hk1 hS => ?_)
  obtain ⟨hP1, hK1, hD1⟩ := hB
  rw [ht] at hP1
  obtain ⟨hP, hD⟩ := va_join (wr := pickW (ceX11_mark cyI cyB cyJ cyZ a0 a1 b0_image b0_before b0_taken b0_tape b0_five b0_value b0_far b0_lead b0_walk b0_ends b0_manX b0_manY b0_dogX b0_dogY b0_row b0_round b0_farOne b0_leads b0_drags b0_from b0_near g0_hasImage g0_remembered g0_taped g0_point g0_end g0_begin g0_deep g0_faultAt g0_steps g0_men g0_dogs g0_thrown f1) [1]) (w1 := (ceX11_throwsIf cyI cyB cyJ cyZ a0 a1 b0_image b0_before b0_taken b0_tape b0_five b0_value b0_far b0_lead b0_walk b0_ends b0_manX b0_manY b0_dogX b0_dogY b0_row b0_round b0_farOne b0_leads b0_drags b0_from b0_near g0_hasImage g0_remembered g0_taped g0_point g0_end g0_begin g0_deep g0_faultAt g0_steps g0_men g0_dogs u1)) hP hD [0] [1] rfl rfl (by decide) (by decide) hk1 hFc hP1 hD1
  have hP := hP.sub (ws' := (ceX11_mark cyI cyB cyJ cyZ a0 a1 b0_image b0_before b0_taken b0_tape b0_five b0_value b0_far b0_lead b0_walk b0_ends b0_manX b0_manY b0_dogX b0_dogY b0_row b0_round b0_farOne b0_leads b0_drags b0_from b0_near g0_hasImage g0_remembered g0_taped g0_point g0_end g0_begin g0_deep g0_faultAt g0_steps g0_men g0_dogs u1 f1)) [1, 0] rfl
  have hD := hD.sub (ws' := (ceX11_mark cyI cyB cyJ cyZ a0 a1 b0_image b0_before b0_taken b0_tape b0_five b0_value b0_far b0_lead b0_walk b0_ends b0_manX b0_manY b0_dogX b0_dogY b0_row b0_round b0_farOne b0_leads b0_drags b0_from b0_near g0_hasImage g0_remembered g0_taped g0_point g0_end g0_begin g0_deep g0_faultAt g0_steps g0_men g0_dogs u1 f1)) [1, 0] (by decide) rfl
  generalize H1 = H at hP hS ⊢
  refine lv_if_ne (tgt := 76) hx hb dX11_mark_49 (by decide) (fun hc => ?_) (fun hc => ?_)
  · have hw := hw.1 hc
    refine lv_iconst (v := 0) hx hb dX11_mark_76 (by decide) ?_
    rw [hQ]
    exact W.iret (v := 0) hx hb hr (fun t ht hW => ⟨⟨0, (u1, f1), rfl, hw, by rw [ht]; exact hP, va_K.moved hW.alike hK, hD⟩, hS.F ht⟩) hS.2.2 dX11_mark_77
  · have hw := hw.2 hc
    refine lv_aload_n hx hb dX11_mark_52 rfl (lv_at hl 0 rfl) ?_
    refine lv_aload_n hx hb dX11_mark_53 rfl (lv_at hl 0 rfl) ?_
    refine va_get (D := (dC, dI)) (ci := 11) (v := .ref a1) (C := RX11) (T := TX11) (N := 34) hx hb hts inX11_mark_X11 hown hK hP 0 rfl rfl 1 (by decide) (hts (.fieldLink RX11 13 "LeadParkModel" "world" "[I") (List.mem_of_getElem? (i := 2) rfl)) (fun _ h9 => h9) rfl dX11_mark_54 ?_
    refine lv_iconst (v := 4) hx hb dX11_mark_57 (by decide) ?_
    obtain ⟨hi, hw⟩ := hw
    refine va_iald hx hb hK hP 1 0 rfl rfl hi dX11_mark_58 ?_
    refine lv_bipush (v := 20) hx hb dX11_mark_59 (by decide) ?_
    refine lv_icmp_ne (tgt := 68) hx hb dX11_mark_61 (by decide) (fun hc => ?_) (fun hc => ?_)
    · have hw := hw.1 hc
      refine lv_iconst (v := 0) hx hb dX11_mark_68 (by decide) ?_
      exact bX11_mark_69 C0 hK hN hA hQ u1 f1 x1 x2 x3 x4 0 hw _ _ hP hD hS ls (lv_sub hl [0, 1, 2, 3, 4] rfl)
    · have hw := hw.2 hc
      refine lv_iconst (v := 1) hx hb dX11_mark_64 (by decide) ?_
      refine lv_goto (tgt := 69) hx hb dX11_mark_65 (by decide) ?_
      exact bX11_mark_69 C0 hK hN hA hQ u1 f1 x1 x2 x3 x4 1 hw _ _ hP hD hS ls (lv_sub hl [0, 1, 2, 3, 4] rfl)
set_option maxRecDepth 100000 in
set_option maxHeartbeats 4000000 in
theorem bX11_mark_40 {p : Program} {l : Launch} {e : Env} {s : State} {m : MethodId} {args : Array Value} {below : List Frame} {meth : Method} {c : Code} {dC : Nat → ClassId} {dI : Nat → Nat → Nat} {cyI cyB cyJ cyZ : ClassId} {A : Nat → Prop} {a0 a1 b0_image b0_before b0_taken b0_tape b0_five b0_value b0_far b0_lead b0_walk b0_ends b0_manX b0_manY b0_dogX b0_dogY b0_row b0_round b0_farOne b0_leads b0_drags b0_from b0_near : Nat} {g0_hasImage : Int32} {g0_remembered : Int32} {g0_taped : Int32} {g0_point : Int32} {g0_end : Int32} {g0_begin : Int32} {g0_deep : Int32} {g0_faultAt : Int32} {g0_steps : Int32} {g0_men : Int32} {g0_dogs : Int32} (C0 : cxM p s m meth c args wsX11_mark RX11 cX11_mark 6 (some .int)) (hK : va_K (dC, dI) vwCl (tyA cyI cyB cyJ cyZ) s) (hN : nwA s) (hA : ∀ q : Nat, s.heap.size ≤ q → A q) {post : Int32 → (Int32 × (Nat → Int32)) → Prop} {Q : State → Prop} (hQ : Q = MQ below (va_Qi post (fun u : Int32 × (Nat → Int32) => wAt dC dI cyI cyB cyJ cyZ A (ceX11_mark cyI cyB cyJ cyZ a0 a1 b0_image b0_before b0_taken b0_tape b0_five b0_value b0_far b0_lead b0_walk b0_ends b0_manX b0_manY b0_dogX b0_dogY b0_row b0_round b0_farOne b0_leads b0_drags b0_from b0_near g0_hasImage g0_remembered g0_taped g0_point g0_end g0_begin g0_deep g0_faultAt g0_steps g0_men g0_dogs u.1 u.2)) A) args s 0 0 A) : ∀ (g0_thrown : Int32) (f1 : Nat → Int32) (x1 : Int32) (x2 : Int32) (x3 : Int32) (x4 : Int32), wpX11_mark_40 post g0_thrown f1 x1 x2 x3 x4 → AtW p l e rmX11_mark s m args below meth c dC dI A Q 6 0 0 (ceX11_mark cyI cyB cyJ cyZ a0 a1 b0_image b0_before b0_taken b0_tape b0_five b0_value b0_far b0_lead b0_walk b0_ends b0_manX b0_manY b0_dogX b0_dogY b0_row b0_round b0_farOne b0_leads b0_drags b0_from b0_near g0_hasImage g0_remembered g0_taped g0_point g0_end g0_begin g0_deep g0_faultAt g0_steps g0_men g0_dogs g0_thrown f1) [(0, .ref a0), (1, .int x1), (2, .int x2), (3, .int x3), (4, .int x4)] 40 [.ref a0] := by
  intro g0_thrown f1 x1 x2 x3 x4 hw H locs hP hD hS ls hl
  have C1 := C0
  obtain ⟨hx, hb, hr, hml, hown, hts, hlocks⟩ := C1
  refine lv_iconst (v := 1) hx hb dX11_mark_40 (by decide) ?_
  refine lv_goto (tgt := 45) hx hb dX11_mark_41 (by decide) ?_
  exact bX11_mark_45 C0 hK hN hA hQ g0_thrown f1 x1 x2 x3 x4 1 hw _ _ hP hD hS ls (lv_sub hl [0, 1, 2, 3, 4] rfl)
set_option maxRecDepth 100000 in
set_option maxHeartbeats 4000000 in
theorem ctX11_mark (l : Launch) (dC : Nat → ClassId) (dI : Nat → Nat → Nat) (cyI cyB cyJ cyZ : ClassId) (sz : Nat) (a0 a1 b0_image b0_before b0_taken b0_tape b0_five b0_value b0_far b0_lead b0_walk b0_ends b0_manX b0_manY b0_dogX b0_dogY b0_row b0_round b0_farOne b0_leads b0_drags b0_from b0_near : Nat) (g0_hasImage : Int32) (g0_remembered : Int32) (g0_taped : Int32) (g0_point : Int32) (g0_end : Int32) (g0_begin : Int32) (g0_deep : Int32) (g0_faultAt : Int32) (g0_steps : Int32) (g0_men : Int32) (g0_dogs : Int32) (g0_thrown : Int32) (f1 : Nat → Int32) (p0 : Int32) (p1 : Int32) (p2 : Int32) (p3 : Int32) (post : Int32 → (Int32 × (Nat → Int32)) → Prop) (hw : wpX11_mark post g0_thrown f1 p0 p1 p2 p3) : Met l yX11_mark wsX11_mark rmX11_mark (va_Pc [.ref a0, .int p0, .int p1, .int p2, .int p3] (wPre dC dI cyI cyB cyJ cyZ sz (ceX11_mark cyI cyB cyJ cyZ a0 a1 b0_image b0_before b0_taken b0_tape b0_five b0_value b0_far b0_lead b0_walk b0_ends b0_manX b0_manY b0_dogX b0_dogY b0_row b0_round b0_farOne b0_leads b0_drags b0_from b0_near g0_hasImage g0_remembered g0_taped g0_point g0_end g0_begin g0_deep g0_faultAt g0_steps g0_men g0_dogs g0_thrown f1))) (va_Qi post (fun u : Int32 × (Nat → Int32) => wAt dC dI cyI cyB cyJ cyZ (va_A (ceX11_mark cyI cyB cyJ cyZ a0 a1 b0_image b0_before b0_taken b0_tape b0_five b0_value b0_far b0_lead b0_walk b0_ends b0_manX b0_manY b0_dogX b0_dogY b0_row b0_round b0_farOne b0_leads b0_drags b0_from b0_near g0_hasImage g0_remembered g0_taped g0_point g0_end g0_begin g0_deep g0_faultAt g0_steps g0_men g0_dogs g0_thrown f1) sz) (ceX11_mark cyI cyB cyJ cyZ a0 a1 b0_image b0_before b0_taken b0_tape b0_five b0_value b0_far b0_lead b0_walk b0_ends b0_manX b0_manY b0_dogX b0_dogY b0_row b0_round b0_farOne b0_leads b0_drags b0_from b0_near g0_hasImage g0_remembered g0_taped g0_point g0_end g0_begin g0_deep g0_faultAt g0_steps g0_men g0_dogs u.1 u.2)) (va_A (ceX11_mark cyI cyB cyJ cyZ a0 a1 b0_image b0_before b0_taken b0_tape b0_five b0_value b0_far b0_lead b0_walk b0_ends b0_manX b0_manY b0_dogX b0_dogY b0_row b0_round b0_farOne b0_leads b0_drags b0_from b0_near g0_hasImage g0_remembered g0_taped g0_point g0_end g0_begin g0_deep g0_faultAt g0_steps g0_men g0_dogs g0_thrown f1) sz)) 0 0 (va_A (ceX11_mark cyI cyB cyJ cyZ a0 a1 b0_image b0_before b0_taken b0_tape b0_five b0_value b0_far b0_lead b0_walk b0_ends b0_manX b0_manY b0_dogX b0_dogY b0_row b0_round b0_farOne b0_leads b0_drags b0_from b0_near g0_hasImage g0_remembered g0_taped g0_point g0_end g0_begin g0_deep g0_faultAt g0_steps g0_men g0_dogs g0_thrown f1) sz) := by
  refine Met.ofW (cc := cX11_mark) (maxL := 6) (ret := (some .int)) (by decide) rfl ?_
  intro p e s m args below meth c s₁ B hml hv
  obtain ⟨rfl, hsz, hP, hK, hD0, hN⟩ := hv
  have hx := B.exec
  have hb := B.bytes
  have hr := B.returns
  have hts := atoms_spec (ws := wsX11_mark) B.pre
  have hown : s.vm.findClass RX11 = some m.cls := findClass_of_methodNamed B.named
  have hlocks := B.notSynchronized
  subst hsz
  have hD := hD0.self (sz := s.heap.size)
  generalize hAe : va_A (ceX11_mark cyI cyB cyJ cyZ a0 a1 b0_image b0_before b0_taken b0_tape b0_five b0_value b0_far b0_lead b0_walk b0_ends b0_manX b0_manY b0_dogX b0_dogY b0_row b0_round b0_farOne b0_leads b0_drags b0_from b0_near g0_hasImage g0_remembered g0_taped g0_point g0_end g0_begin g0_deep g0_faultAt g0_steps g0_men g0_dogs g0_thrown f1) s.heap.size = A at hD ⊢
  have hA : ∀ q : Nat, s.heap.size ≤ q → A q := fun q h => by rw [← hAe]; exact Or.inr h
  have hS : va_S A s.heap s.heap [] := va_S.rf
  have C0 : cxM p s m meth c _ wsX11_mark RX11 cX11_mark 6 (some .int) := ⟨hx, hb, hr, hml, hown, hts, hlocks⟩
  have hl := lv_entry ([.ref a0, .int p0, .int p1, .int p2, .int p3]) (n := 6) (Nat.le_of_ble_eq_true rfl)
  rw [lg_entry_eq]
  generalize (lg_sl ([.ref a0, .int p0, .int p1, .int p2, .int p3]) ++ List.replicate (6 - (lg_sl ([.ref a0, .int p0, .int p1, .int p2, .int p3])).length) Slot.unset).toArray = ls at hl ⊢
  have hl : lv_has ls 6 [(0, .ref a0), (1, .int p0), (2, .int p1), (3, .int p2), (4, .int p3)] := hl
  show W p l e rmX11_mark s m _ below meth c _ _ _ _ _ _
  refine wq (fun Q hQ => ?_)
  refine lv_aload_n hx hb dX11_mark_0 rfl (lv_at hl 0 rfl) ?_
  refine lv_iconst (v := 0) hx hb dX11_mark_1 (by decide) ?_
  refine va_put (D := (dC, dI)) (ci := 11) (v := .int 0) (ty := .int) (C := RX11) (T := TX11) (N := 34) hx hb hts inX11_mark_X11 tyX11 tyX11_ok nmX11 hown hK hP hD hS 0 rfl rfl 0 (by decide) (hts (.fieldLink RX11 3 "LeadParkModel" "thrown" "I") (List.mem_of_getElem? (i := 1) rfl)) (fun _ h9 => h9) rfl (by decide +kernel) rfl rfl (Nat.le_of_ble_eq_true rfl) dX11_mark_2 (fun H locs hP hD hS => ?_)
  have hP : va_P (dC, dI) vwCl (ceX11_mark cyI cyB cyJ cyZ a0 a1 b0_image b0_before b0_taken b0_tape b0_five b0_value b0_far b0_lead b0_walk b0_ends b0_manX b0_manY b0_dogX b0_dogY b0_row b0_round b0_farOne b0_leads b0_drags b0_from b0_near g0_hasImage g0_remembered g0_taped g0_point g0_end g0_begin g0_deep g0_faultAt g0_steps g0_men g0_dogs 0 f1) H := hP
  have hD : va_D A (ceX11_mark cyI cyB cyJ cyZ a0 a1 b0_image b0_before b0_taken b0_tape b0_five b0_value b0_far b0_lead b0_walk b0_ends b0_manX b0_manY b0_dogX b0_dogY b0_row b0_round b0_farOne b0_leads b0_drags b0_from b0_near g0_hasImage g0_remembered g0_taped g0_point g0_end g0_begin g0_deep g0_faultAt g0_steps g0_men g0_dogs 0 f1) := hD
  refine lv_aload_n hx hb dX11_mark_5 rfl (lv_at hl 0 rfl) ?_
  refine lv_iload_n hx hb dX11_mark_6 rfl (lv_at hl 2 rfl) ?_
  refine lv_iconst (v := 0) hx hb dX11_mark_7 (by decide) ?_
  refine lv_sipush (v := 999) hx hb dX11_mark_8 (by decide) ?_
  have hPc := hP.sub (ws' := ([] : va_W)) [] rfl
  have hDc := hD.sub (ws' := ([] : va_W)) [] (by decide) rfl
  have hFc := va_free (wc := ([] : va_W)) hD hS hA [] rfl
  refine va_calli (va_runS (As := [.int p1, .int 0, .int 999]) (rest := [.ref a0]) ⟨hx, hb, hml, hown, hts⟩ (ctX11_in l dC dI cyI cyB cyJ cyZ _ p1 0 999 _ hw) (va_cwS 3 hts gX11_mark_X11_in rfl rfl rfl (by decide +kernel) ⟨Nat.le_of_ble_eq_true rfl, Nat.le_of_ble_eq_true rfl⟩) ⟨wPre_blind, fun U hU hW => wPre_of hPc hK hDc hN hU hW⟩ rfl rfl hl.1 rfl (lv_room (Nat.le_of_ble_eq_true rfl)) dX11_mark_11 ⟨(Nat.zero_le _), (Nat.zero_le _)⟩) hS (fun q _ h => hFc q h) hFc (fun r2 u1 t H1 locs ht hvm hw hB hz1 hk1 hS => ?_)
  obtain ⟨hP1, hK1, hD1⟩ := hB
  rw [ht] at hP1
  obtain ⟨hP, hD⟩ := va_join (wr := pickW (ceX11_mark cyI cyB cyJ cyZ a0 a1 b0_image b0_before b0_taken b0_tape b0_five b0_value b0_far b0_lead b0_walk b0_ends b0_manX b0_manY b0_dogX b0_dogY b0_row b0_round b0_farOne b0_leads b0_drags b0_from b0_near g0_hasImage g0_remembered g0_taped g0_point g0_end g0_begin g0_deep g0_faultAt g0_steps g0_men g0_dogs 0 f1) [0, 1]) (w1 := ([] : va_W)) hP hD [] [0, 1] rfl rfl (by decide) (by decide) hk1 hFc hP1 hD1
  have hP := hP.sub (ws' := (ceX11_mark cyI cyB cyJ cyZ a0 a1 b0_image b0_before b0_taken b0_tape b0_five b0_value b0_far b0_lead b0_walk b0_ends b0_manX b0_manY b0_dogX b0_dogY b0_row b0_round b0_farOne b0_leads b0_drags b0_from b0_near g0_hasImage g0_remembered g0_taped g0_point g0_end g0_begin g0_deep g0_faultAt g0_steps g0_men g0_dogs 0 f1)) [0, 1] rfl
  have hD := hD.sub (ws' := (ceX11_mark cyI cyB cyJ cyZ a0 a1 b0_image b0_before b0_taken b0_tape b0_five b0_value b0_far b0_lead b0_walk b0_ends b0_manX b0_manY b0_dogX b0_dogY b0_row b0_round b0_farOne b0_leads b0_drags b0_from b0_near g0_hasImage g0_remembered g0_taped g0_point g0_end g0_begin g0_deep g0_faultAt g0_steps g0_men g0_dogs 0 f1)) [0, 1] (by decide) rfl
  generalize H1 = H at hP hS ⊢
  refine lv_if_eq (tgt := 40) hx hb dX11_mark_14 (by decide) (fun hc => ?_) (fun hc => ?_)
  · have hw := hw.1 hc
    exact bX11_mark_40 C0 hK hN hA hQ 0 f1 p0 p1 p2 p3 hw _ _ hP hD hS ls (lv_sub hl [0, 1, 2, 3, 4] rfl)
  · have hw := hw.2 hc
    refine lv_iload_n hx hb dX11_mark_17 rfl (lv_at hl 3 rfl) ?_
    refine lv_iconst (v := 0) hx hb dX11_mark_18 (by decide) ?_
    refine lv_sipush (v := 999) hx hb dX11_mark_19 (by decide) ?_
    have hPc := hP.sub (ws' := ([] : va_W)) [] rfl
    have hDc := hD.sub (ws' := ([] : va_W)) [] (by decide) rfl
    have hFc := va_free (wc := ([] : va_W)) hD hS hA [] rfl
    refine va_calli (va_runS (As := [.int p2, .int 0, .int 999]) (rest := [.ref a0]) ⟨hx, hb, hml, hown, hts⟩ (ctX11_in l dC dI cyI cyB cyJ cyZ _ p2 0 999 _ hw) (va_cwS 3 hts gX11_mark_X11_in rfl rfl rfl (by decide +kernel) ⟨Nat.le_of_ble_eq_true rfl, Nat.le_of_ble_eq_true rfl⟩) ⟨wPre_blind, fun U hU hW => wPre_of hPc hK hDc hN hU hW⟩ rfl rfl hl.1 rfl (lv_room (Nat.le_of_ble_eq_true rfl)) dX11_mark_22 ⟨(Nat.zero_le _), (Nat.zero_le _)⟩) hS (fun q _ h => hFc q h) hFc (fun r4 u3 t H1 locs ht hvm hw hB hz1 hk1 hS => ?_)
    obtain ⟨hP1, hK1, hD1⟩ := hB
    rw [ht] at hP1
    obtain ⟨hP, hD⟩ := va_join (wr := pickW (ceX11_mark cyI cyB cyJ cyZ a0 a1 b0_image b0_before b0_taken b0_tape b0_five b0_value b0_far b0_lead b0_walk b0_ends b0_manX b0_manY b0_dogX b0_dogY b0_row b0_round b0_farOne b0_leads b0_drags b0_from b0_near g0_hasImage g0_remembered g0_taped g0_point g0_end g0_begin g0_deep g0_faultAt g0_steps g0_men g0_dogs 0 f1) [0, 1]) (w1 := ([] : va_W)) hP hD [] [0, 1] rfl rfl (by decide) (by decide) hk1 hFc hP1 hD1
    have hP := hP.sub (ws' := (ceX11_mark cyI cyB cyJ cyZ a0 a1 b0_image b0_before b0_taken b0_tape b0_five b0_value b0_far b0_lead b0_walk b0_ends b0_manX b0_manY b0_dogX b0_dogY b0_row b0_round b0_farOne b0_leads b0_drags b0_from b0_near g0_hasImage g0_remembered g0_taped g0_point g0_end g0_begin g0_deep g0_faultAt g0_steps g0_men g0_dogs 0 f1)) [0, 1] rfl
    have hD := hD.sub (ws' := (ceX11_mark cyI cyB cyJ cyZ a0 a1 b0_image b0_before b0_taken b0_tape b0_five b0_value b0_far b0_lead b0_walk b0_ends b0_manX b0_manY b0_dogX b0_dogY b0_row b0_round b0_farOne b0_leads b0_drags b0_from b0_near g0_hasImage g0_remembered g0_taped g0_point g0_end g0_begin g0_deep g0_faultAt g0_steps g0_men g0_dogs 0 f1)) [0, 1] (by decide) rfl
    generalize H1 = H at hP hS ⊢
    refine lv_if_eq (tgt := 40) hx hb dX11_mark_25 (by decide) (fun hc => ?_) (fun hc => ?_)
    · have hw := hw.1 hc
      exact bX11_mark_40 C0 hK hN hA hQ 0 f1 p0 p1 p2 p3 hw _ _ hP hD hS ls (lv_sub hl [0, 1, 2, 3, 4] rfl)
    · have hw := hw.2 hc
      refine lv_iload hx hb dX11_mark_28 (lv_at hl 4 rfl) ?_
      refine lv_iconst (v := 0) hx hb dX11_mark_30 (by decide) ?_
      refine lv_sipush (v := 999) hx hb dX11_mark_31 (by decide) ?_
      have hPc := hP.sub (ws' := ([] : va_W)) [] rfl
      have hDc := hD.sub (ws' := ([] : va_W)) [] (by decide) rfl
      have hFc := va_free (wc := ([] : va_W)) hD hS hA [] rfl
      refine va_calli (va_runS (As := [.int p3, .int 0, .int 999]) (rest := [.ref a0]) ⟨hx, hb, hml, hown, hts⟩ (ctX11_in l dC dI cyI cyB cyJ cyZ _ p3 0 999 _ hw) (va_cwS 3 hts gX11_mark_X11_in rfl rfl rfl (by decide +kernel) ⟨Nat.le_of_ble_eq_true rfl, Nat.le_of_ble_eq_true rfl⟩) ⟨wPre_blind, fun U hU hW => wPre_of hPc hK hDc hN hU hW⟩ rfl rfl hl.1 rfl (lv_room (Nat.le_of_ble_eq_true rfl)) dX11_mark_34 ⟨(Nat.zero_le _), (Nat.zero_le _)⟩) hS (fun q _ h => hFc q h) hFc (fun r6 u5 t H1 locs ht hvm hw hB hz1 hk1 hS => ?_)
      obtain ⟨hP1, hK1, hD1⟩ := hB
      rw [ht] at hP1
      obtain ⟨hP, hD⟩ := va_join (wr := pickW (ceX11_mark cyI cyB cyJ cyZ a0 a1 b0_image b0_before b0_taken b0_tape b0_five b0_value b0_far b0_lead b0_walk b0_ends b0_manX b0_manY b0_dogX b0_dogY b0_row b0_round b0_farOne b0_leads b0_drags b0_from b0_near g0_hasImage g0_remembered g0_taped g0_point g0_end g0_begin g0_deep g0_faultAt g0_steps g0_men g0_dogs 0 f1) [0, 1]) (w1 := ([] : va_W)) hP hD [] [0, 1] rfl rfl (by decide) (by decide) hk1 hFc hP1 hD1
      have hP := hP.sub (ws' := (ceX11_mark cyI cyB cyJ cyZ a0 a1 b0_image b0_before b0_taken b0_tape b0_five b0_value b0_far b0_lead b0_walk b0_ends b0_manX b0_manY b0_dogX b0_dogY b0_row b0_round b0_farOne b0_leads b0_drags b0_from b0_near g0_hasImage g0_remembered g0_taped g0_point g0_end g0_begin g0_deep g0_faultAt g0_steps g0_men g0_dogs 0 f1)) [0, 1] rfl
      have hD := hD.sub (ws' := (ceX11_mark cyI cyB cyJ cyZ a0 a1 b0_image b0_before b0_taken b0_tape b0_five b0_value b0_far b0_lead b0_walk b0_ends b0_manX b0_manY b0_dogX b0_dogY b0_row b0_round b0_farOne b0_leads b0_drags b0_from b0_near g0_hasImage g0_remembered g0_taped g0_point g0_end g0_begin g0_deep g0_faultAt g0_steps g0_men g0_dogs 0 f1)) [0, 1] (by decide) rfl
      generalize H1 = H at hP hS ⊢
      refine lv_if_ne (tgt := 44) hx hb dX11_mark_37 (by decide) (fun hc => ?_) (fun hc => ?_)
      · have hw := hw.1 hc
        refine lv_iconst (v := 0) hx hb dX11_mark_44 (by decide) ?_
        exact bX11_mark_45 C0 hK hN hA hQ 0 f1 p0 p1 p2 p3 0 hw _ _ hP hD hS ls (lv_sub hl [0, 1, 2, 3, 4] rfl)
      · have hw := hw.2 hc
        exact bX11_mark_40 C0 hK hN hA hQ 0 f1 p0 p1 p2 p3 hw _ _ hP hD hS ls (lv_sub hl [0, 1, 2, 3, 4] rfl)
/-! LeadParkModel.unmark ()I -/
abbrev ceX11_unmark (cyI cyB cyJ cyZ : ClassId) (a0 a1 b0_image b0_before b0_taken b0_tape b0_five b0_value b0_far b0_lead b0_walk b0_ends b0_manX b0_manY b0_dogX b0_dogY b0_row b0_round b0_farOne b0_leads b0_drags b0_from b0_near : Nat) (g0_hasImage : Int32) (g0_remembered : Int32) (g0_taped : Int32) (g0_point : Int32) (g0_end : Int32) (g0_begin : Int32) (g0_deep : Int32) (g0_faultAt : Int32) (g0_steps : Int32) (g0_men : Int32) (g0_dogs : Int32) (g0_thrown : Int32) (f1 : Nat → Int32) : va_W := [(a0, .inr (11, [.int g0_thrown, .ref a1, .ref b0_image, .ref b0_before, .int g0_hasImage, .ref b0_taken, .int g0_remembered, .ref b0_tape, .int g0_taped, .int g0_point, .int g0_end, .int g0_begin, .int g0_deep, .int g0_faultAt, .ref b0_five, .int g0_steps, .ref b0_value, .ref b0_far, .int g0_men, .int g0_dogs, .ref b0_lead, .ref b0_walk, .ref b0_ends, .ref b0_manX, .ref b0_manY, .ref b0_dogX, .ref b0_dogY, .ref b0_row, .ref b0_round, .ref b0_farOne, .ref b0_leads, .ref b0_drags, .ref b0_from, .ref b0_near])), (a1, .inl (cyI, 2508, .inl f1))]

theorem inX11_unmark_X11 : ∀ w ∈ wsX110, w ∈ wsX11_unmark := fun _ h => List.mem_cons_of_mem _ (List.mem_append_right _ h)
abbrev rmX11_unmark : Room := { frames := 0, cells := 0, slots := 0, locals := 0 }
set_option maxRecDepth 100000 in
set_option maxHeartbeats 4000000 in
theorem ctX11_unmark (l : Launch) (dC : Nat → ClassId) (dI : Nat → Nat → Nat) (cyI cyB cyJ cyZ : ClassId) (sz : Nat) (a0 a1 b0_image b0_before b0_taken b0_tape b0_five b0_value b0_far b0_lead b0_walk b0_ends b0_manX b0_manY b0_dogX b0_dogY b0_row b0_round b0_farOne b0_leads b0_drags b0_from b0_near : Nat) (g0_hasImage : Int32) (g0_remembered : Int32) (g0_taped : Int32) (g0_point : Int32) (g0_end : Int32) (g0_begin : Int32) (g0_deep : Int32) (g0_faultAt : Int32) (g0_steps : Int32) (g0_men : Int32) (g0_dogs : Int32) (g0_thrown : Int32) (f1 : Nat → Int32) (post : Int32 → (Int32 × (Nat → Int32)) → Prop) (hw : wpX11_unmark post g0_thrown f1 ) : Met l yX11_unmark wsX11_unmark rmX11_unmark (va_Pc [.ref a0] (wPre dC dI cyI cyB cyJ cyZ sz (ceX11_unmark cyI cyB cyJ cyZ a0 a1 b0_image b0_before b0_taken b0_tape b0_five b0_value b0_far b0_lead b0_walk b0_ends b0_manX b0_manY b0_dogX b0_dogY b0_row b0_round b0_farOne b0_leads b0_drags b0_from b0_near g0_hasImage g0_remembered g0_taped g0_point g0_end g0_begin g0_deep g0_faultAt g0_steps g0_men g0_dogs g0_thrown f1))) (va_Qi post (fun u : Int32 × (Nat → Int32) => wAt dC dI cyI cyB cyJ cyZ (va_A (ceX11_unmark cyI cyB cyJ cyZ a0 a1 b0_image b0_before b0_taken b0_tape b0_five b0_value b0_far b0_lead b0_walk b0_ends b0_manX b0_manY b0_dogX b0_dogY b0_row b0_round b0_farOne b0_leads b0_drags b0_from b0_near g0_hasImage g0_remembered g0_taped g0_point g0_end g0_begin g0_deep g0_faultAt g0_steps g0_men g0_dogs g0_thrown f1) sz) (ceX11_unmark cyI cyB cyJ cyZ a0 a1 b0_image b0_before b0_taken b0_tape b0_five b0_value b0_far b0_lead b0_walk b0_ends b0_manX b0_manY b0_dogX b0_dogY b0_row b0_round b0_farOne b0_leads b0_drags b0_from b0_near g0_hasImage g0_remembered g0_taped g0_point g0_end g0_begin g0_deep g0_faultAt g0_steps g0_men g0_dogs u.1 u.2)) (va_A (ceX11_unmark cyI cyB cyJ cyZ a0 a1 b0_image b0_before b0_taken b0_tape b0_five b0_value b0_far b0_lead b0_walk b0_ends b0_manX b0_manY b0_dogX b0_dogY b0_row b0_round b0_farOne b0_leads b0_drags b0_from b0_near g0_hasImage g0_remembered g0_taped g0_point g0_end g0_begin g0_deep g0_faultAt g0_steps g0_men g0_dogs g0_thrown f1) sz)) 0 0 (va_A (ceX11_unmark cyI cyB cyJ cyZ a0 a1 b0_image b0_before b0_taken b0_tape b0_five b0_value b0_far b0_lead b0_walk b0_ends b0_manX b0_manY b0_dogX b0_dogY b0_row b0_round b0_farOne b0_leads b0_drags b0_from b0_near g0_hasImage g0_remembered g0_taped g0_point g0_end g0_begin g0_deep g0_faultAt g0_steps g0_men g0_dogs g0_thrown f1) sz) := by
  refine Met.ofW (cc := cX11_unmark) (maxL := 1) (ret := (some .int)) (by decide) rfl ?_
  intro p e s m args below meth c s₁ B hml hv
  obtain ⟨rfl, hsz, hP, hK, hD0, hN⟩ := hv
  have hx := B.exec
  have hb := B.bytes
  have hr := B.returns
  have hts := atoms_spec (ws := wsX11_unmark) B.pre
  have hown : s.vm.findClass RX11 = some m.cls := findClass_of_methodNamed B.named
  have hlocks := B.notSynchronized
  subst hsz
  have hD := hD0.self (sz := s.heap.size)
  generalize hAe : va_A (ceX11_unmark cyI cyB cyJ cyZ a0 a1 b0_image b0_before b0_taken b0_tape b0_five b0_value b0_far b0_lead b0_walk b0_ends b0_manX b0_manY b0_dogX b0_dogY b0_row b0_round b0_farOne b0_leads b0_drags b0_from b0_near g0_hasImage g0_remembered g0_taped g0_point g0_end g0_begin g0_deep g0_faultAt g0_steps g0_men g0_dogs g0_thrown f1) s.heap.size = A at hD ⊢
  have hA : ∀ q : Nat, s.heap.size ≤ q → A q := fun q h => by rw [← hAe]; exact Or.inr h
  have hS : va_S A s.heap s.heap [] := va_S.rf
  have C0 : cxM p s m meth c _ wsX11_unmark RX11 cX11_unmark 1 (some .int) := ⟨hx, hb, hr, hml, hown, hts, hlocks⟩
  have hl := lv_entry ([.ref a0]) (n := 1) (Nat.le_of_ble_eq_true rfl)
  rw [lg_entry_eq]
  generalize (lg_sl ([.ref a0]) ++ List.replicate (1 - (lg_sl ([.ref a0])).length) Slot.unset).toArray = ls at hl ⊢
  have hl : lv_has ls 1 [(0, .ref a0)] := hl
  show W p l e rmX11_unmark s m _ below meth c _ _ _ _ _ _
  refine wq (fun Q hQ => ?_)
  refine lv_aload_n hx hb dX11_unmark_0 rfl (lv_at hl 0 rfl) ?_
  refine lv_iconst (v := 0) hx hb dX11_unmark_1 (by decide) ?_
  refine va_put (D := (dC, dI)) (ci := 11) (v := .int 0) (ty := .int) (C := RX11) (T := TX11) (N := 34) hx hb hts inX11_unmark_X11 tyX11 tyX11_ok nmX11 hown hK hP hD hS 0 rfl rfl 0 (by decide) (hts (.fieldLink RX11 3 "LeadParkModel" "thrown" "I") (List.mem_of_getElem? (i := 1) rfl)) (fun _ h9 => h9) rfl (by decide +kernel) rfl rfl (Nat.le_of_ble_eq_true rfl) dX11_unmark_2 (fun H locs hP hD hS => ?_)
  have hP : va_P (dC, dI) vwCl (ceX11_unmark cyI cyB cyJ cyZ a0 a1 b0_image b0_before b0_taken b0_tape b0_five b0_value b0_far b0_lead b0_walk b0_ends b0_manX b0_manY b0_dogX b0_dogY b0_row b0_round b0_farOne b0_leads b0_drags b0_from b0_near g0_hasImage g0_remembered g0_taped g0_point g0_end g0_begin g0_deep g0_faultAt g0_steps g0_men g0_dogs 0 f1) H := hP
  have hD : va_D A (ceX11_unmark cyI cyB cyJ cyZ a0 a1 b0_image b0_before b0_taken b0_tape b0_five b0_value b0_far b0_lead b0_walk b0_ends b0_manX b0_manY b0_dogX b0_dogY b0_row b0_round b0_farOne b0_leads b0_drags b0_from b0_near g0_hasImage g0_remembered g0_taped g0_point g0_end g0_begin g0_deep g0_faultAt g0_steps g0_men g0_dogs 0 f1) := hD
  refine lv_aload_n hx hb dX11_unmark_5 rfl (lv_at hl 0 rfl) ?_
  refine va_get (D := (dC, dI)) (ci := 11) (v := .ref a1) (C := RX11) (T := TX11) (N := 34) hx hb hts inX11_unmark_X11 hown hK hP 0 rfl rfl 1 (by decide) (hts (.fieldLink RX11 13 "LeadParkModel" "world" "[I") (List.mem_of_getElem? (i := 2) rfl)) (fun _ h9 => h9) rfl dX11_unmark_6 ?_
  refine lv_iconst (v := 4) hx hb dX11_unmark_9 (by decide) ?_
  obtain ⟨hi, hw⟩ := hw
  refine va_iald hx hb hK hP 1 0 rfl rfl hi dX11_unmark_10 ?_
  refine lv_if_ne (tgt := 16) hx hb dX11_unmark_11 (by decide) (fun hc => ?_) (fun hc => ?_)
  · have hw := hw.1 hc
    refine lv_aload_n hx hb dX11_unmark_16 rfl (lv_at hl 0 rfl) ?_
    refine va_get (D := (dC, dI)) (ci := 11) (v := .ref a1) (C := RX11) (T := TX11) (N := 34) hx hb hts inX11_unmark_X11 hown hK hP 0 rfl rfl 1 (by decide) (hts (.fieldLink RX11 13 "LeadParkModel" "world" "[I") (List.mem_of_getElem? (i := 2) rfl)) (fun _ h9 => h9) rfl dX11_unmark_17 ?_
    refine lv_iconst (v := 4) hx hb dX11_unmark_20 (by decide) ?_
    refine lv_dup2_11 hx hb dX11_unmark_21 rfl rfl ?_
    obtain ⟨hi, hw⟩ := hw
    refine va_iald hx hb hK hP 1 0 rfl rfl hi dX11_unmark_22 ?_
    refine lv_iconst (v := 1) hx hb dX11_unmark_23 (by decide) ?_
    refine lv_isub hx hb dX11_unmark_24 ?_
    obtain ⟨hi, hw⟩ := hw
    refine va_iast hx hb hK hP hD hS 1 0 rfl rfl hi dX11_unmark_25 (fun H locs hP hD hS => ?_)
    have hP : va_P (dC, dI) vwCl (ceX11_unmark cyI cyB cyJ cyZ a0 a1 b0_image b0_before b0_taken b0_tape b0_five b0_value b0_far b0_lead b0_walk b0_ends b0_manX b0_manY b0_dogX b0_dogY b0_row b0_round b0_farOne b0_leads b0_drags b0_from b0_near g0_hasImage g0_remembered g0_taped g0_point g0_end g0_begin g0_deep g0_faultAt g0_steps g0_men g0_dogs 0 (upd f1 (4 : Int32).toNatClampNeg ((f1 (4 : Int32).toNatClampNeg) - 1))) H := hP
    have hD : va_D A (ceX11_unmark cyI cyB cyJ cyZ a0 a1 b0_image b0_before b0_taken b0_tape b0_five b0_value b0_far b0_lead b0_walk b0_ends b0_manX b0_manY b0_dogX b0_dogY b0_row b0_round b0_farOne b0_leads b0_drags b0_from b0_near g0_hasImage g0_remembered g0_taped g0_point g0_end g0_begin g0_deep g0_faultAt g0_steps g0_men g0_dogs 0 (upd f1 (4 : Int32).toNatClampNeg ((f1 (4 : Int32).toNatClampNeg) - 1))) := hD
    refine lv_aload_n hx hb dX11_unmark_26 rfl (lv_at hl 0 rfl) ?_
    refine va_get (D := (dC, dI)) (ci := 11) (v := .ref a1) (C := RX11) (T := TX11) (N := 34) hx hb hts inX11_unmark_X11 hown hK hP 0 rfl rfl 1 (by decide) (hts (.fieldLink RX11 13 "LeadParkModel" "world" "[I") (List.mem_of_getElem? (i := 2) rfl)) (fun _ h9 => h9) rfl dX11_unmark_27 ?_
    refine lv_iconst (v := 4) hx hb dX11_unmark_30 (by decide) ?_
    obtain ⟨hi, hw⟩ := hw
    refine va_iald hx hb hK hP 1 0 rfl rfl hi dX11_unmark_31 ?_
    rw [hQ]
    exact W.iret (v := (upd f1 (4 : Int32).toNatClampNeg ((f1 (4 : Int32).toNatClampNeg) - 1)) (4 : Int32).toNatClampNeg) hx hb hr (fun t ht hW => ⟨⟨(upd f1 (4 : Int32).toNatClampNeg ((f1 (4 : Int32).toNatClampNeg) - 1)) (4 : Int32).toNatClampNeg, (0, (upd f1 (4 : Int32).toNatClampNeg ((f1 (4 : Int32).toNatClampNeg) - 1))), rfl, hw, by rw [ht]; exact hP, va_K.moved hW.alike hK, hD⟩, hS.F ht⟩) hS.2.2 dX11_unmark_32
  · have hw := hw.2 hc
    refine lv_iconst (v := (-1)) hx hb dX11_unmark_14 (by decide) ?_
    rw [hQ]
    exact W.iret (v := (-1)) hx hb hr (fun t ht hW => ⟨⟨(-1), (0, f1), rfl, hw, by rw [ht]; exact hP, va_K.moved hW.alike hK, hD⟩, hS.F ht⟩) hS.2.2 dX11_unmark_15
