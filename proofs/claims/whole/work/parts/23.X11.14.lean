/-! LeadParkModel.ring (IIZ)I -/
abbrev ceX11_ring (cyI cyB cyJ cyZ : ClassId) (a0 a1 a2 a3 a4 b0_image b0_before b0_taken b0_tape b0_five b0_lead b0_walk b0_ends b0_manX b0_manY b0_dogX b0_dogY b0_row b0_farOne b0_leads b0_drags b0_from b0_near : Nat) (g0_hasImage : Int32) (g0_remembered : Int32) (g0_taped : Int32) (g0_point : Int32) (g0_end : Int32) (g0_begin : Int32) (g0_deep : Int32) (g0_faultAt : Int32) (g0_steps : Int32) (f1 : Nat → Int32) (g0_thrown : Int32) (g0_men : Int32) (g0_dogs : Int32) (f2 : Nat → Int32) (f3 : Nat → Int32) (f4 : Nat → Int32) : va_W := [(a0, .inr (11, [.int g0_thrown, .ref a1, .ref b0_image, .ref b0_before, .int g0_hasImage, .ref b0_taken, .int g0_remembered, .ref b0_tape, .int g0_taped, .int g0_point, .int g0_end, .int g0_begin, .int g0_deep, .int g0_faultAt, .ref b0_five, .int g0_steps, .ref a2, .ref a3, .int g0_men, .int g0_dogs, .ref b0_lead, .ref b0_walk, .ref b0_ends, .ref b0_manX, .ref b0_manY, .ref b0_dogX, .ref b0_dogY, .ref b0_row, .ref a4, .ref b0_farOne, .ref b0_leads, .ref b0_drags, .ref b0_from, .ref b0_near])), (a1, .inl (cyI, 2508, .inl f1)), (a2, .inl (cyI, 400, .inl f2)), (a3, .inl (cyI, 900, .inl f3)), (a4, .inl (cyI, 31, .inl f4))]

theorem inX11_ring_X11 : ∀ w ∈ wsX110, w ∈ wsX11_ring := fun _ h => List.mem_cons_of_mem _ (List.mem_append_right _ h)
abbrev rmX11_ring : Room := { frames := 6, cells := 0, slots := 0, locals := 166 }
set_option maxRecDepth 100000 in
set_option maxHeartbeats 4000000 in
theorem bX11_ring_88 {p : Program} {l : Launch} {e : Env} {s : State} {m : MethodId} {args : Array Value} {below : List Frame} {meth : Method} {c : Code} {dC : Nat → ClassId} {dI : Nat → Nat → Nat} {cyI cyB cyJ cyZ : ClassId} {A : Nat → Prop} {a0 a1 a2 a3 a4 b0_image b0_before b0_taken b0_tape b0_five b0_lead b0_walk b0_ends b0_manX b0_manY b0_dogX b0_dogY b0_row b0_farOne b0_leads b0_drags b0_from b0_near : Nat} {g0_hasImage : Int32} {g0_remembered : Int32} {g0_taped : Int32} {g0_point : Int32} {g0_end : Int32} {g0_begin : Int32} {g0_deep : Int32} {g0_faultAt : Int32} {g0_steps : Int32} (C0 : cxM p s m meth c args wsX11_ring RX11 cX11_ring 8 (some .int)) (hK : va_K (dC, dI) vwCl (tyA cyI cyB cyJ cyZ) s) (hN : nwA s) (hA : ∀ q : Nat, s.heap.size ≤ q → A q) {post : Int32 → (Int32 × Int32 × Int32 × (Nat → Int32) × (Nat → Int32) × (Nat → Int32)) → Prop} {f1 : Nat → Int32} {k53 : Int32 → Int32 → Int32 → (Nat → Int32) → (Nat → Int32) → (Nat → Int32) → Int32 → Int32 → Int32 → Int32 → Prop} {Q : State → Prop} (hQ : Q = MQ below (va_Qi post (fun u : Int32 × Int32 × Int32 × (Nat → Int32) × (Nat → Int32) × (Nat → Int32) => wAt dC dI cyI cyB cyJ cyZ A (ceX11_ring cyI cyB cyJ cyZ a0 a1 a2 a3 a4 b0_image b0_before b0_taken b0_tape b0_five b0_lead b0_walk b0_ends b0_manX b0_manY b0_dogX b0_dogY b0_row b0_farOne b0_leads b0_drags b0_from b0_near g0_hasImage g0_remembered g0_taped g0_point g0_end g0_begin g0_deep g0_faultAt g0_steps f1 u.1 u.2.1 u.2.2.1 u.2.2.2.1 u.2.2.2.2.1 u.2.2.2.2.2)) A) args s 0 0 A) (hk53 : ∀ (g0_thrown : Int32) (g0_men : Int32) (g0_dogs : Int32) (f2 : Nat → Int32) (f3 : Nat → Int32) (f4 : Nat → Int32) (x3 : Int32) (x4 : Int32) (x5 : Int32) (x6 : Int32), k53 g0_thrown g0_men g0_dogs f2 f3 f4 x3 x4 x5 x6 → AtW p l e rmX11_ring s m args below meth c dC dI A Q 8 0 0 (ceX11_ring cyI cyB cyJ cyZ a0 a1 a2 a3 a4 b0_image b0_before b0_taken b0_tape b0_five b0_lead b0_walk b0_ends b0_manX b0_manY b0_dogX b0_dogY b0_row b0_farOne b0_leads b0_drags b0_from b0_near g0_hasImage g0_remembered g0_taped g0_point g0_end g0_begin g0_deep g0_faultAt g0_steps f1 g0_thrown g0_men g0_dogs f2 f3 f4) [(0, .ref a0), (3, .int x3), (4, .int x4), (5, .int x5), (6, .int x6)] 53 []) : ∀ (g0_thrown : Int32) (g0_men : Int32) (g0_dogs : Int32) (f2 : Nat → Int32) (f3 : Nat → Int32) (f4 : Nat → Int32) (x3 : Int32) (x4 : Int32) (x5 : Int32) (x6 : Int32), wpX11_ring_88 k53 post f1 g0_thrown g0_men g0_dogs f2 f3 f4 x3 x4 x5 x6 → AtW p l e rmX11_ring s m args below meth c dC dI A Q 8 0 0 (ceX11_ring cyI cyB cyJ cyZ a0 a1 a2 a3 a4 b0_image b0_before b0_taken b0_tape b0_five b0_lead b0_walk b0_ends b0_manX b0_manY b0_dogX b0_dogY b0_row b0_farOne b0_leads b0_drags b0_from b0_near g0_hasImage g0_remembered g0_taped g0_point g0_end g0_begin g0_deep g0_faultAt g0_steps f1 g0_thrown g0_men g0_dogs f2 f3 f4) [(0, .ref a0), (3, .int x3), (4, .int x4), (5, .int x5), (6, .int x6)] 88 [] := by
  intro g0_thrown g0_men g0_dogs f2 f3 f4 x3 x4 x5 x6 hw H locs hP hD hS ls hl
  have C1 := C0
  obtain ⟨hx, hb, hr, hml, hown, hts, hlocks⟩ := C1
  obtain ⟨v1, ev1⟩ : ∃ y : Int32, y = x6 + 1 := ⟨_, rfl⟩
  have hw := hw v1 ev1
  refine lv_iinc (v := v1) (lv' := [(6, .int v1), (0, .ref a0), (3, .int x3), (4, .int x4), (5, .int x5)]) hx hb dX11_ring_88 hl (k := 4) rfl (by rw [ev1]; rfl) (by decide) rfl (fun ls hl => ?_)
  refine lv_goto (tgt := 53) hx hb dX11_ring_91 (by decide) ?_
  exact hk53 g0_thrown g0_men g0_dogs f2 f3 f4 x3 x4 x5 v1 hw H locs hP hD hS ls (lv_sub hl [1, 2, 3, 4, 0] rfl)
set_option maxRecDepth 100000 in
set_option maxHeartbeats 4000000 in
theorem bX11_ring_53 {p : Program} {l : Launch} {e : Env} {s : State} {m : MethodId} {args : Array Value} {below : List Frame} {meth : Method} {c : Code} {dC : Nat → ClassId} {dI : Nat → Nat → Nat} {cyI cyB cyJ cyZ : ClassId} {A : Nat → Prop} {a0 a1 a2 a3 a4 b0_image b0_before b0_taken b0_tape b0_five b0_lead b0_walk b0_ends b0_manX b0_manY b0_dogX b0_dogY b0_row b0_farOne b0_leads b0_drags b0_from b0_near : Nat} {g0_hasImage : Int32} {g0_remembered : Int32} {g0_taped : Int32} {g0_point : Int32} {g0_end : Int32} {g0_begin : Int32} {g0_deep : Int32} {g0_faultAt : Int32} {g0_steps : Int32} (C0 : cxM p s m meth c args wsX11_ring RX11 cX11_ring 8 (some .int)) (hK : va_K (dC, dI) vwCl (tyA cyI cyB cyJ cyZ) s) (hN : nwA s) (hA : ∀ q : Nat, s.heap.size ≤ q → A q) {post : Int32 → (Int32 × Int32 × Int32 × (Nat → Int32) × (Nat → Int32) × (Nat → Int32)) → Prop} {f1 : Nat → Int32} {Q : State → Prop} (hQ : Q = MQ below (va_Qi post (fun u : Int32 × Int32 × Int32 × (Nat → Int32) × (Nat → Int32) × (Nat → Int32) => wAt dC dI cyI cyB cyJ cyZ A (ceX11_ring cyI cyB cyJ cyZ a0 a1 a2 a3 a4 b0_image b0_before b0_taken b0_tape b0_five b0_lead b0_walk b0_ends b0_manX b0_manY b0_dogX b0_dogY b0_row b0_farOne b0_leads b0_drags b0_from b0_near g0_hasImage g0_remembered g0_taped g0_point g0_end g0_begin g0_deep g0_faultAt g0_steps f1 u.1 u.2.1 u.2.2.1 u.2.2.2.1 u.2.2.2.2.1 u.2.2.2.2.2)) A) args s 0 0 A) : ∀ (n : Nat) (g0_thrown : Int32) (g0_men : Int32) (g0_dogs : Int32) (f2 : Nat → Int32) (f3 : Nat → Int32) (f4 : Nat → Int32) (x3 : Int32) (x4 : Int32) (x5 : Int32) (x6 : Int32), wpX11_ring_53 post f1 n g0_thrown g0_men g0_dogs f2 f3 f4 x3 x4 x5 x6 → AtW p l e rmX11_ring s m args below meth c dC dI A Q 8 0 0 (ceX11_ring cyI cyB cyJ cyZ a0 a1 a2 a3 a4 b0_image b0_before b0_taken b0_tape b0_five b0_lead b0_walk b0_ends b0_manX b0_manY b0_dogX b0_dogY b0_row b0_farOne b0_leads b0_drags b0_from b0_near g0_hasImage g0_remembered g0_taped g0_point g0_end g0_begin g0_deep g0_faultAt g0_steps f1 g0_thrown g0_men g0_dogs f2 f3 f4) [(0, .ref a0), (3, .int x3), (4, .int x4), (5, .int x5), (6, .int x6)] 53 [] := by
  intro n
  induction n with
  | zero => intro g0_thrown g0_men g0_dogs f2 f3 f4 x3 x4 x5 x6 hw; exact False.elim hw
  | succ n ih =>
    intro g0_thrown g0_men g0_dogs f2 f3 f4 x3 x4 x5 x6 hw H locs hP hD hS ls hl
    have C1 := C0
    obtain ⟨hx, hb, hr, hml, hown, hts, hlocks⟩ := C1
    refine lv_iload hx hb dX11_ring_53 (lv_at hl 4 rfl) ?_
    refine lv_aload_n hx hb dX11_ring_55 rfl (lv_at hl 0 rfl) ?_
    refine va_get (D := (dC, dI)) (ci := 11) (v := .int g0_dogs) (C := RX11) (T := TX11) (N := 34) hx hb hts inX11_ring_X11 hown hK hP 0 rfl rfl 19 (by decide) (hts (.fieldLink RX11 303 "LeadParkModel" "dogs" "I") (List.mem_of_getElem? (i := 3) rfl)) (fun _ h9 => h9) rfl dX11_ring_56 ?_
    refine lv_icmp_ge (tgt := 94) hx hb dX11_ring_59 (by decide) (fun hc => ?_) (fun hc => ?_)
    · have hw := hw.1 hc
      refine lv_iload_n hx hb dX11_ring_94 rfl (lv_at hl 1 rfl) ?_
      refine lv_if_eq (tgt := 103) hx hb dX11_ring_95 (by decide) (fun hc => ?_) (fun hc => ?_)
      · have hw := hw.1 hc
        refine lv_iload hx hb dX11_ring_103 (lv_at hl 3 rfl) ?_
        have hPc := hP.sub (ws' := ([] : va_W)) [] rfl
        have hDc := hD.sub (ws' := ([] : va_W)) [] (by decide) rfl
        have hFc := va_free (wc := ([] : va_W)) hD hS hA [] rfl
        refine va_calli (va_runS (As := [.int x5]) (rest := []) ⟨hx, hb, hml, hown, hts⟩ (ctX11_orNone l dC dI cyI cyB cyJ cyZ _ x5 _ hw) (va_cwS 1 hts gX11_ring_X11_orNone rfl rfl rfl (by decide +kernel) ⟨Nat.le_of_ble_eq_true rfl, Nat.le_of_ble_eq_true rfl⟩) ⟨wPre_blind, fun U hU hW => wPre_of hPc hK hDc hN hU hW⟩ rfl rfl hl.1 rfl (lv_room (Nat.le_of_ble_eq_true rfl)) dX11_ring_105 ⟨(Nat.zero_le _), (Nat.zero_le _)⟩) hS (fun q _ h => hFc q h) hFc (fun r2 u1 t H1 locs ht hvm hw hB hz1 hk1 hS => ?_)
        obtain ⟨hP1, hK1, hD1⟩ := hB
        rw [ht] at hP1
        obtain ⟨hP, hD⟩ := va_join (wr := pickW (ceX11_ring cyI cyB cyJ cyZ a0 a1 a2 a3 a4 b0_image b0_before b0_taken b0_tape b0_five b0_lead b0_walk b0_ends b0_manX b0_manY b0_dogX b0_dogY b0_row b0_farOne b0_leads b0_drags b0_from b0_near g0_hasImage g0_remembered g0_taped g0_point g0_end g0_begin g0_deep g0_faultAt g0_steps f1 g0_thrown g0_men g0_dogs f2 f3 f4) [0, 1, 2, 3, 4]) (w1 := ([] : va_W)) hP hD [] [0, 1, 2, 3, 4] rfl rfl (by decide) (by decide) hk1 hFc hP1 hD1
        have hP := hP.sub (ws' := (ceX11_ring cyI cyB cyJ cyZ a0 a1 a2 a3 a4 b0_image b0_before b0_taken b0_tape b0_five b0_lead b0_walk b0_ends b0_manX b0_manY b0_dogX b0_dogY b0_row b0_farOne b0_leads b0_drags b0_from b0_near g0_hasImage g0_remembered g0_taped g0_point g0_end g0_begin g0_deep g0_faultAt g0_steps f1 g0_thrown g0_men g0_dogs f2 f3 f4)) [0, 1, 2, 3, 4] rfl
        have hD := hD.sub (ws' := (ceX11_ring cyI cyB cyJ cyZ a0 a1 a2 a3 a4 b0_image b0_before b0_taken b0_tape b0_five b0_lead b0_walk b0_ends b0_manX b0_manY b0_dogX b0_dogY b0_row b0_farOne b0_leads b0_drags b0_from b0_near g0_hasImage g0_remembered g0_taped g0_point g0_end g0_begin g0_deep g0_faultAt g0_steps f1 g0_thrown g0_men g0_dogs f2 f3 f4)) [0, 1, 2, 3, 4] (by decide) rfl
        generalize H1 = H at hP hS ⊢
        rw [hQ]
        exact W.iret (v := r2) hx hb hr (fun t ht hW => ⟨⟨r2, (g0_thrown, g0_men, g0_dogs, f2, f3, f4), rfl, hw, by rw [ht]; exact hP, va_K.moved hW.alike hK, hD⟩, hS.F ht⟩) hS.2.2 dX11_ring_108
      · have hw := hw.2 hc
        refine lv_iload hx hb dX11_ring_98 (lv_at hl 2 rfl) ?_
        refine lv_goto (tgt := 108) hx hb dX11_ring_100 (by decide) ?_
        rw [hQ]
        exact W.iret (v := x4) hx hb hr (fun t ht hW => ⟨⟨x4, (g0_thrown, g0_men, g0_dogs, f2, f3, f4), rfl, hw, by rw [ht]; exact hP, va_K.moved hW.alike hK, hD⟩, hS.F ht⟩) hS.2.2 dX11_ring_108
    · have hw := hw.2 hc
      refine lv_aload_n hx hb dX11_ring_62 rfl (lv_at hl 0 rfl) ?_
      refine lv_iload hx hb dX11_ring_63 (lv_at hl 4 rfl) ?_
      have hPc := hP.sub (ws' := (ceX11_roundLead cyI cyB cyJ cyZ a0 a3 a4 a1 b0_image b0_before b0_taken b0_tape b0_five a2 b0_lead b0_walk b0_ends b0_manX b0_manY b0_dogX b0_dogY b0_row b0_farOne b0_leads b0_drags b0_from b0_near g0_thrown g0_hasImage g0_remembered g0_taped g0_point g0_end g0_begin g0_deep g0_faultAt g0_steps g0_men g0_dogs f3 f4)) [0, 3, 4] rfl
      have hDc := hD.sub (ws' := (ceX11_roundLead cyI cyB cyJ cyZ a0 a3 a4 a1 b0_image b0_before b0_taken b0_tape b0_five a2 b0_lead b0_walk b0_ends b0_manX b0_manY b0_dogX b0_dogY b0_row b0_farOne b0_leads b0_drags b0_from b0_near g0_thrown g0_hasImage g0_remembered g0_taped g0_point g0_end g0_begin g0_deep g0_faultAt g0_steps g0_men g0_dogs f3 f4)) [0, 3, 4] (by decide) rfl
      have hFc := va_free (wc := (ceX11_roundLead cyI cyB cyJ cyZ a0 a3 a4 a1 b0_image b0_before b0_taken b0_tape b0_five a2 b0_lead b0_walk b0_ends b0_manX b0_manY b0_dogX b0_dogY b0_row b0_farOne b0_leads b0_drags b0_from b0_near g0_thrown g0_hasImage g0_remembered g0_taped g0_point g0_end g0_begin g0_deep g0_faultAt g0_steps g0_men g0_dogs f3 f4)) hD hS hA [0, 3, 4] rfl
      refine va_calli (va_runV (As := [.int x6]) (rest := []) ⟨hx, hb, hml, hown, hts⟩ (ctX11_roundLead l dC dI cyI cyB cyJ cyZ _ a0 a3 a4 a1 b0_image b0_before b0_taken b0_tape b0_five a2 b0_lead b0_walk b0_ends b0_manX b0_manY b0_dogX b0_dogY b0_row b0_farOne b0_leads b0_drags b0_from b0_near g0_thrown g0_hasImage g0_remembered g0_taped g0_point g0_end g0_begin g0_deep g0_faultAt g0_steps g0_men g0_dogs f3 f4 x6 _ hw) (cwV 1 hts gX11_ring_X11_roundLead rfl rfl rfl (by decide +kernel) ⟨Nat.le_of_ble_eq_true rfl, Nat.le_of_ble_eq_true rfl⟩) ⟨wPre_blind, va_recv hK hPc (ci := 11) (q0 := 0) rfl rfl, fun U hU hW => wPre_of hPc hK hDc hN hU hW⟩ rfl rfl hl.1 rfl (lv_room (Nat.le_of_ble_eq_true rfl)) dX11_ring_65 ⟨(Nat.zero_le _), (Nat.zero_le _)⟩) hS (fun q _ h => hFc q h) hFc (fun r4 u3 t H1 locs ht hvm hw hB hz1 hk1 hS => ?_)
      obtain ⟨hP1, hK1, hD1⟩ := hB
      rw [ht] at hP1
      obtain ⟨hP, hD⟩ := va_join (wr := pickW (ceX11_ring cyI cyB cyJ cyZ a0 a1 a2 a3 a4 b0_image b0_before b0_taken b0_tape b0_five b0_lead b0_walk b0_ends b0_manX b0_manY b0_dogX b0_dogY b0_row b0_farOne b0_leads b0_drags b0_from b0_near g0_hasImage g0_remembered g0_taped g0_point g0_end g0_begin g0_deep g0_faultAt g0_steps f1 g0_thrown g0_men g0_dogs f2 f3 f4) [1, 2]) (w1 := (ceX11_roundLead cyI cyB cyJ cyZ a0 a3 a4 a1 b0_image b0_before b0_taken b0_tape b0_five a2 b0_lead b0_walk b0_ends b0_manX b0_manY b0_dogX b0_dogY b0_row b0_farOne b0_leads b0_drags b0_from b0_near g0_thrown g0_hasImage g0_remembered g0_taped g0_point g0_end g0_begin g0_deep g0_faultAt g0_steps g0_men g0_dogs f3 u3)) hP hD [0, 3, 4] [1, 2] rfl rfl (by decide) (by decide) hk1 hFc hP1 hD1
      have hP := hP.sub (ws' := (ceX11_ring cyI cyB cyJ cyZ a0 a1 a2 a3 a4 b0_image b0_before b0_taken b0_tape b0_five b0_lead b0_walk b0_ends b0_manX b0_manY b0_dogX b0_dogY b0_row b0_farOne b0_leads b0_drags b0_from b0_near g0_hasImage g0_remembered g0_taped g0_point g0_end g0_begin g0_deep g0_faultAt g0_steps f1 g0_thrown g0_men g0_dogs f2 f3 u3)) [2, 0, 1, 3, 4] rfl
      have hD := hD.sub (ws' := (ceX11_ring cyI cyB cyJ cyZ a0 a1 a2 a3 a4 b0_image b0_before b0_taken b0_tape b0_five b0_lead b0_walk b0_ends b0_manX b0_manY b0_dogX b0_dogY b0_row b0_farOne b0_leads b0_drags b0_from b0_near g0_hasImage g0_remembered g0_taped g0_point g0_end g0_begin g0_deep g0_faultAt g0_steps f1 g0_thrown g0_men g0_dogs f2 f3 u3)) [2, 0, 1, 3, 4] (by decide) rfl
      generalize H1 = H at hP hS ⊢
      refine lv_istore (lv' := [(7, .int r4), (0, .ref a0), (3, .int x3), (4, .int x4), (5, .int x5), (6, .int x6)]) hx hb dX11_ring_68 hl (by decide) rfl (fun ls hl => ?_)
      refine lv_iload hx hb dX11_ring_70 (lv_at hl 0 rfl) ?_
      refine lv_iload hx hb dX11_ring_72 (lv_at hl 4 rfl) ?_
      refine lv_icmp_lt (tgt := 80) hx hb dX11_ring_74 (by decide) (fun hc => ?_) (fun hc => ?_)
      · have hw := hw.1 hc
        refine lv_iload hx hb dX11_ring_80 (lv_at hl 5 rfl) ?_
        refine lv_istore (lv' := [(4, .int x6), (7, .int r4), (0, .ref a0), (3, .int x3), (5, .int x5), (6, .int x6)]) hx hb dX11_ring_82 hl (by decide) rfl (fun ls hl => ?_)
        refine lv_iload hx hb dX11_ring_84 (lv_at hl 1 rfl) ?_
        refine lv_istore (lv' := [(5, .int r4), (4, .int x6), (7, .int r4), (0, .ref a0), (3, .int x3), (6, .int x6)]) hx hb dX11_ring_86 hl (by decide) rfl (fun ls hl => ?_)
        exact bX11_ring_88 C0 hK hN hA hQ ih g0_thrown g0_men g0_dogs f2 f3 u3 x3 x6 r4 x6 hw _ _ hP hD hS ls (lv_sub hl [3, 4, 1, 0, 5] rfl)
      · have hw := hw.2 hc
        refine lv_goto (tgt := 88) hx hb dX11_ring_77 (by decide) ?_
        exact bX11_ring_88 C0 hK hN hA hQ ih g0_thrown g0_men g0_dogs f2 f3 u3 x3 x4 x5 x6 hw _ _ hP hD hS ls (lv_sub hl [1, 2, 3, 4, 5] rfl)
set_option maxRecDepth 100000 in
set_option maxHeartbeats 4000000 in
theorem bX11_ring_27 {p : Program} {l : Launch} {e : Env} {s : State} {m : MethodId} {args : Array Value} {below : List Frame} {meth : Method} {c : Code} {dC : Nat → ClassId} {dI : Nat → Nat → Nat} {cyI cyB cyJ cyZ : ClassId} {A : Nat → Prop} {a0 a1 a2 a3 a4 b0_image b0_before b0_taken b0_tape b0_five b0_lead b0_walk b0_ends b0_manX b0_manY b0_dogX b0_dogY b0_row b0_farOne b0_leads b0_drags b0_from b0_near : Nat} {g0_hasImage : Int32} {g0_remembered : Int32} {g0_taped : Int32} {g0_point : Int32} {g0_end : Int32} {g0_begin : Int32} {g0_deep : Int32} {g0_faultAt : Int32} {g0_steps : Int32} (C0 : cxM p s m meth c args wsX11_ring RX11 cX11_ring 8 (some .int)) (hK : va_K (dC, dI) vwCl (tyA cyI cyB cyJ cyZ) s) (hN : nwA s) (hA : ∀ q : Nat, s.heap.size ≤ q → A q) {post : Int32 → (Int32 × Int32 × Int32 × (Nat → Int32) × (Nat → Int32) × (Nat → Int32)) → Prop} {f1 : Nat → Int32} {Q : State → Prop} (hQ : Q = MQ below (va_Qi post (fun u : Int32 × Int32 × Int32 × (Nat → Int32) × (Nat → Int32) × (Nat → Int32) => wAt dC dI cyI cyB cyJ cyZ A (ceX11_ring cyI cyB cyJ cyZ a0 a1 a2 a3 a4 b0_image b0_before b0_taken b0_tape b0_five b0_lead b0_walk b0_ends b0_manX b0_manY b0_dogX b0_dogY b0_row b0_farOne b0_leads b0_drags b0_from b0_near g0_hasImage g0_remembered g0_taped g0_point g0_end g0_begin g0_deep g0_faultAt g0_steps f1 u.1 u.2.1 u.2.2.1 u.2.2.2.1 u.2.2.2.2.1 u.2.2.2.2.2)) A) args s 0 0 A) : ∀ (g0_thrown : Int32) (g0_men : Int32) (g0_dogs : Int32) (f2 : Nat → Int32) (f3 : Nat → Int32) (f4 : Nat → Int32) (x1 : Int32) (x2 : Int32) (x3 : Int32) (s1 : Int32), wpX11_ring_27 post f1 g0_thrown g0_men g0_dogs f2 f3 f4 x1 x2 x3 s1 → AtW p l e rmX11_ring s m args below meth c dC dI A Q 8 0 0 (ceX11_ring cyI cyB cyJ cyZ a0 a1 a2 a3 a4 b0_image b0_before b0_taken b0_tape b0_five b0_lead b0_walk b0_ends b0_manX b0_manY b0_dogX b0_dogY b0_row b0_farOne b0_leads b0_drags b0_from b0_near g0_hasImage g0_remembered g0_taped g0_point g0_end g0_begin g0_deep g0_faultAt g0_steps f1 g0_thrown g0_men g0_dogs f2 f3 f4) [(0, .ref a0), (1, .int x1), (2, .int x2), (3, .int x3)] 27 [.int s1, .ref a0] := by
  intro g0_thrown g0_men g0_dogs f2 f3 f4 x1 x2 x3 s1 hw H locs hP hD hS ls hl
  have C1 := C0
  obtain ⟨hx, hb, hr, hml, hown, hts, hlocks⟩ := C1
  refine lv_iconst (v := 1) hx hb dX11_ring_27 (by decide) ?_
  have hPc := hP.sub (ws' := (ceX11_throwsIf cyI cyB cyJ cyZ a0 a1 b0_image b0_before b0_taken b0_tape b0_five a2 a3 b0_lead b0_walk b0_ends b0_manX b0_manY b0_dogX b0_dogY b0_row a4 b0_farOne b0_leads b0_drags b0_from b0_near g0_hasImage g0_remembered g0_taped g0_point g0_end g0_begin g0_deep g0_faultAt g0_steps g0_men g0_dogs g0_thrown)) [0] rfl
  have hDc := hD.sub (ws' := (ceX11_throwsIf cyI cyB cyJ cyZ a0 a1 b0_image b0_before b0_taken b0_tape b0_five a2 a3 b0_lead b0_walk b0_ends b0_manX b0_manY b0_dogX b0_dogY b0_row a4 b0_farOne b0_leads b0_drags b0_from b0_near g0_hasImage g0_remembered g0_taped g0_point g0_end g0_begin g0_deep g0_faultAt g0_steps g0_men g0_dogs g0_thrown)) [0] (by decide) rfl
  have hFc := va_free (wc := (ceX11_throwsIf cyI cyB cyJ cyZ a0 a1 b0_image b0_before b0_taken b0_tape b0_five a2 a3 b0_lead b0_walk b0_ends b0_manX b0_manY b0_dogX b0_dogY b0_row a4 b0_farOne b0_leads b0_drags b0_from b0_near g0_hasImage g0_remembered g0_taped g0_point g0_end g0_begin g0_deep g0_faultAt g0_steps g0_men g0_dogs g0_thrown)) hD hS hA [0] rfl
  refine va_calli (va_runV (As := [.int s1, .int 1]) (rest := []) ⟨hx, hb, hml, hown, hts⟩ (ctX11_throwsIf l dC dI cyI cyB cyJ cyZ _ a0 a1 b0_image b0_before b0_taken b0_tape b0_five a2 a3 b0_lead b0_walk b0_ends b0_manX b0_manY b0_dogX b0_dogY b0_row a4 b0_farOne b0_leads b0_drags b0_from b0_near g0_hasImage g0_remembered g0_taped g0_point g0_end g0_begin g0_deep g0_faultAt g0_steps g0_men g0_dogs g0_thrown s1 1 _ hw) (cwV 2 hts gX11_ring_X11_throwsIf rfl rfl rfl (by decide +kernel) ⟨Nat.le_of_ble_eq_true rfl, Nat.le_of_ble_eq_true rfl⟩) ⟨wPre_blind, va_recv hK hPc (ci := 11) (q0 := 0) rfl rfl, fun U hU hW => wPre_of hPc hK hDc hN hU hW⟩ rfl rfl hl.1 rfl (lv_room (Nat.le_of_ble_eq_true rfl)) dX11_ring_28 ⟨(Nat.zero_le _), (Nat.zero_le _)⟩) hS (fun q _ h => hFc q h) hFc (fun r2 u1 t H1 locs ht hvm hw hB hz1 hk1 hS => ?_)
  obtain ⟨hP1, hK1, hD1⟩ := hB
  rw [ht] at hP1
  obtain ⟨hP, hD⟩ := va_join (wr := pickW (ceX11_ring cyI cyB cyJ cyZ a0 a1 a2 a3 a4 b0_image b0_before b0_taken b0_tape b0_five b0_lead b0_walk b0_ends b0_manX b0_manY b0_dogX b0_dogY b0_row b0_farOne b0_leads b0_drags b0_from b0_near g0_hasImage g0_remembered g0_taped g0_point g0_end g0_begin g0_deep g0_faultAt g0_steps f1 g0_thrown g0_men g0_dogs f2 f3 f4) [1, 2, 3, 4]) (w1 := (ceX11_throwsIf cyI cyB cyJ cyZ a0 a1 b0_image b0_before b0_taken b0_tape b0_five a2 a3 b0_lead b0_walk b0_ends b0_manX b0_manY b0_dogX b0_dogY b0_row a4 b0_farOne b0_leads b0_drags b0_from b0_near g0_hasImage g0_remembered g0_taped g0_point g0_end g0_begin g0_deep g0_faultAt g0_steps g0_men g0_dogs u1)) hP hD [0] [1, 2, 3, 4] rfl rfl (by decide) (by decide) hk1 hFc hP1 hD1
  have hP := hP.sub (ws' := (ceX11_ring cyI cyB cyJ cyZ a0 a1 a2 a3 a4 b0_image b0_before b0_taken b0_tape b0_five b0_lead b0_walk b0_ends b0_manX b0_manY b0_dogX b0_dogY b0_row b0_farOne b0_leads b0_drags b0_from b0_near g0_hasImage g0_remembered g0_taped g0_point g0_end g0_begin g0_deep g0_faultAt g0_steps f1 u1 g0_men g0_dogs f2 f3 f4)) [4, 0, 1, 2, 3] rfl
  have hD := hD.sub (ws' := (ceX11_ring cyI cyB cyJ cyZ a0 a1 a2 a3 a4 b0_image b0_before b0_taken b0_tape b0_five b0_lead b0_walk b0_ends b0_manX b0_manY b0_dogX b0_dogY b0_row b0_farOne b0_leads b0_drags b0_from b0_near g0_hasImage g0_remembered g0_taped g0_point g0_end g0_begin g0_deep g0_faultAt g0_steps f1 u1 g0_men g0_dogs f2 f3 f4)) [4, 0, 1, 2, 3] (by decide) rfl
  generalize H1 = H at hP hS ⊢
  refine lv_if_eq (tgt := 36) hx hb dX11_ring_31 (by decide) (fun hc => ?_) (fun hc => ?_)
  · have hw := hw.1 hc
    refine lv_aload_n hx hb dX11_ring_36 rfl (lv_at hl 0 rfl) ?_
    refine lv_iload_n hx hb dX11_ring_37 rfl (lv_at hl 1 rfl) ?_
    refine lv_iload_n hx hb dX11_ring_38 rfl (lv_at hl 2 rfl) ?_
    have hPc := hP.sub (ws' := (ceX11_lays cyI cyB cyJ cyZ a0 a1 a2 a3 b0_image b0_before b0_taken b0_tape b0_five b0_lead b0_walk b0_ends b0_manX b0_manY b0_dogX b0_dogY b0_row a4 b0_farOne b0_leads b0_drags b0_from b0_near u1 g0_hasImage g0_remembered g0_taped g0_point g0_end g0_begin g0_deep g0_faultAt g0_steps f1 g0_men g0_dogs f2 f3)) [0, 1, 2, 3] rfl
    have hDc := hD.sub (ws' := (ceX11_lays cyI cyB cyJ cyZ a0 a1 a2 a3 b0_image b0_before b0_taken b0_tape b0_five b0_lead b0_walk b0_ends b0_manX b0_manY b0_dogX b0_dogY b0_row a4 b0_farOne b0_leads b0_drags b0_from b0_near u1 g0_hasImage g0_remembered g0_taped g0_point g0_end g0_begin g0_deep g0_faultAt g0_steps f1 g0_men g0_dogs f2 f3)) [0, 1, 2, 3] (by decide) rfl
    have hFc := va_free (wc := (ceX11_lays cyI cyB cyJ cyZ a0 a1 a2 a3 b0_image b0_before b0_taken b0_tape b0_five b0_lead b0_walk b0_ends b0_manX b0_manY b0_dogX b0_dogY b0_row a4 b0_farOne b0_leads b0_drags b0_from b0_near u1 g0_hasImage g0_remembered g0_taped g0_point g0_end g0_begin g0_deep g0_faultAt g0_steps f1 g0_men g0_dogs f2 f3)) hD hS hA [0, 1, 2, 3] rfl
    refine va_callv (va_runV (As := [.int x1, .int x2]) (rest := []) ⟨hx, hb, hml, hown, hts⟩ (ctX11_lays l dC dI cyI cyB cyJ cyZ _ a0 a1 a2 a3 b0_image b0_before b0_taken b0_tape b0_five b0_lead b0_walk b0_ends b0_manX b0_manY b0_dogX b0_dogY b0_row a4 b0_farOne b0_leads b0_drags b0_from b0_near u1 g0_hasImage g0_remembered g0_taped g0_point g0_end g0_begin g0_deep g0_faultAt g0_steps f1 g0_men g0_dogs f2 f3 x1 x2 _ hw) (cwV 2 hts gX11_ring_X11_lays rfl rfl rfl (by decide +kernel) ⟨Nat.le_of_ble_eq_true rfl, Nat.le_of_ble_eq_true rfl⟩) ⟨wPre_blind, va_recv hK hPc (ci := 11) (q0 := 0) rfl rfl, fun U hU hW => wPre_of hPc hK hDc hN hU hW⟩ rfl rfl hl.1 rfl (lv_room (Nat.le_of_ble_eq_true rfl)) dX11_ring_39 ⟨(Nat.zero_le _), (Nat.zero_le _)⟩) hS (fun q _ h => hFc q h) hFc (fun u3 t H1 locs ht hvm hw hB hz1 hk1 hS => ?_)
    obtain ⟨hP1, hK1, hD1⟩ := hB
    rw [ht] at hP1
    obtain ⟨hP, hD⟩ := va_join (wr := pickW (ceX11_ring cyI cyB cyJ cyZ a0 a1 a2 a3 a4 b0_image b0_before b0_taken b0_tape b0_five b0_lead b0_walk b0_ends b0_manX b0_manY b0_dogX b0_dogY b0_row b0_farOne b0_leads b0_drags b0_from b0_near g0_hasImage g0_remembered g0_taped g0_point g0_end g0_begin g0_deep g0_faultAt g0_steps f1 u1 g0_men g0_dogs f2 f3 f4) [4]) (w1 := (ceX11_lays cyI cyB cyJ cyZ a0 a1 a2 a3 b0_image b0_before b0_taken b0_tape b0_five b0_lead b0_walk b0_ends b0_manX b0_manY b0_dogX b0_dogY b0_row a4 b0_farOne b0_leads b0_drags b0_from b0_near u1 g0_hasImage g0_remembered g0_taped g0_point g0_end g0_begin g0_deep g0_faultAt g0_steps f1 u3.1 u3.2.1 u3.2.2.1 u3.2.2.2)) hP hD [0, 1, 2, 3] [4] rfl rfl (by decide) (by decide) hk1 hFc hP1 hD1
    have hP := hP.sub (ws' := (ceX11_ring cyI cyB cyJ cyZ a0 a1 a2 a3 a4 b0_image b0_before b0_taken b0_tape b0_five b0_lead b0_walk b0_ends b0_manX b0_manY b0_dogX b0_dogY b0_row b0_farOne b0_leads b0_drags b0_from b0_near g0_hasImage g0_remembered g0_taped g0_point g0_end g0_begin g0_deep g0_faultAt g0_steps f1 u1 u3.1 u3.2.1 u3.2.2.1 u3.2.2.2 f4)) [1, 2, 3, 4, 0] rfl
    have hD := hD.sub (ws' := (ceX11_ring cyI cyB cyJ cyZ a0 a1 a2 a3 a4 b0_image b0_before b0_taken b0_tape b0_five b0_lead b0_walk b0_ends b0_manX b0_manY b0_dogX b0_dogY b0_row b0_farOne b0_leads b0_drags b0_from b0_near g0_hasImage g0_remembered g0_taped g0_point g0_end g0_begin g0_deep g0_faultAt g0_steps f1 u1 u3.1 u3.2.1 u3.2.2.1 u3.2.2.2 f4)) [1, 2, 3, 4, 0] (by decide) rfl
    generalize H1 = H at hP hS ⊢
    refine lv_iconst (v := (-1)) hx hb dX11_ring_42 (by decide) ?_
    refine lv_istore (lv' := [(4, .int (-1)), (0, .ref a0), (1, .int x1), (2, .int x2), (3, .int x3)]) hx hb dX11_ring_43 hl (by decide) rfl (fun ls hl => ?_)
    refine lv_ldcw (v := 2000000000) hx hb hown (hts (.constant RX11 306 (2000000000)) (List.mem_of_getElem? (i := 2) rfl)) dX11_ring_45 ?_
    refine lv_istore (lv' := [(5, .int 2000000000), (4, .int (-1)), (0, .ref a0), (1, .int x1), (2, .int x2), (3, .int x3)]) hx hb dX11_ring_48 hl (by decide) rfl (fun ls hl => ?_)
    refine lv_iconst (v := 0) hx hb dX11_ring_50 (by decide) ?_
    refine lv_istore (lv' := [(6, .int 0), (5, .int 2000000000), (4, .int (-1)), (0, .ref a0), (1, .int x1), (2, .int x2), (3, .int x3)]) hx hb dX11_ring_51 hl (by decide) rfl (fun ls hl => ?_)
    obtain ⟨nn, hw⟩ := hw
    exact bX11_ring_53 C0 hK hN hA hQ nn u1 u3.1 u3.2.1 u3.2.2.1 u3.2.2.2 f4 x3 (-1) 2000000000 0 hw _ _ hP hD hS ls (lv_sub hl [3, 6, 2, 1, 0] rfl)
  · have hw := hw.2 hc
    refine lv_iconst (v := 0) hx hb dX11_ring_34 (by decide) ?_
    rw [hQ]
    exact W.iret (v := 0) hx hb hr (fun t ht hW => ⟨⟨0, (u1, g0_men, g0_dogs, f2, f3, f4), rfl, hw, by rw [ht]; exact hP, va_K.moved hW.alike hK, hD⟩, hS.F ht⟩) hS.2.2 dX11_ring_35
set_option maxRecDepth 100000 in
set_option maxHeartbeats 4000000 in
theorem bX11_ring_22 {p : Program} {l : Launch} {e : Env} {s : State} {m : MethodId} {args : Array Value} {below : List Frame} {meth : Method} {c : Code} {dC : Nat → ClassId} {dI : Nat → Nat → Nat} {cyI cyB cyJ cyZ : ClassId} {A : Nat → Prop} {a0 a1 a2 a3 a4 b0_image b0_before b0_taken b0_tape b0_five b0_lead b0_walk b0_ends b0_manX b0_manY b0_dogX b0_dogY b0_row b0_farOne b0_leads b0_drags b0_from b0_near : Nat} {g0_hasImage : Int32} {g0_remembered : Int32} {g0_taped : Int32} {g0_point : Int32} {g0_end : Int32} {g0_begin : Int32} {g0_deep : Int32} {g0_faultAt : Int32} {g0_steps : Int32} (C0 : cxM p s m meth c args wsX11_ring RX11 cX11_ring 8 (some .int)) (hK : va_K (dC, dI) vwCl (tyA cyI cyB cyJ cyZ) s) (hN : nwA s) (hA : ∀ q : Nat, s.heap.size ≤ q → A q) {post : Int32 → (Int32 × Int32 × Int32 × (Nat → Int32) × (Nat → Int32) × (Nat → Int32)) → Prop} {f1 : Nat → Int32} {Q : State → Prop} (hQ : Q = MQ below (va_Qi post (fun u : Int32 × Int32 × Int32 × (Nat → Int32) × (Nat → Int32) × (Nat → Int32) => wAt dC dI cyI cyB cyJ cyZ A (ceX11_ring cyI cyB cyJ cyZ a0 a1 a2 a3 a4 b0_image b0_before b0_taken b0_tape b0_five b0_lead b0_walk b0_ends b0_manX b0_manY b0_dogX b0_dogY b0_row b0_farOne b0_leads b0_drags b0_from b0_near g0_hasImage g0_remembered g0_taped g0_point g0_end g0_begin g0_deep g0_faultAt g0_steps f1 u.1 u.2.1 u.2.2.1 u.2.2.2.1 u.2.2.2.2.1 u.2.2.2.2.2)) A) args s 0 0 A) : ∀ (g0_thrown : Int32) (g0_men : Int32) (g0_dogs : Int32) (f2 : Nat → Int32) (f3 : Nat → Int32) (f4 : Nat → Int32) (x1 : Int32) (x2 : Int32) (x3 : Int32), wpX11_ring_22 post f1 g0_thrown g0_men g0_dogs f2 f3 f4 x1 x2 x3 → AtW p l e rmX11_ring s m args below meth c dC dI A Q 8 0 0 (ceX11_ring cyI cyB cyJ cyZ a0 a1 a2 a3 a4 b0_image b0_before b0_taken b0_tape b0_five b0_lead b0_walk b0_ends b0_manX b0_manY b0_dogX b0_dogY b0_row b0_farOne b0_leads b0_drags b0_from b0_near g0_hasImage g0_remembered g0_taped g0_point g0_end g0_begin g0_deep g0_faultAt g0_steps f1 g0_thrown g0_men g0_dogs f2 f3 f4) [(0, .ref a0), (1, .int x1), (2, .int x2), (3, .int x3)] 22 [.ref a0] := by
  intro g0_thrown g0_men g0_dogs f2 f3 f4 x1 x2 x3 hw H locs hP hD hS ls hl
  have C1 := C0
  obtain ⟨hx, hb, hr, hml, hown, hts, hlocks⟩ := C1
  refine lv_iconst (v := 1) hx hb dX11_ring_22 (by decide) ?_
  refine lv_goto (tgt := 27) hx hb dX11_ring_23 (by decide) ?_
  exact bX11_ring_27 C0 hK hN hA hQ g0_thrown g0_men g0_dogs f2 f3 f4 x1 x2 x3 1 hw _ _ hP hD hS ls (lv_sub hl [0, 1, 2, 3] rfl)
set_option maxRecDepth 100000 in
set_option maxHeartbeats 4000000 in
theorem ctX11_ring (l : Launch) (dC : Nat → ClassId) (dI : Nat → Nat → Nat) (cyI cyB cyJ cyZ : ClassId) (sz : Nat) (a0 a1 a2 a3 a4 b0_image b0_before b0_taken b0_tape b0_five b0_lead b0_walk b0_ends b0_manX b0_manY b0_dogX b0_dogY b0_row b0_farOne b0_leads b0_drags b0_from b0_near : Nat) (g0_hasImage : Int32) (g0_remembered : Int32) (g0_taped : Int32) (g0_point : Int32) (g0_end : Int32) (g0_begin : Int32) (g0_deep : Int32) (g0_faultAt : Int32) (g0_steps : Int32) (f1 : Nat → Int32) (g0_thrown : Int32) (g0_men : Int32) (g0_dogs : Int32) (f2 : Nat → Int32) (f3 : Nat → Int32) (f4 : Nat → Int32) (p0 : Int32) (p1 : Int32) (p2 : Int32) (post : Int32 → (Int32 × Int32 × Int32 × (Nat → Int32) × (Nat → Int32) × (Nat → Int32)) → Prop) (hw : wpX11_ring post f1 g0_thrown g0_men g0_dogs f2 f3 f4 p0 p1 p2) : Met l yX11_ring wsX11_ring rmX11_ring (va_Pc [.ref a0, .int p0, .int p1, .int p2] (wPre dC dI cyI cyB cyJ cyZ sz (ceX11_ring cyI cyB cyJ cyZ a0 a1 a2 a3 a4 b0_image b0_before b0_taken b0_tape b0_five b0_lead b0_walk b0_ends b0_manX b0_manY b0_dogX b0_dogY b0_row b0_farOne b0_leads b0_drags b0_from b0_near g0_hasImage g0_remembered g0_taped g0_point g0_end g0_begin g0_deep g0_faultAt g0_steps f1 g0_thrown g0_men g0_dogs f2 f3 f4))) (va_Qi post (fun u : Int32 × Int32 × Int32 × (Nat → Int32) × (Nat → Int32) × (Nat → Int32) => wAt dC dI cyI cyB cyJ cyZ (va_A (ceX11_ring cyI cyB cyJ cyZ a0 a1 a2 a3 a4 b0_image b0_before b0_taken b0_tape b0_five b0_lead b0_walk b0_ends b0_manX b0_manY b0_dogX b0_dogY b0_row b0_farOne b0_leads b0_drags b0_from b0_near g0_hasImage g0_remembered g0_taped g0_point g0_end g0_begin g0_deep g0_faultAt g0_steps f1 g0_thrown g0_men g0_dogs f2 f3 f4) sz) (ceX11_ring cyI cyB cyJ cyZ a0 a1 a2 a3 a4 b0_image b0_before b0_taken b0_tape b0_five b0_lead b0_walk b0_ends b0_manX b0_manY b0_dogX b0_dogY b0_row b0_farOne b0_leads b0_drags b0_from b0_near g0_hasImage g0_remembered g0_taped g0_point g0_end g0_begin g0_deep g0_faultAt g0_steps f1 u.1 u.2.1 u.2.2.1 u.2.2.2.1 u.2.2.2.2.1 u.2.2.2.2.2)) (va_A (ceX11_ring cyI cyB cyJ cyZ a0 a1 a2 a3 a4 b0_image b0_before b0_taken b0_tape b0_five b0_lead b0_walk b0_ends b0_manX b0_manY b0_dogX b0_dogY b0_row b0_farOne b0_leads b0_drags b0_from b0_near g0_hasImage g0_remembered g0_taped g0_point g0_end g0_begin g0_deep g0_faultAt g0_steps f1 g0_thrown g0_men g0_dogs f2 f3 f4) sz)) 0 0 (va_A (ceX11_ring cyI cyB cyJ cyZ a0 a1 a2 a3 a4 b0_image b0_before b0_taken b0_tape b0_five b0_lead b0_walk b0_ends b0_manX b0_manY b0_dogX b0_dogY b0_row b0_farOne b0_leads b0_drags b0_from b0_near g0_hasImage g0_remembered g0_taped g0_point g0_end g0_begin g0_deep g0_faultAt g0_steps f1 g0_thrown g0_men g0_dogs f2 f3 f4) sz) := by
  refine Met.ofW (cc := cX11_ring) (maxL := 8) (ret := (some .int)) (by decide) rfl ?_
  intro p e s m args below meth c s₁ B hml hv
  obtain ⟨rfl, hsz, hP, hK, hD0, hN⟩ := hv
  have hx := B.exec
  have hb := B.bytes
  have hr := B.returns
  have hts := atoms_spec (ws := wsX11_ring) B.pre
  have hown : s.vm.findClass RX11 = some m.cls := findClass_of_methodNamed B.named
  have hlocks := B.notSynchronized
  subst hsz
  have hD := hD0.self (sz := s.heap.size)
  generalize hAe : va_A (ceX11_ring cyI cyB cyJ cyZ a0 a1 a2 a3 a4 b0_image b0_before b0_taken b0_tape b0_five b0_lead b0_walk b0_ends b0_manX b0_manY b0_dogX b0_dogY b0_row b0_farOne b0_leads b0_drags b0_from b0_near g0_hasImage g0_remembered g0_taped g0_point g0_end g0_begin g0_deep g0_faultAt g0_steps f1 g0_thrown g0_men g0_dogs f2 f3 f4) s.heap.size = A at hD ⊢
  have hA : ∀ q : Nat, s.heap.size ≤ q → A q := fun q h => by rw [← hAe]; exact Or.inr h
  have hS : va_S A s.heap s.heap [] := va_S.rf
  have C0 : cxM p s m meth c _ wsX11_ring RX11 cX11_ring 8 (some .int) := ⟨hx, hb, hr, hml, hown, hts, hlocks⟩
  have hl := lv_entry ([.ref a0, .int p0, .int p1, .int p2]) (n := 8) (Nat.le_of_ble_eq_true rfl)
  rw [lg_entry_eq]
  generalize (lg_sl ([.ref a0, .int p0, .int p1, .int p2]) ++ List.replicate (8 - (lg_sl ([.ref a0, .int p0, .int p1, .int p2])).length) Slot.unset).toArray = ls at hl ⊢
  have hl : lv_has ls 8 [(0, .ref a0), (1, .int p0), (2, .int p1), (3, .int p2)] := hl
  show W p l e rmX11_ring s m _ below meth c _ _ _ _ _ _
  refine wq (fun Q hQ => ?_)
  refine lv_aload_n hx hb dX11_ring_0 rfl (lv_at hl 0 rfl) ?_
  refine lv_iconst (v := 0) hx hb dX11_ring_1 (by decide) ?_
  refine va_put (D := (dC, dI)) (ci := 11) (v := .int 0) (ty := .int) (C := RX11) (T := TX11) (N := 34) hx hb hts inX11_ring_X11 tyX11 tyX11_ok nmX11 hown hK hP hD hS 0 rfl rfl 0 (by decide) (hts (.fieldLink RX11 3 "LeadParkModel" "thrown" "I") (List.mem_of_getElem? (i := 1) rfl)) (fun _ h9 => h9) rfl (by decide +kernel) rfl rfl (Nat.le_of_ble_eq_true rfl) dX11_ring_2 (fun H locs hP hD hS => ?_)
  have hP : va_P (dC, dI) vwCl (ceX11_ring cyI cyB cyJ cyZ a0 a1 a2 a3 a4 b0_image b0_before b0_taken b0_tape b0_five b0_lead b0_walk b0_ends b0_manX b0_manY b0_dogX b0_dogY b0_row b0_farOne b0_leads b0_drags b0_from b0_near g0_hasImage g0_remembered g0_taped g0_point g0_end g0_begin g0_deep g0_faultAt g0_steps f1 0 g0_men g0_dogs f2 f3 f4) H := hP
  have hD : va_D A (ceX11_ring cyI cyB cyJ cyZ a0 a1 a2 a3 a4 b0_image b0_before b0_taken b0_tape b0_five b0_lead b0_walk b0_ends b0_manX b0_manY b0_dogX b0_dogY b0_row b0_farOne b0_leads b0_drags b0_from b0_near g0_hasImage g0_remembered g0_taped g0_point g0_end g0_begin g0_deep g0_faultAt g0_steps f1 0 g0_men g0_dogs f2 f3 f4) := hD
  refine lv_aload_n hx hb dX11_ring_5 rfl (lv_at hl 0 rfl) ?_
  refine lv_aload_n hx hb dX11_ring_6 rfl (lv_at hl 0 rfl) ?_
  refine lv_iload_n hx hb dX11_ring_7 rfl (lv_at hl 1 rfl) ?_
  have hPc := hP.sub (ws' := (ceX11_noWay cyI cyB cyJ cyZ a0 a1 b0_image b0_before b0_taken b0_tape b0_five a2 a3 b0_lead b0_walk b0_ends b0_manX b0_manY b0_dogX b0_dogY b0_row a4 b0_farOne b0_leads b0_drags b0_from b0_near 0 g0_hasImage g0_remembered g0_taped g0_point g0_end g0_begin g0_deep g0_faultAt g0_steps g0_men g0_dogs f1)) [0, 1] rfl
  have hDc := hD.sub (ws' := (ceX11_noWay cyI cyB cyJ cyZ a0 a1 b0_image b0_before b0_taken b0_tape b0_five a2 a3 b0_lead b0_walk b0_ends b0_manX b0_manY b0_dogX b0_dogY b0_row a4 b0_farOne b0_leads b0_drags b0_from b0_near 0 g0_hasImage g0_remembered g0_taped g0_point g0_end g0_begin g0_deep g0_faultAt g0_steps g0_men g0_dogs f1)) [0, 1] (by decide) rfl
  have hFc := va_free (wc := (ceX11_noWay cyI cyB cyJ cyZ a0 a1 b0_image b0_before b0_taken b0_tape b0_five a2 a3 b0_lead b0_walk b0_ends b0_manX b0_manY b0_dogX b0_dogY b0_row a4 b0_farOne b0_leads b0_drags b0_from b0_near 0 g0_hasImage g0_remembered g0_taped g0_point g0_end g0_begin g0_deep g0_faultAt g0_steps g0_men g0_dogs f1)) hD hS hA [0, 1] rfl
  refine va_calli (va_runV (As := [.int p0]) (rest := [.ref a0]) ⟨hx, hb, hml, hown, hts⟩ (ctX11_noWay l dC dI cyI cyB cyJ cyZ _ a0 a1 b0_image b0_before b0_taken b0_tape b0_five a2 a3 b0_lead b0_walk b0_ends b0_manX b0_manY b0_dogX b0_dogY b0_row a4 b0_farOne b0_leads b0_drags b0_from b0_near 0 g0_hasImage g0_remembered g0_taped g0_point g0_end g0_begin g0_deep g0_faultAt g0_steps g0_men g0_dogs f1 p0 _ hw) (cwV 1 hts gX11_ring_X11_noWay rfl rfl rfl (by decide +kernel) ⟨Nat.le_of_ble_eq_true rfl, Nat.le_of_ble_eq_true rfl⟩) ⟨wPre_blind, va_recv hK hPc (ci := 11) (q0 := 0) rfl rfl, fun U hU hW => wPre_of hPc hK hDc hN hU hW⟩ rfl rfl hl.1 rfl (lv_room (Nat.le_of_ble_eq_true rfl)) dX11_ring_8 ⟨(Nat.zero_le _), (Nat.zero_le _)⟩) hS (fun q _ h => hFc q h) hFc (fun r2 u1 t H1 locs ht hvm hw hB hz1 hk1 hS => ?_)
  obtain ⟨hP1, hK1, hD1⟩ := hB
  rw [ht] at hP1
  obtain ⟨hP, hD⟩ := va_join (wr := pickW (ceX11_ring cyI cyB cyJ cyZ a0 a1 a2 a3 a4 b0_image b0_before b0_taken b0_tape b0_five b0_lead b0_walk b0_ends b0_manX b0_manY b0_dogX b0_dogY b0_row b0_farOne b0_leads b0_drags b0_from b0_near g0_hasImage g0_remembered g0_taped g0_point g0_end g0_begin g0_deep g0_faultAt g0_steps f1 0 g0_men g0_dogs f2 f3 f4) [2, 3, 4]) (w1 := (ceX11_noWay cyI cyB cyJ cyZ a0 a1 b0_image b0_before b0_taken b0_tape b0_five a2 a3 b0_lead b0_walk b0_ends b0_manX b0_manY b0_dogX b0_dogY b0_row a4 b0_farOne b0_leads b0_drags b0_from b0_near 0 g0_hasImage g0_remembered g0_taped g0_point g0_end g0_begin g0_deep g0_faultAt g0_steps g0_men g0_dogs f1)) hP hD [0, 1] [2, 3, 4] rfl rfl (by decide) (by decide) hk1 hFc hP1 hD1
  have hP := hP.sub (ws' := (ceX11_ring cyI cyB cyJ cyZ a0 a1 a2 a3 a4 b0_image b0_before b0_taken b0_tape b0_five b0_lead b0_walk b0_ends b0_manX b0_manY b0_dogX b0_dogY b0_row b0_farOne b0_leads b0_drags b0_from b0_near g0_hasImage g0_remembered g0_taped g0_point g0_end g0_begin g0_deep g0_faultAt g0_steps f1 0 g0_men g0_dogs f2 f3 f4)) [3, 4, 0, 1, 2] rfl
  have hD := hD.sub (ws' := (ceX11_ring cyI cyB cyJ cyZ a0 a1 a2 a3 a4 b0_image b0_before b0_taken b0_tape b0_five b0_lead b0_walk b0_ends b0_manX b0_manY b0_dogX b0_dogY b0_row b0_farOne b0_leads b0_drags b0_from b0_near g0_hasImage g0_remembered g0_taped g0_point g0_end g0_begin g0_deep g0_faultAt g0_steps f1 0 g0_men g0_dogs f2 f3 f4)) [3, 4, 0, 1, 2] (by decide) rfl
  generalize H1 = H at hP hS ⊢
  refine lv_if_ne (tgt := 22) hx hb dX11_ring_11 (by decide) (fun hc => ?_) (fun hc => ?_)
  · have hw := hw.1 hc
    exact bX11_ring_22 C0 hK hN hA hQ 0 g0_men g0_dogs f2 f3 f4 p0 p1 p2 hw _ _ hP hD hS ls (lv_sub hl [0, 1, 2, 3] rfl)
  · have hw := hw.2 hc
    refine lv_aload_n hx hb dX11_ring_14 rfl (lv_at hl 0 rfl) ?_
    refine lv_iload_n hx hb dX11_ring_15 rfl (lv_at hl 2 rfl) ?_
    have hPc := hP.sub (ws' := (ceX11_noWay cyI cyB cyJ cyZ a0 a1 b0_image b0_before b0_taken b0_tape b0_five a2 a3 b0_lead b0_walk b0_ends b0_manX b0_manY b0_dogX b0_dogY b0_row a4 b0_farOne b0_leads b0_drags b0_from b0_near 0 g0_hasImage g0_remembered g0_taped g0_point g0_end g0_begin g0_deep g0_faultAt g0_steps g0_men g0_dogs f1)) [0, 1] rfl
    have hDc := hD.sub (ws' := (ceX11_noWay cyI cyB cyJ cyZ a0 a1 b0_image b0_before b0_taken b0_tape b0_five a2 a3 b0_lead b0_walk b0_ends b0_manX b0_manY b0_dogX b0_dogY b0_row a4 b0_farOne b0_leads b0_drags b0_from b0_near 0 g0_hasImage g0_remembered g0_taped g0_point g0_end g0_begin g0_deep g0_faultAt g0_steps g0_men g0_dogs f1)) [0, 1] (by decide) rfl
    have hFc := va_free (wc := (ceX11_noWay cyI cyB cyJ cyZ a0 a1 b0_image b0_before b0_taken b0_tape b0_five a2 a3 b0_lead b0_walk b0_ends b0_manX b0_manY b0_dogX b0_dogY b0_row a4 b0_farOne b0_leads b0_drags b0_from b0_near 0 g0_hasImage g0_remembered g0_taped g0_point g0_end g0_begin g0_deep g0_faultAt g0_steps g0_men g0_dogs f1)) hD hS hA [0, 1] rfl
    refine va_calli (va_runV (As := [.int p1]) (rest := [.ref a0]) ⟨hx, hb, hml, hown, hts⟩ (ctX11_noWay l dC dI cyI cyB cyJ cyZ _ a0 a1 b0_image b0_before b0_taken b0_tape b0_five a2 a3 b0_lead b0_walk b0_ends b0_manX b0_manY b0_dogX b0_dogY b0_row a4 b0_farOne b0_leads b0_drags b0_from b0_near 0 g0_hasImage g0_remembered g0_taped g0_point g0_end g0_begin g0_deep g0_faultAt g0_steps g0_men g0_dogs f1 p1 _ hw) (cwV 1 hts gX11_ring_X11_noWay rfl rfl rfl (by decide +kernel) ⟨Nat.le_of_ble_eq_true rfl, Nat.le_of_ble_eq_true rfl⟩) ⟨wPre_blind, va_recv hK hPc (ci := 11) (q0 := 0) rfl rfl, fun U hU hW => wPre_of hPc hK hDc hN hU hW⟩ rfl rfl hl.1 rfl (lv_room (Nat.le_of_ble_eq_true rfl)) dX11_ring_16 ⟨(Nat.zero_le _), (Nat.zero_le _)⟩) hS (fun q _ h => hFc q h) hFc (fun r4 u3 t H1 locs ht hvm hw hB hz1 hk1 hS => ?_)
    obtain ⟨hP1, hK1, hD1⟩ := hB
    rw [ht] at hP1
    obtain ⟨hP, hD⟩ := va_join (wr := pickW (ceX11_ring cyI cyB cyJ cyZ a0 a1 a2 a3 a4 b0_image b0_before b0_taken b0_tape b0_five b0_lead b0_walk b0_ends b0_manX b0_manY b0_dogX b0_dogY b0_row b0_farOne b0_leads b0_drags b0_from b0_near g0_hasImage g0_remembered g0_taped g0_point g0_end g0_begin g0_deep g0_faultAt g0_steps f1 0 g0_men g0_dogs f2 f3 f4) [2, 3, 4]) (w1 := (ceX11_noWay cyI cyB cyJ cyZ a0 a1 b0_image b0_before b0_taken b0_tape b0_five a2 a3 b0_lead b0_walk b0_ends b0_manX b0_manY b0_dogX b0_dogY b0_row a4 b0_farOne b0_leads b0_drags b0_from b0_near 0 g0_hasImage g0_remembered g0_taped g0_point g0_end g0_begin g0_deep g0_faultAt g0_steps g0_men g0_dogs f1)) hP hD [0, 1] [2, 3, 4] rfl rfl (by decide) (by decide) hk1 hFc hP1 hD1
    have hP := hP.sub (ws' := (ceX11_ring cyI cyB cyJ cyZ a0 a1 a2 a3 a4 b0_image b0_before b0_taken b0_tape b0_five b0_lead b0_walk b0_ends b0_manX b0_manY b0_dogX b0_dogY b0_row b0_farOne b0_leads b0_drags b0_from b0_near g0_hasImage g0_remembered g0_taped g0_point g0_end g0_begin g0_deep g0_faultAt g0_steps f1 0 g0_men g0_dogs f2 f3 f4)) [3, 4, 0, 1, 2] rfl
    have hD := hD.sub (ws' := (ceX11_ring cyI cyB cyJ cyZ a0 a1 a2 a3 a4 b0_image b0_before b0_taken b0_tape b0_five b0_lead b0_walk b0_ends b0_manX b0_manY b0_dogX b0_dogY b0_row b0_farOne b0_leads b0_drags b0_from b0_near g0_hasImage g0_remembered g0_taped g0_point g0_end g0_begin g0_deep g0_faultAt g0_steps f1 0 g0_men g0_dogs f2 f3 f4)) [3, 4, 0, 1, 2] (by decide) rfl
    generalize H1 = H at hP hS ⊢
    refine lv_if_eq (tgt := 26) hx hb dX11_ring_19 (by decide) (fun hc => ?_) (fun hc => ?_)
    · have hw := hw.1 hc
      refine lv_iconst (v := 0) hx hb dX11_ring_26 (by decide) ?_
      exact bX11_ring_27 C0 hK hN hA hQ 0 g0_men g0_dogs f2 f3 f4 p0 p1 p2 0 hw _ _ hP hD hS ls (lv_sub hl [0, 1, 2, 3] rfl)
    · have hw := hw.2 hc
      exact bX11_ring_22 C0 hK hN hA hQ 0 g0_men g0_dogs f2 f3 f4 p0 p1 p2 hw _ _ hP hD hS ls (lv_sub hl [0, 1, 2, 3] rfl)
/-! LeadParkModel.leadsAt (III)I -/
abbrev ceX11_leadsAt (cyI cyB cyJ cyZ : ClassId) (a0 a1 b0_world b0_image b0_before b0_taken b0_tape b0_five b0_value b0_far b0_lead b0_walk b0_ends b0_manX b0_manY b0_dogX b0_dogY b0_row b0_round b0_farOne b0_drags b0_from b0_near : Nat) (g0_thrown : Int32) (g0_hasImage : Int32) (g0_remembered : Int32) (g0_taped : Int32) (g0_point : Int32) (g0_end : Int32) (g0_begin : Int32) (g0_deep : Int32) (g0_faultAt : Int32) (g0_steps : Int32) (g0_men : Int32) (g0_dogs : Int32) (f1 : Nat → Int32) : va_W := [(a0, .inr (11, [.int g0_thrown, .ref b0_world, .ref b0_image, .ref b0_before, .int g0_hasImage, .ref b0_taken, .int g0_remembered, .ref b0_tape, .int g0_taped, .int g0_point, .int g0_end, .int g0_begin, .int g0_deep, .int g0_faultAt, .ref b0_five, .int g0_steps, .ref b0_value, .ref b0_far, .int g0_men, .int g0_dogs, .ref b0_lead, .ref b0_walk, .ref b0_ends, .ref b0_manX, .ref b0_manY, .ref b0_dogX, .ref b0_dogY, .ref b0_row, .ref b0_round, .ref b0_farOne, .ref a1, .ref b0_drags, .ref b0_from, .ref b0_near])), (a1, .inl (cyI, 27000, .inl f1))]

theorem inX11_leadsAt_X11 : ∀ w ∈ wsX110, w ∈ wsX11_leadsAt := fun _ h => List.mem_cons_of_mem _ (List.mem_append_right _ h)
abbrev rmX11_leadsAt : Room := { frames := 0, cells := 0, slots := 0, locals := 0 }
set_option maxRecDepth 100000 in
set_option maxHeartbeats 4000000 in
theorem ctX11_leadsAt (l : Launch) (dC : Nat → ClassId) (dI : Nat → Nat → Nat) (cyI cyB cyJ cyZ : ClassId) (sz : Nat) (a0 a1 b0_world b0_image b0_before b0_taken b0_tape b0_five b0_value b0_far b0_lead b0_walk b0_ends b0_manX b0_manY b0_dogX b0_dogY b0_row b0_round b0_farOne b0_drags b0_from b0_near : Nat) (g0_thrown : Int32) (g0_hasImage : Int32) (g0_remembered : Int32) (g0_taped : Int32) (g0_point : Int32) (g0_end : Int32) (g0_begin : Int32) (g0_deep : Int32) (g0_faultAt : Int32) (g0_steps : Int32) (g0_men : Int32) (g0_dogs : Int32) (f1 : Nat → Int32) (p0 : Int32) (p1 : Int32) (p2 : Int32) (post : Int32 → Unit → Prop) (hw : wpX11_leadsAt post f1 p0 p1 p2) : Met l yX11_leadsAt wsX11_leadsAt rmX11_leadsAt (va_Pc [.ref a0, .int p0, .int p1, .int p2] (wPre dC dI cyI cyB cyJ cyZ sz (ceX11_leadsAt cyI cyB cyJ cyZ a0 a1 b0_world b0_image b0_before b0_taken b0_tape b0_five b0_value b0_far b0_lead b0_walk b0_ends b0_manX b0_manY b0_dogX b0_dogY b0_row b0_round b0_farOne b0_drags b0_from b0_near g0_thrown g0_hasImage g0_remembered g0_taped g0_point g0_end g0_begin g0_deep g0_faultAt g0_steps g0_men g0_dogs f1))) (va_Qi post (fun u : Unit => wAt dC dI cyI cyB cyJ cyZ (va_A (ceX11_leadsAt cyI cyB cyJ cyZ a0 a1 b0_world b0_image b0_before b0_taken b0_tape b0_five b0_value b0_far b0_lead b0_walk b0_ends b0_manX b0_manY b0_dogX b0_dogY b0_row b0_round b0_farOne b0_drags b0_from b0_near g0_thrown g0_hasImage g0_remembered g0_taped g0_point g0_end g0_begin g0_deep g0_faultAt g0_steps g0_men g0_dogs f1) sz) (ceX11_leadsAt cyI cyB cyJ cyZ a0 a1 b0_world b0_image b0_before b0_taken b0_tape b0_five b0_value b0_far b0_lead b0_walk b0_ends b0_manX b0_manY b0_dogX b0_dogY b0_row b0_round b0_farOne b0_drags b0_from b0_near g0_thrown g0_hasImage g0_remembered g0_taped g0_point g0_end g0_begin g0_deep g0_faultAt g0_steps g0_men g0_dogs f1)) (va_A (ceX11_leadsAt cyI cyB cyJ cyZ a0 a1 b0_world b0_image b0_before b0_taken b0_tape b0_five b0_value b0_far b0_lead b0_walk b0_ends b0_manX b0_manY b0_dogX b0_dogY b0_row b0_round b0_farOne b0_drags b0_from b0_near g0_thrown g0_hasImage g0_remembered g0_taped g0_point g0_end g0_begin g0_deep g0_faultAt g0_steps g0_men g0_dogs f1) sz)) 0 0 (va_A (ceX11_leadsAt cyI cyB cyJ cyZ a0 a1 b0_world b0_image b0_before b0_taken b0_tape b0_five b0_value b0_far b0_lead b0_walk b0_ends b0_manX b0_manY b0_dogX b0_dogY b0_row b0_round b0_farOne b0_drags b0_from b0_near g0_thrown g0_hasImage g0_remembered g0_taped g0_point g0_end g0_begin g0_deep g0_faultAt g0_steps g0_men g0_dogs f1) sz) := by
  refine Met.ofW (cc := cX11_leadsAt) (maxL := 4) (ret := (some .int)) (by decide) rfl ?_
  intro p e s m args below meth c s₁ B hml hv
  obtain ⟨rfl, hsz, hP, hK, hD0, hN⟩ := hv
  have hx := B.exec
  have hb := B.bytes
  have hr := B.returns
  have hts := atoms_spec (ws := wsX11_leadsAt) B.pre
  have hown : s.vm.findClass RX11 = some m.cls := findClass_of_methodNamed B.named
  have hlocks := B.notSynchronized
  subst hsz
  have hD := hD0.self (sz := s.heap.size)
  generalize hAe : va_A (ceX11_leadsAt cyI cyB cyJ cyZ a0 a1 b0_world b0_image b0_before b0_taken b0_tape b0_five b0_value b0_far b0_lead b0_walk b0_ends b0_manX b0_manY b0_dogX b0_dogY b0_row b0_round b0_farOne b0_drags b0_from b0_near g0_thrown g0_hasImage g0_remembered g0_taped g0_point g0_end g0_begin g0_deep g0_faultAt g0_steps g0_men g0_dogs f1) s.heap.size = A at hD ⊢
  have hA : ∀ q : Nat, s.heap.size ≤ q → A q := fun q h => by rw [← hAe]; exact Or.inr h
  have hS : va_S A s.heap s.heap [] := va_S.rf
  have C0 : cxM p s m meth c _ wsX11_leadsAt RX11 cX11_leadsAt 4 (some .int) := ⟨hx, hb, hr, hml, hown, hts, hlocks⟩
  have hl := lv_entry ([.ref a0, .int p0, .int p1, .int p2]) (n := 4) (Nat.le_of_ble_eq_true rfl)
  rw [lg_entry_eq]
  generalize (lg_sl ([.ref a0, .int p0, .int p1, .int p2]) ++ List.replicate (4 - (lg_sl ([.ref a0, .int p0, .int p1, .int p2])).length) Slot.unset).toArray = ls at hl ⊢
  have hl : lv_has ls 4 [(0, .ref a0), (1, .int p0), (2, .int p1), (3, .int p2)] := hl
  show W p l e rmX11_leadsAt s m _ below meth c _ _ _ _ _ _
  refine wq (fun Q hQ => ?_)
  refine lv_iload_n hx hb dX11_leadsAt_0 rfl (lv_at hl 1 rfl) ?_
  refine lv_if_lt (tgt := 12) hx hb dX11_leadsAt_1 (by decide) (fun hc => ?_) (fun hc => ?_)
  · have hw := hw.1 hc
    refine lv_ldcw (v := 2000000000) hx hb hown (hts (.constant RX11 306 (2000000000)) (List.mem_of_getElem? (i := 1) rfl)) dX11_leadsAt_12 ?_
    refine lv_goto (tgt := 34) hx hb dX11_leadsAt_15 (by decide) ?_
    rw [hQ]
    exact W.iret (v := 2000000000) hx hb hr (fun t ht hW => ⟨⟨2000000000, (), rfl, hw, by rw [ht]; exact hP, va_K.moved hW.alike hK, hD⟩, hS.F ht⟩) hS.2.2 dX11_leadsAt_34
  · have hw := hw.2 hc
    refine lv_iload_n hx hb dX11_leadsAt_4 rfl (lv_at hl 2 rfl) ?_
    refine lv_if_lt (tgt := 12) hx hb dX11_leadsAt_5 (by decide) (fun hc => ?_) (fun hc => ?_)
    · have hw := hw.1 hc
      refine lv_ldcw (v := 2000000000) hx hb hown (hts (.constant RX11 306 (2000000000)) (List.mem_of_getElem? (i := 1) rfl)) dX11_leadsAt_12 ?_
      refine lv_goto (tgt := 34) hx hb dX11_leadsAt_15 (by decide) ?_
      rw [hQ]
      exact W.iret (v := 2000000000) hx hb hr (fun t ht hW => ⟨⟨2000000000, (), rfl, hw, by rw [ht]; exact hP, va_K.moved hW.alike hK, hD⟩, hS.F ht⟩) hS.2.2 dX11_leadsAt_34
    · have hw := hw.2 hc
      refine lv_iload_n hx hb dX11_leadsAt_8 rfl (lv_at hl 3 rfl) ?_
      refine lv_if_ge (tgt := 18) hx hb dX11_leadsAt_9 (by decide) (fun hc => ?_) (fun hc => ?_)
      · have hw := hw.1 hc
        refine lv_aload_n hx hb dX11_leadsAt_18 rfl (lv_at hl 0 rfl) ?_
        refine va_get (D := (dC, dI)) (ci := 11) (v := .ref a1) (C := RX11) (T := TX11) (N := 34) hx hb hts inX11_leadsAt_X11 hown hK hP 0 rfl rfl 30 (by decide) (hts (.fieldLink RX11 73 "LeadParkModel" "leads" "[I") (List.mem_of_getElem? (i := 2) rfl)) (fun _ h9 => h9) rfl dX11_leadsAt_19 ?_
        refine lv_bipush (v := 30) hx hb dX11_leadsAt_22 (by decide) ?_
        refine lv_bipush (v := 30) hx hb dX11_leadsAt_24 (by decide) ?_
        refine lv_iload_n hx hb dX11_leadsAt_26 rfl (lv_at hl 1 rfl) ?_
        refine lv_imul hx hb dX11_leadsAt_27 ?_
        refine lv_iload_n hx hb dX11_leadsAt_28 rfl (lv_at hl 2 rfl) ?_
        refine lv_iadd hx hb dX11_leadsAt_29 ?_
        refine lv_imul hx hb dX11_leadsAt_30 ?_
        refine lv_iload_n hx hb dX11_leadsAt_31 rfl (lv_at hl 3 rfl) ?_
        refine lv_iadd hx hb dX11_leadsAt_32 ?_
        obtain ⟨hi, hw⟩ := hw
        refine va_iald hx hb hK hP 1 0 rfl rfl hi dX11_leadsAt_33 ?_
        rw [hQ]
        exact W.iret (v := f1 ((30 * ((30 * p0) + p1)) + p2).toNatClampNeg) hx hb hr (fun t ht hW => ⟨⟨f1 ((30 * ((30 * p0) + p1)) + p2).toNatClampNeg, (), rfl, hw, by rw [ht]; exact hP, va_K.moved hW.alike hK, hD⟩, hS.F ht⟩) hS.2.2 dX11_leadsAt_34
      · have hw := hw.2 hc
        refine lv_ldcw (v := 2000000000) hx hb hown (hts (.constant RX11 306 (2000000000)) (List.mem_of_getElem? (i := 1) rfl)) dX11_leadsAt_12 ?_
        refine lv_goto (tgt := 34) hx hb dX11_leadsAt_15 (by decide) ?_
        rw [hQ]
        exact W.iret (v := 2000000000) hx hb hr (fun t ht hW => ⟨⟨2000000000, (), rfl, hw, by rw [ht]; exact hP, va_K.moved hW.alike hK, hD⟩, hS.F ht⟩) hS.2.2 dX11_leadsAt_34
