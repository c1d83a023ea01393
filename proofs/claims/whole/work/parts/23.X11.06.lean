/-! LeadParkModel.law ()I -/
abbrev ceX11_law (cyI cyB cyJ cyZ : ClassId) (a0 a1 a2 b0_image b0_before b0_taken b0_five b0_value b0_far b0_lead b0_walk b0_ends b0_manX b0_manY b0_dogX b0_dogY b0_row b0_round b0_farOne b0_leads b0_drags b0_from b0_near : Nat) (g0_hasImage : Int32) (g0_men : Int32) (g0_dogs : Int32) (f1 : Nat → Int32) (g0_thrown : Int32) (g0_remembered : Int32) (g0_taped : Int32) (g0_point : Int32) (g0_end : Int32) (g0_begin : Int32) (g0_deep : Int32) (g0_faultAt : Int32) (g0_steps : Int32) (f2 : Nat → Int32) : va_W := [(a0, .inr (11, [.int g0_thrown, .ref a2, .ref b0_image, .ref b0_before, .int g0_hasImage, .ref b0_taken, .int g0_remembered, .ref a1, .int g0_taped, .int g0_point, .int g0_end, .int g0_begin, .int g0_deep, .int g0_faultAt, .ref b0_five, .int g0_steps, .ref b0_value, .ref b0_far, .int g0_men, .int g0_dogs, .ref b0_lead, .ref b0_walk, .ref b0_ends, .ref b0_manX, .ref b0_manY, .ref b0_dogX, .ref b0_dogY, .ref b0_row, .ref b0_round, .ref b0_farOne, .ref b0_leads, .ref b0_drags, .ref b0_from, .ref b0_near])), (a1, .inl (cyB, 400, .inl f1)), (a2, .inl (cyI, 2508, .inl f2))]

theorem inX11_law_X11 : ∀ w ∈ wsX110, w ∈ wsX11_law := fun _ h => List.mem_cons_of_mem _ (List.mem_append_right _ h)
abbrev rmX11_law : Room := { frames := 64, cells := 0, slots := 0, locals := 4086 }
set_option maxRecDepth 100000 in
set_option maxHeartbeats 4000000 in
theorem bX11_law_52 {p : Program} {l : Launch} {e : Env} {s : State} {m : MethodId} {args : Array Value} {below : List Frame} {meth : Method} {c : Code} {dC : Nat → ClassId} {dI : Nat → Nat → Nat} {cyI cyB cyJ cyZ : ClassId} {A : Nat → Prop} {a0 a1 a2 b0_image b0_before b0_taken b0_five b0_value b0_far b0_lead b0_walk b0_ends b0_manX b0_manY b0_dogX b0_dogY b0_row b0_round b0_farOne b0_leads b0_drags b0_from b0_near : Nat} {g0_hasImage : Int32} {g0_men : Int32} {g0_dogs : Int32} {adS : Nat → Nat} (C0 : cxM p s m meth c args wsX11_law RX11 cX11_law 3 (some .int)) (hK : va_K (dC, dI) vwCl (tyA cyI cyB cyJ cyZ) s) (hN : nwA s) (hA : ∀ q : Nat, s.heap.size ≤ q → A q) (hXs : (txA adS) A s s.heap) {post : Int32 → (Int32 × Int32 × Int32 × Int32 × Int32 × Int32 × Int32 × Int32 × Int32 × (Nat → Int32)) → Prop} {f1 : Nat → Int32} {Q : State → Prop} (hQ : Q = MQ below (va_Qi post (fun u : Int32 × Int32 × Int32 × Int32 × Int32 × Int32 × Int32 × Int32 × Int32 × (Nat → Int32) => wAt dC dI cyI cyB cyJ cyZ A (ceX11_law cyI cyB cyJ cyZ a0 a1 a2 b0_image b0_before b0_taken b0_five b0_value b0_far b0_lead b0_walk b0_ends b0_manX b0_manY b0_dogX b0_dogY b0_row b0_round b0_farOne b0_leads b0_drags b0_from b0_near g0_hasImage g0_men g0_dogs f1 u.1 u.2.1 u.2.2.1 u.2.2.2.1 u.2.2.2.2.1 u.2.2.2.2.2.1 u.2.2.2.2.2.2.1 u.2.2.2.2.2.2.2.1 u.2.2.2.2.2.2.2.2.1 u.2.2.2.2.2.2.2.2.2)) A) args s 0 0 A) : ∀ (n : Nat) (g0_thrown : Int32) (g0_remembered : Int32) (g0_taped : Int32) (g0_point : Int32) (g0_end : Int32) (g0_begin : Int32) (g0_deep : Int32) (g0_faultAt : Int32) (g0_steps : Int32) (f2 : Nat → Int32) (x1 : Int32) (x2 : Int32), wpX11_law_52 post f1 n g0_thrown g0_remembered g0_taped g0_point g0_end g0_begin g0_deep g0_faultAt g0_steps f2 x1 x2 → AtW p l e rmX11_law s m args below meth c dC dI A Q 3 0 0 (ceX11_law cyI cyB cyJ cyZ a0 a1 a2 b0_image b0_before b0_taken b0_five b0_value b0_far b0_lead b0_walk b0_ends b0_manX b0_manY b0_dogX b0_dogY b0_row b0_round b0_farOne b0_leads b0_drags b0_from b0_near g0_hasImage g0_men g0_dogs f1 g0_thrown g0_remembered g0_taped g0_point g0_end g0_begin g0_deep g0_faultAt g0_steps f2) [(0, .ref a0), (1, .int x1), (2, .int x2)] 52 [] := by
  intro n
  induction n with
  | zero => intro g0_thrown g0_remembered g0_taped g0_point g0_end g0_begin g0_deep g0_faultAt g0_steps f2 x1 x2 hw; exact False.elim hw
  | succ n ih =>
    intro g0_thrown g0_remembered g0_taped g0_point g0_end g0_begin g0_deep g0_faultAt g0_steps f2 x1 x2 hw H locs hP hD hS ls hl
    have C1 := C0
    obtain ⟨hx, hb, hr, hml, hown, hts, hlocks⟩ := C1
    refine lv_iload_n hx hb dX11_law_52 rfl (lv_at hl 2 rfl) ?_
    refine lv_sipush (v := 825) hx hb dX11_law_53 (by decide) ?_
    refine lv_icmp_ge (tgt := 85) hx hb dX11_law_56 (by decide) (fun hc => ?_) (fun hc => ?_)
    · have hw := hw.1 hc
      refine lv_aload_n hx hb dX11_law_85 rfl (lv_at hl 0 rfl) ?_
      refine va_get (D := (dC, dI)) (ci := 11) (v := .ref a2) (C := RX11) (T := TX11) (N := 34) hx hb hts inX11_law_X11 hown hK hP 0 rfl rfl 1 (by decide) (hts (.fieldLink RX11 13 "LeadParkModel" "world" "[I") (List.mem_of_getElem? (i := 3) rfl)) (fun _ h9 => h9) rfl dX11_law_86 ?_
      refine lv_iconst (v := 3) hx hb dX11_law_89 (by decide) ?_
      refine lv_iconst (v := 1) hx hb dX11_law_90 (by decide) ?_
      obtain ⟨hi, hw⟩ := hw
      refine va_iast hx hb hK hP hD hS 2 0 rfl rfl hi dX11_law_91 (fun H locs hP hD hS => ?_)
      have hP : va_P (dC, dI) vwCl (ceX11_law cyI cyB cyJ cyZ a0 a1 a2 b0_image b0_before b0_taken b0_five b0_value b0_far b0_lead b0_walk b0_ends b0_manX b0_manY b0_dogX b0_dogY b0_row b0_round b0_farOne b0_leads b0_drags b0_from b0_near g0_hasImage g0_men g0_dogs f1 g0_thrown g0_remembered g0_taped g0_point g0_end g0_begin g0_deep g0_faultAt g0_steps (upd f2 (3 : Int32).toNatClampNeg 1)) H := hP
      have hD : va_D A (ceX11_law cyI cyB cyJ cyZ a0 a1 a2 b0_image b0_before b0_taken b0_five b0_value b0_far b0_lead b0_walk b0_ends b0_manX b0_manY b0_dogX b0_dogY b0_row b0_round b0_farOne b0_leads b0_drags b0_from b0_near g0_hasImage g0_men g0_dogs f1 g0_thrown g0_remembered g0_taped g0_point g0_end g0_begin g0_deep g0_faultAt g0_steps (upd f2 (3 : Int32).toNatClampNeg 1)) := hD
      refine lv_aload_n hx hb dX11_law_92 rfl (lv_at hl 0 rfl) ?_
      have hPc := hP.sub (ws' := (ceX11_endsWalk cyI cyB cyJ cyZ a0 a2 b0_image b0_before b0_taken a1 b0_five b0_value b0_far b0_lead b0_walk b0_ends b0_manX b0_manY b0_dogX b0_dogY b0_row b0_round b0_farOne b0_leads b0_drags b0_from b0_near g0_thrown g0_hasImage g0_taped g0_point g0_end g0_begin g0_deep g0_faultAt g0_steps g0_men g0_dogs g0_remembered (upd f2 (3 : Int32).toNatClampNeg 1))) [0, 2] rfl
      have hDc := hD.sub (ws' := (ceX11_endsWalk cyI cyB cyJ cyZ a0 a2 b0_image b0_before b0_taken a1 b0_five b0_value b0_far b0_lead b0_walk b0_ends b0_manX b0_manY b0_dogX b0_dogY b0_row b0_round b0_farOne b0_leads b0_drags b0_from b0_near g0_thrown g0_hasImage g0_taped g0_point g0_end g0_begin g0_deep g0_faultAt g0_steps g0_men g0_dogs g0_remembered (upd f2 (3 : Int32).toNatClampNeg 1))) [0, 2] (by decide) rfl
      have hFc := va_free (wc := (ceX11_endsWalk cyI cyB cyJ cyZ a0 a2 b0_image b0_before b0_taken a1 b0_five b0_value b0_far b0_lead b0_walk b0_ends b0_manX b0_manY b0_dogX b0_dogY b0_row b0_round b0_farOne b0_leads b0_drags b0_from b0_near g0_thrown g0_hasImage g0_taped g0_point g0_end g0_begin g0_deep g0_faultAt g0_steps g0_men g0_dogs g0_remembered (upd f2 (3 : Int32).toNatClampNeg 1))) hD hS hA [0, 2] rfl
      refine va_callv (va_runV (As := []) (rest := []) ⟨hx, hb, hml, hown, hts⟩ (ctX11_endsWalk l dC dI cyI cyB cyJ cyZ _ a0 a2 b0_image b0_before b0_taken a1 b0_five b0_value b0_far b0_lead b0_walk b0_ends b0_manX b0_manY b0_dogX b0_dogY b0_row b0_round b0_farOne b0_leads b0_drags b0_from b0_near g0_thrown g0_hasImage g0_taped g0_point g0_end g0_begin g0_deep g0_faultAt g0_steps g0_men g0_dogs g0_remembered (upd f2 (3 : Int32).toNatClampNeg 1) _ hw) (cwV 0 hts gX11_law_X11_endsWalk rfl rfl rfl (by decide +kernel) ⟨Nat.le_of_ble_eq_true rfl, Nat.le_of_ble_eq_true rfl⟩) ⟨wPre_blind, va_recv hK hPc (ci := 11) (q0 := 0) rfl rfl, fun U hU hW => wPre_of hPc hK hDc hN hU hW⟩ rfl rfl hl.1 rfl (lv_room (Nat.le_of_ble_eq_true rfl)) dX11_law_93 ⟨(Nat.zero_le _), (Nat.zero_le _)⟩) hS (fun q _ h => hFc q h) hFc (fun u1 t H1 locs ht hvm hw hB hz1 hk1 hS => ?_)
      obtain ⟨hP1, hK1, hD1⟩ := hB
      rw [ht] at hP1
      obtain ⟨hP, hD⟩ := va_join (wr := pickW (ceX11_law cyI cyB cyJ cyZ a0 a1 a2 b0_image b0_before b0_taken b0_five b0_value b0_far b0_lead b0_walk b0_ends b0_manX b0_manY b0_dogX b0_dogY b0_row b0_round b0_farOne b0_leads b0_drags b0_from b0_near g0_hasImage g0_men g0_dogs f1 g0_thrown g0_remembered g0_taped g0_point g0_end g0_begin g0_deep g0_faultAt g0_steps (upd f2 (3 : Int32).toNatClampNeg 1)) [1]) (w1 := (ceX11_endsWalk cyI cyB cyJ cyZ a0 a2 b0_image b0_before b0_taken a1 b0_five b0_value b0_far b0_lead b0_walk b0_ends b0_manX b0_manY b0_dogX b0_dogY b0_row b0_round b0_farOne b0_leads b0_drags b0_from b0_near g0_thrown g0_hasImage g0_taped g0_point g0_end g0_begin g0_deep g0_faultAt g0_steps g0_men g0_dogs u1.1 u1.2)) hP hD [0, 2] [1] rfl rfl (by decide) (by decide) hk1 hFc hP1 hD1
      have hP := hP.sub (ws' := (ceX11_law cyI cyB cyJ cyZ a0 a1 a2 b0_image b0_before b0_taken b0_five b0_value b0_far b0_lead b0_walk b0_ends b0_manX b0_manY b0_dogX b0_dogY b0_row b0_round b0_farOne b0_leads b0_drags b0_from b0_near g0_hasImage g0_men g0_dogs f1 g0_thrown u1.1 g0_taped g0_point g0_end g0_begin g0_deep g0_faultAt g0_steps u1.2)) [1, 0, 2] rfl
      have hD := hD.sub (ws' := (ceX11_law cyI cyB cyJ cyZ a0 a1 a2 b0_image b0_before b0_taken b0_five b0_value b0_far b0_lead b0_walk b0_ends b0_manX b0_manY b0_dogX b0_dogY b0_row b0_round b0_farOne b0_leads b0_drags b0_from b0_near g0_hasImage g0_men g0_dogs f1 g0_thrown u1.1 g0_taped g0_point g0_end g0_begin g0_deep g0_faultAt g0_steps u1.2)) [1, 0, 2] (by decide) rfl
      generalize H1 = H at hP hS ⊢
      refine lv_iload_n hx hb dX11_law_96 rfl (lv_at hl 1 rfl) ?_
      rw [hQ]
      exact W.iret (v := x1) hx hb hr (fun t ht hW => ⟨⟨x1, (g0_thrown, u1.1, g0_taped, g0_point, g0_end, g0_begin, g0_deep, g0_faultAt, g0_steps, u1.2), rfl, hw, by rw [ht]; exact hP, va_K.moved hW.alike hK, hD⟩, hS.F ht⟩) hS.2.2 dX11_law_97
    · have hw := hw.2 hc
      refine lv_aload_n hx hb dX11_law_59 rfl (lv_at hl 0 rfl) ?_
      refine va_get (D := (dC, dI)) (ci := 11) (v := .ref a2) (C := RX11) (T := TX11) (N := 34) hx hb hts inX11_law_X11 hown hK hP 0 rfl rfl 1 (by decide) (hts (.fieldLink RX11 13 "LeadParkModel" "world" "[I") (List.mem_of_getElem? (i := 3) rfl)) (fun _ h9 => h9) rfl dX11_law_60 ?_
      refine lv_sipush (v := 858) hx hb dX11_law_63 (by decide) ?_
      refine lv_iload_n hx hb dX11_law_66 rfl (lv_at hl 2 rfl) ?_
      refine lv_iadd hx hb dX11_law_67 ?_
      refine lv_aload_n hx hb dX11_law_68 rfl (lv_at hl 0 rfl) ?_
      refine va_get (D := (dC, dI)) (ci := 11) (v := .ref a2) (C := RX11) (T := TX11) (N := 34) hx hb hts inX11_law_X11 hown hK hP 0 rfl rfl 1 (by decide) (hts (.fieldLink RX11 13 "LeadParkModel" "world" "[I") (List.mem_of_getElem? (i := 3) rfl)) (fun _ h9 => h9) rfl dX11_law_69 ?_
      refine lv_sipush (v := 1683) hx hb dX11_law_72 (by decide) ?_
      refine lv_iload_n hx hb dX11_law_75 rfl (lv_at hl 2 rfl) ?_
      refine lv_iadd hx hb dX11_law_76 ?_
      obtain ⟨hi, hw⟩ := hw
      refine va_iald hx hb hK hP 2 0 rfl rfl hi dX11_law_77 ?_
      obtain ⟨hi, hw⟩ := hw
      refine va_iast hx hb hK hP hD hS 2 0 rfl rfl hi dX11_law_78 (fun H locs hP hD hS => ?_)
      have hP : va_P (dC, dI) vwCl (ceX11_law cyI cyB cyJ cyZ a0 a1 a2 b0_image b0_before b0_taken b0_five b0_value b0_far b0_lead b0_walk b0_ends b0_manX b0_manY b0_dogX b0_dogY b0_row b0_round b0_farOne b0_leads b0_drags b0_from b0_near g0_hasImage g0_men g0_dogs f1 g0_thrown g0_remembered g0_taped g0_point g0_end g0_begin g0_deep g0_faultAt g0_steps (upd f2 (858 + x2).toNatClampNeg (f2 (1683 + x2).toNatClampNeg))) H := hP
      have hD : va_D A (ceX11_law cyI cyB cyJ cyZ a0 a1 a2 b0_image b0_before b0_taken b0_five b0_value b0_far b0_lead b0_walk b0_ends b0_manX b0_manY b0_dogX b0_dogY b0_row b0_round b0_farOne b0_leads b0_drags b0_from b0_near g0_hasImage g0_men g0_dogs f1 g0_thrown g0_remembered g0_taped g0_point g0_end g0_begin g0_deep g0_faultAt g0_steps (upd f2 (858 + x2).toNatClampNeg (f2 (1683 + x2).toNatClampNeg))) := hD
      obtain ⟨v2, ev2⟩ : ∃ y : Int32, y = x2 + 1 := ⟨_, rfl⟩
      have hw := hw v2 ev2
      refine lv_iinc (v := v2) (lv' := [(2, .int v2), (0, .ref a0), (1, .int x1)]) hx hb dX11_law_79 hl (k := 2) rfl (by rw [ev2]; rfl) (by decide) rfl (fun ls hl => ?_)
      refine lv_goto (tgt := 52) hx hb dX11_law_82 (by decide) ?_
      exact ih g0_thrown g0_remembered g0_taped g0_point g0_end g0_begin g0_deep g0_faultAt g0_steps (upd f2 (858 + x2).toNatClampNeg (f2 (1683 + x2).toNatClampNeg)) x1 v2 hw H locs hP hD hS ls (lv_sub hl [1, 2, 0] rfl)
set_option maxRecDepth 100000 in
set_option maxHeartbeats 4000000 in
theorem bX11_law_32 {p : Program} {l : Launch} {e : Env} {s : State} {m : MethodId} {args : Array Value} {below : List Frame} {meth : Method} {c : Code} {dC : Nat → ClassId} {dI : Nat → Nat → Nat} {cyI cyB cyJ cyZ : ClassId} {A : Nat → Prop} {a0 a1 a2 b0_image b0_before b0_taken b0_five b0_value b0_far b0_lead b0_walk b0_ends b0_manX b0_manY b0_dogX b0_dogY b0_row b0_round b0_farOne b0_leads b0_drags b0_from b0_near : Nat} {g0_hasImage : Int32} {g0_men : Int32} {g0_dogs : Int32} {adS : Nat → Nat} (C0 : cxM p s m meth c args wsX11_law RX11 cX11_law 3 (some .int)) (hK : va_K (dC, dI) vwCl (tyA cyI cyB cyJ cyZ) s) (hN : nwA s) (hA : ∀ q : Nat, s.heap.size ≤ q → A q) (hXs : (txA adS) A s s.heap) {post : Int32 → (Int32 × Int32 × Int32 × Int32 × Int32 × Int32 × Int32 × Int32 × Int32 × (Nat → Int32)) → Prop} {f1 : Nat → Int32} {Q : State → Prop} (hQ : Q = MQ below (va_Qi post (fun u : Int32 × Int32 × Int32 × Int32 × Int32 × Int32 × Int32 × Int32 × Int32 × (Nat → Int32) => wAt dC dI cyI cyB cyJ cyZ A (ceX11_law cyI cyB cyJ cyZ a0 a1 a2 b0_image b0_before b0_taken b0_five b0_value b0_far b0_lead b0_walk b0_ends b0_manX b0_manY b0_dogX b0_dogY b0_row b0_round b0_farOne b0_leads b0_drags b0_from b0_near g0_hasImage g0_men g0_dogs f1 u.1 u.2.1 u.2.2.1 u.2.2.2.1 u.2.2.2.2.1 u.2.2.2.2.2.1 u.2.2.2.2.2.2.1 u.2.2.2.2.2.2.2.1 u.2.2.2.2.2.2.2.2.1 u.2.2.2.2.2.2.2.2.2)) A) args s 0 0 A) : ∀ (g0_thrown : Int32) (g0_remembered : Int32) (g0_taped : Int32) (g0_point : Int32) (g0_end : Int32) (g0_begin : Int32) (g0_deep : Int32) (g0_faultAt : Int32) (g0_steps : Int32) (f2 : Nat → Int32) (x1 : Int32) (s1 : Int32), wpX11_law_32 post f1 g0_thrown g0_remembered g0_taped g0_point g0_end g0_begin g0_deep g0_faultAt g0_steps f2 x1 s1 → AtW p l e rmX11_law s m args below meth c dC dI A Q 3 0 0 (ceX11_law cyI cyB cyJ cyZ a0 a1 a2 b0_image b0_before b0_taken b0_five b0_value b0_far b0_lead b0_walk b0_ends b0_manX b0_manY b0_dogX b0_dogY b0_row b0_round b0_farOne b0_leads b0_drags b0_from b0_near g0_hasImage g0_men g0_dogs f1 g0_thrown g0_remembered g0_taped g0_point g0_end g0_begin g0_deep g0_faultAt g0_steps f2) [(0, .ref a0), (1, .int x1)] 32 [.int s1, .ref a0] := by
  intro g0_thrown g0_remembered g0_taped g0_point g0_end g0_begin g0_deep g0_faultAt g0_steps f2 x1 s1 hw H locs hP hD hS ls hl
  have C1 := C0
  obtain ⟨hx, hb, hr, hml, hown, hts, hlocks⟩ := C1
  refine lv_iconst (v := 1) hx hb dX11_law_32 (by decide) ?_
  have hPc := hP.sub (ws' := (ceX11_throwsIf cyI cyB cyJ cyZ a0 a2 b0_image b0_before b0_taken a1 b0_five b0_value b0_far b0_lead b0_walk b0_ends b0_manX b0_manY b0_dogX b0_dogY b0_row b0_round b0_farOne b0_leads b0_drags b0_from b0_near g0_hasImage g0_remembered g0_taped g0_point g0_end g0_begin g0_deep g0_faultAt g0_steps g0_men g0_dogs g0_thrown)) [0] rfl
  have hDc := hD.sub (ws' := (ceX11_throwsIf cyI cyB cyJ cyZ a0 a2 b0_image b0_before b0_taken a1 b0_five b0_value b0_far b0_lead b0_walk b0_ends b0_manX b0_manY b0_dogX b0_dogY b0_row b0_round b0_farOne b0_leads b0_drags b0_from b0_near g0_hasImage g0_remembered g0_taped g0_point g0_end g0_begin g0_deep g0_faultAt g0_steps g0_men g0_dogs g0_thrown)) [0] (by decide) rfl
  have hFc := va_free (wc := (ceX11_throwsIf cyI cyB cyJ cyZ a0 a2 b0_image b0_before b0_taken a1 b0_five b0_value b0_far b0_lead b0_walk b0_ends b0_manX b0_manY b0_dogX b0_dogY b0_row b0_round b0_farOne b0_leads b0_drags b0_from b0_near g0_hasImage g0_remembered g0_taped g0_point g0_end g0_begin g0_deep g0_faultAt g0_steps g0_men g0_dogs g0_thrown)) hD hS hA [0] rfl
  refine va_calli (va_runV (As := [.int s1, .int 1]) (rest := []) ⟨hx, hb, hml, hown, hts⟩ (ctX11_throwsIf l dC dI cyI cyB cyJ cyZ _ a0 a2 b0_image b0_before b0_taken a1 b0_five b0_value b0_far b0_lead b0_walk b0_ends b0_manX b0_manY b0_dogX b0_dogY b0_row b0_round b0_farOne b0_leads b0_drags b0_from b0_near g0_hasImage g0_remembered g0_taped g0_point g0_end g0_begin g0_deep g0_faultAt g0_steps g0_men g0_dogs g0_thrown s1 1 _ hw) (cwV 2 hts gX11_law_X11_throwsIf rfl rfl rfl (by decide +kernel) ⟨Nat.le_of_ble_eq_true rfl, Nat.le_of_ble_eq_true rfl⟩) ⟨wPre_blind, va_recv hK hPc (ci := 11) (q0 := 0) rfl rfl, fun U hU hW => wPre_of hPc hK hDc hN hU hW⟩ rfl rfl hl.1 rfl (lv_room (Nat.le_of_ble_eq_true rfl)) dX11_law_33 ⟨(Nat.zero_le _), (Nat.zero_le _)⟩) hS (fun q _ h => hFc q h) hFc (fun r2 u1 t H1 locs ht hvm hw hB hz1 hk1 hS => ?_)
  obtain ⟨hP1, hK1, hD1⟩ := hB
  rw [ht] at hP1
  obtain ⟨hP, hD⟩ := va_join (wr := pickW (ceX11_law cyI cyB cyJ cyZ a0 a1 a2 b0_image b0_before b0_taken b0_five b0_value b0_far b0_lead b0_walk b0_ends b0_manX b0_manY b0_dogX b0_dogY b0_row b0_round b0_farOne b0_leads b0_drags b0_from b0_near g0_hasImage g0_men g0_dogs f1 g0_thrown g0_remembered g0_taped g0_point g0_end g0_begin g0_deep g0_faultAt g0_steps f2) [1, 2]) (w1 := (ceX11_throwsIf cyI cyB cyJ cyZ a0 a2 b0_image b0_before b0_taken a1 b0_five b0_value b0_far b0_lead b0_walk b0_ends b0_manX b0_manY b0_dogX b0_dogY b0_row b0_round b0_farOne b0_leads b0_drags b0_from b0_near g0_hasImage g0_remembered g0_taped g0_point g0_end g0_begin g0_deep g0_faultAt g0_steps g0_men g0_dogs u1)) hP hD [0] [1, 2] rfl rfl (by decide) (by decide) hk1 hFc hP1 hD1
  have hP := hP.sub (ws' := (ceX11_law cyI cyB cyJ cyZ a0 a1 a2 b0_image b0_before b0_taken b0_five b0_value b0_far b0_lead b0_walk b0_ends b0_manX b0_manY b0_dogX b0_dogY b0_row b0_round b0_farOne b0_leads b0_drags b0_from b0_near g0_hasImage g0_men g0_dogs f1 u1 g0_remembered g0_taped g0_point g0_end g0_begin g0_deep g0_faultAt g0_steps f2)) [2, 0, 1] rfl
  have hD := hD.sub (ws' := (ceX11_law cyI cyB cyJ cyZ a0 a1 a2 b0_image b0_before b0_taken b0_five b0_value b0_far b0_lead b0_walk b0_ends b0_manX b0_manY b0_dogX b0_dogY b0_row b0_round b0_farOne b0_leads b0_drags b0_from b0_near g0_hasImage g0_men g0_dogs f1 u1 g0_remembered g0_taped g0_point g0_end g0_begin g0_deep g0_faultAt g0_steps f2)) [2, 0, 1] (by decide) rfl
  generalize H1 = H at hP hS ⊢
  refine lv_if_eq (tgt := 41) hx hb dX11_law_36 (by decide) (fun hc => ?_) (fun hc => ?_)
  · have hw := hw.1 hc
    refine lv_aload_n hx hb dX11_law_41 rfl (lv_at hl 0 rfl) ?_
    refine va_get (D := (dC, dI)) (ci := 11) (v := .ref a2) (C := RX11) (T := TX11) (N := 34) hx hb hts inX11_law_X11 hown hK hP 0 rfl rfl 1 (by decide) (hts (.fieldLink RX11 13 "LeadParkModel" "world" "[I") (List.mem_of_getElem? (i := 3) rfl)) (fun _ h9 => h9) rfl dX11_law_42 ?_
    refine lv_sipush (v := 1683) hx hb dX11_law_45 (by decide) ?_
    refine lv_iload_n hx hb dX11_law_48 rfl (lv_at hl 1 rfl) ?_
    obtain ⟨hi, hw⟩ := hw
    refine va_iast hx hb hK hP hD hS 2 0 rfl rfl hi dX11_law_49 (fun H locs hP hD hS => ?_)
    have hP : va_P (dC, dI) vwCl (ceX11_law cyI cyB cyJ cyZ a0 a1 a2 b0_image b0_before b0_taken b0_five b0_value b0_far b0_lead b0_walk b0_ends b0_manX b0_manY b0_dogX b0_dogY b0_row b0_round b0_farOne b0_leads b0_drags b0_from b0_near g0_hasImage g0_men g0_dogs f1 u1 g0_remembered g0_taped g0_point g0_end g0_begin g0_deep g0_faultAt g0_steps (upd f2 (1683 : Int32).toNatClampNeg x1)) H := hP
    have hD : va_D A (ceX11_law cyI cyB cyJ cyZ a0 a1 a2 b0_image b0_before b0_taken b0_five b0_value b0_far b0_lead b0_walk b0_ends b0_manX b0_manY b0_dogX b0_dogY b0_row b0_round b0_farOne b0_leads b0_drags b0_from b0_near g0_hasImage g0_men g0_dogs f1 u1 g0_remembered g0_taped g0_point g0_end g0_begin g0_deep g0_faultAt g0_steps (upd f2 (1683 : Int32).toNatClampNeg x1)) := hD
    refine lv_iconst (v := 0) hx hb dX11_law_50 (by decide) ?_
    refine lv_istore_n (lv' := [(2, .int 0), (0, .ref a0), (1, .int x1)]) hx hb dX11_law_51 rfl hl (by decide) rfl (fun ls hl => ?_)
    obtain ⟨nn, hw⟩ := hw
    exact bX11_law_52 C0 hK hN hA hXs hQ nn u1 g0_remembered g0_taped g0_point g0_end g0_begin g0_deep g0_faultAt g0_steps (upd f2 (1683 : Int32).toNatClampNeg x1) x1 0 hw _ _ hP hD hS ls (lv_sub hl [1, 2, 0] rfl)
  · have hw := hw.2 hc
    refine lv_iconst (v := 0) hx hb dX11_law_39 (by decide) ?_
    rw [hQ]
    exact W.iret (v := 0) hx hb hr (fun t ht hW => ⟨⟨0, (u1, g0_remembered, g0_taped, g0_point, g0_end, g0_begin, g0_deep, g0_faultAt, g0_steps, f2), rfl, hw, by rw [ht]; exact hP, va_K.moved hW.alike hK, hD⟩, hS.F ht⟩) hS.2.2 dX11_law_40
set_option maxRecDepth 100000 in
set_option maxHeartbeats 4000000 in
theorem bX11_law_19 {p : Program} {l : Launch} {e : Env} {s : State} {m : MethodId} {args : Array Value} {below : List Frame} {meth : Method} {c : Code} {dC : Nat → ClassId} {dI : Nat → Nat → Nat} {cyI cyB cyJ cyZ : ClassId} {A : Nat → Prop} {a0 a1 a2 b0_image b0_before b0_taken b0_five b0_value b0_far b0_lead b0_walk b0_ends b0_manX b0_manY b0_dogX b0_dogY b0_row b0_round b0_farOne b0_leads b0_drags b0_from b0_near : Nat} {g0_hasImage : Int32} {g0_men : Int32} {g0_dogs : Int32} {adS : Nat → Nat} (C0 : cxM p s m meth c args wsX11_law RX11 cX11_law 3 (some .int)) (hK : va_K (dC, dI) vwCl (tyA cyI cyB cyJ cyZ) s) (hN : nwA s) (hA : ∀ q : Nat, s.heap.size ≤ q → A q) (hXs : (txA adS) A s s.heap) {post : Int32 → (Int32 × Int32 × Int32 × Int32 × Int32 × Int32 × Int32 × Int32 × Int32 × (Nat → Int32)) → Prop} {f1 : Nat → Int32} {Q : State → Prop} (hQ : Q = MQ below (va_Qi post (fun u : Int32 × Int32 × Int32 × Int32 × Int32 × Int32 × Int32 × Int32 × Int32 × (Nat → Int32) => wAt dC dI cyI cyB cyJ cyZ A (ceX11_law cyI cyB cyJ cyZ a0 a1 a2 b0_image b0_before b0_taken b0_five b0_value b0_far b0_lead b0_walk b0_ends b0_manX b0_manY b0_dogX b0_dogY b0_row b0_round b0_farOne b0_leads b0_drags b0_from b0_near g0_hasImage g0_men g0_dogs f1 u.1 u.2.1 u.2.2.1 u.2.2.2.1 u.2.2.2.2.1 u.2.2.2.2.2.1 u.2.2.2.2.2.2.1 u.2.2.2.2.2.2.2.1 u.2.2.2.2.2.2.2.2.1 u.2.2.2.2.2.2.2.2.2)) A) args s 0 0 A) : ∀ (g0_thrown : Int32) (g0_remembered : Int32) (g0_taped : Int32) (g0_point : Int32) (g0_end : Int32) (g0_begin : Int32) (g0_deep : Int32) (g0_faultAt : Int32) (g0_steps : Int32) (f2 : Nat → Int32) (x1 : Int32) (s1 : Int32), wpX11_law_19 post f1 g0_thrown g0_remembered g0_taped g0_point g0_end g0_begin g0_deep g0_faultAt g0_steps f2 x1 s1 → AtW p l e rmX11_law s m args below meth c dC dI A Q 3 0 0 (ceX11_law cyI cyB cyJ cyZ a0 a1 a2 b0_image b0_before b0_taken b0_five b0_value b0_far b0_lead b0_walk b0_ends b0_manX b0_manY b0_dogX b0_dogY b0_row b0_round b0_farOne b0_leads b0_drags b0_from b0_near g0_hasImage g0_men g0_dogs f1 g0_thrown g0_remembered g0_taped g0_point g0_end g0_begin g0_deep g0_faultAt g0_steps f2) [(0, .ref a0), (1, .int x1)] 19 [.int s1, .ref a0] := by
  intro g0_thrown g0_remembered g0_taped g0_point g0_end g0_begin g0_deep g0_faultAt g0_steps f2 x1 s1 hw H locs hP hD hS ls hl
  have C1 := C0
  obtain ⟨hx, hb, hr, hml, hown, hts, hlocks⟩ := C1
  refine va_put (D := (dC, dI)) (ci := 11) (v := .int s1) (ty := .int) (C := RX11) (T := TX11) (N := 34) hx hb hts inX11_law_X11 tyX11 tyX11_ok nmX11 hown hK hP hD hS 0 rfl rfl 13 (by decide) (hts (.fieldLink RX11 30 "LeadParkModel" "faultAt" "I") (List.mem_of_getElem? (i := 2) rfl)) (fun _ h9 => h9) rfl (by decide +kernel) rfl rfl (Nat.le_of_ble_eq_true rfl) dX11_law_19 (fun H locs hP hD hS => ?_)
  have hP : va_P (dC, dI) vwCl (ceX11_law cyI cyB cyJ cyZ a0 a1 a2 b0_image b0_before b0_taken b0_five b0_value b0_far b0_lead b0_walk b0_ends b0_manX b0_manY b0_dogX b0_dogY b0_row b0_round b0_farOne b0_leads b0_drags b0_from b0_near g0_hasImage g0_men g0_dogs f1 g0_thrown g0_remembered g0_taped g0_point g0_end g0_begin g0_deep s1 g0_steps f2) H := hP
  have hD : va_D A (ceX11_law cyI cyB cyJ cyZ a0 a1 a2 b0_image b0_before b0_taken b0_five b0_value b0_far b0_lead b0_walk b0_ends b0_manX b0_manY b0_dogX b0_dogY b0_row b0_round b0_farOne b0_leads b0_drags b0_from b0_near g0_hasImage g0_men g0_dogs f1 g0_thrown g0_remembered g0_taped g0_point g0_end g0_begin g0_deep s1 g0_steps f2) := hD
  refine lv_aload_n hx hb dX11_law_22 rfl (lv_at hl 0 rfl) ?_
  refine lv_iload_n hx hb dX11_law_23 rfl (lv_at hl 1 rfl) ?_
  refine lv_if_ge (tgt := 31) hx hb dX11_law_24 (by decide) (fun hc => ?_) (fun hc => ?_)
  · have hw := hw.1 hc
    refine lv_iconst (v := 0) hx hb dX11_law_31 (by decide) ?_
    exact bX11_law_32 C0 hK hN hA hXs hQ g0_thrown g0_remembered g0_taped g0_point g0_end g0_begin g0_deep s1 g0_steps f2 x1 0 hw _ _ hP hD hS ls (lv_sub hl [0, 1] rfl)
  · have hw := hw.2 hc
    refine lv_iconst (v := 1) hx hb dX11_law_27 (by decide) ?_
    refine lv_goto (tgt := 32) hx hb dX11_law_28 (by decide) ?_
    exact bX11_law_32 C0 hK hN hA hXs hQ g0_thrown g0_remembered g0_taped g0_point g0_end g0_begin g0_deep s1 g0_steps f2 x1 1 hw _ _ hP hD hS ls (lv_sub hl [0, 1] rfl)
set_option maxRecDepth 100000 in
set_option maxHeartbeats 4000000 in
theorem ctX11_law (l : Launch) (dC : Nat → ClassId) (dI : Nat → Nat → Nat) (cyI cyB cyJ cyZ : ClassId) (sz : Nat) (a0 a1 a2 b0_image b0_before b0_taken b0_five b0_value b0_far b0_lead b0_walk b0_ends b0_manX b0_manY b0_dogX b0_dogY b0_row b0_round b0_farOne b0_leads b0_drags b0_from b0_near : Nat) (g0_hasImage : Int32) (g0_men : Int32) (g0_dogs : Int32) (f1 : Nat → Int32) (g0_thrown : Int32) (g0_remembered : Int32) (g0_taped : Int32) (g0_point : Int32) (g0_end : Int32) (g0_begin : Int32) (g0_deep : Int32) (g0_faultAt : Int32) (g0_steps : Int32) (f2 : Nat → Int32) (post : Int32 → (Int32 × Int32 × Int32 × Int32 × Int32 × Int32 × Int32 × Int32 × Int32 × (Nat → Int32)) → Prop) (adS : Nat → Nat) (hw : wpX11_law post f1 g0_thrown g0_remembered g0_taped g0_point g0_end g0_begin g0_deep g0_faultAt g0_steps f2 ) : Met l yX11_law wsX11_law rmX11_law (va_Pc [.ref a0] (wPreX dC dI cyI cyB cyJ cyZ sz (ceX11_law cyI cyB cyJ cyZ a0 a1 a2 b0_image b0_before b0_taken b0_five b0_value b0_far b0_lead b0_walk b0_ends b0_manX b0_manY b0_dogX b0_dogY b0_row b0_round b0_farOne b0_leads b0_drags b0_from b0_near g0_hasImage g0_men g0_dogs f1 g0_thrown g0_remembered g0_taped g0_point g0_end g0_begin g0_deep g0_faultAt g0_steps f2) (txA adS))) (va_Qi post (fun u : Int32 × Int32 × Int32 × Int32 × Int32 × Int32 × Int32 × Int32 × Int32 × (Nat → Int32) => wAt dC dI cyI cyB cyJ cyZ (va_A (ceX11_law cyI cyB cyJ cyZ a0 a1 a2 b0_image b0_before b0_taken b0_five b0_value b0_far b0_lead b0_walk b0_ends b0_manX b0_manY b0_dogX b0_dogY b0_row b0_round b0_farOne b0_leads b0_drags b0_from b0_near g0_hasImage g0_men g0_dogs f1 g0_thrown g0_remembered g0_taped g0_point g0_end g0_begin g0_deep g0_faultAt g0_steps f2) sz) (ceX11_law cyI cyB cyJ cyZ a0 a1 a2 b0_image b0_before b0_taken b0_five b0_value b0_far b0_lead b0_walk b0_ends b0_manX b0_manY b0_dogX b0_dogY b0_row b0_round b0_farOne b0_leads b0_drags b0_from b0_near g0_hasImage g0_men g0_dogs f1 u.1 u.2.1 u.2.2.1 u.2.2.2.1 u.2.2.2.2.1 u.2.2.2.2.2.1 u.2.2.2.2.2.2.1 u.2.2.2.2.2.2.2.1 u.2.2.2.2.2.2.2.2.1 u.2.2.2.2.2.2.2.2.2)) (va_A (ceX11_law cyI cyB cyJ cyZ a0 a1 a2 b0_image b0_before b0_taken b0_five b0_value b0_far b0_lead b0_walk b0_ends b0_manX b0_manY b0_dogX b0_dogY b0_row b0_round b0_farOne b0_leads b0_drags b0_from b0_near g0_hasImage g0_men g0_dogs f1 g0_thrown g0_remembered g0_taped g0_point g0_end g0_begin g0_deep g0_faultAt g0_steps f2) sz)) 0 0 (va_A (ceX11_law cyI cyB cyJ cyZ a0 a1 a2 b0_image b0_before b0_taken b0_five b0_value b0_far b0_lead b0_walk b0_ends b0_manX b0_manY b0_dogX b0_dogY b0_row b0_round b0_farOne b0_leads b0_drags b0_from b0_near g0_hasImage g0_men g0_dogs f1 g0_thrown g0_remembered g0_taped g0_point g0_end g0_begin g0_deep g0_faultAt g0_steps f2) sz) := by
  refine Met.ofW (cc := cX11_law) (maxL := 3) (ret := (some .int)) (by decide) rfl ?_
  intro p e s m args below meth c s₁ B hml hv
  obtain ⟨rfl, ⟨hsz, hP, hK, hD0, hN⟩, hXs⟩ := hv
  have hx := B.exec
  have hb := B.bytes
  have hr := B.returns
  have hts := atoms_spec (ws := wsX11_law) B.pre
  have hown : s.vm.findClass RX11 = some m.cls := findClass_of_methodNamed B.named
  have hlocks := B.notSynchronized
  subst hsz
  have hD := hD0.self (sz := s.heap.size)
  generalize hAe : va_A (ceX11_law cyI cyB cyJ cyZ a0 a1 a2 b0_image b0_before b0_taken b0_five b0_value b0_far b0_lead b0_walk b0_ends b0_manX b0_manY b0_dogX b0_dogY b0_row b0_round b0_farOne b0_leads b0_drags b0_from b0_near g0_hasImage g0_men g0_dogs f1 g0_thrown g0_remembered g0_taped g0_point g0_end g0_begin g0_deep g0_faultAt g0_steps f2) s.heap.size = A at hD hXs ⊢
  have hA : ∀ q : Nat, s.heap.size ≤ q → A q := fun q h => by rw [← hAe]; exact Or.inr h
  have hS : va_S A s.heap s.heap [] := va_S.rf
  have C0 : cxM p s m meth c _ wsX11_law RX11 cX11_law 3 (some .int) := ⟨hx, hb, hr, hml, hown, hts, hlocks⟩
  have hl := lv_entry ([.ref a0]) (n := 3) (Nat.le_of_ble_eq_true rfl)
  rw [lg_entry_eq]
  generalize (lg_sl ([.ref a0]) ++ List.replicate (3 - (lg_sl ([.ref a0])).length) Slot.unset).toArray = ls at hl ⊢
  have hl : lv_has ls 3 [(0, .ref a0)] := hl
  show W p l e rmX11_law s m _ below meth c _ _ _ _ _ _
  refine wq (fun Q hQ => ?_)
  refine lv_aload_n hx hb dX11_law_0 rfl (lv_at hl 0 rfl) ?_
  refine lv_iconst (v := 0) hx hb dX11_law_1 (by decide) ?_
  have hPc := hP.sub (ws' := (ceX11_readAll cyI cyB cyJ cyZ a0 a1 a2 b0_image b0_before b0_taken b0_five b0_value b0_far b0_lead b0_walk b0_ends b0_manX b0_manY b0_dogX b0_dogY b0_row b0_round b0_farOne b0_leads b0_drags b0_from b0_near g0_hasImage g0_remembered g0_faultAt g0_men g0_dogs f1 g0_thrown g0_taped g0_point g0_end g0_begin g0_deep g0_steps f2)) [0, 1, 2] rfl
  have hDc := hD.sub (ws' := (ceX11_readAll cyI cyB cyJ cyZ a0 a1 a2 b0_image b0_before b0_taken b0_five b0_value b0_far b0_lead b0_walk b0_ends b0_manX b0_manY b0_dogX b0_dogY b0_row b0_round b0_farOne b0_leads b0_drags b0_from b0_near g0_hasImage g0_remembered g0_faultAt g0_men g0_dogs f1 g0_thrown g0_taped g0_point g0_end g0_begin g0_deep g0_steps f2)) [0, 1, 2] (by decide) rfl
  have hFc := va_free (wc := (ceX11_readAll cyI cyB cyJ cyZ a0 a1 a2 b0_image b0_before b0_taken b0_five b0_value b0_far b0_lead b0_walk b0_ends b0_manX b0_manY b0_dogX b0_dogY b0_row b0_round b0_farOne b0_leads b0_drags b0_from b0_near g0_hasImage g0_remembered g0_faultAt g0_men g0_dogs f1 g0_thrown g0_taped g0_point g0_end g0_begin g0_deep g0_steps f2)) hD hS hA [0, 1, 2] rfl
  refine va_calli (va_runV (As := [.int 0]) (rest := []) ⟨hx, hb, hml, hown, hts⟩ (ctX11_readAll l dC dI cyI cyB cyJ cyZ _ a0 a1 a2 b0_image b0_before b0_taken b0_five b0_value b0_far b0_lead b0_walk b0_ends b0_manX b0_manY b0_dogX b0_dogY b0_row b0_round b0_farOne b0_leads b0_drags b0_from b0_near g0_hasImage g0_remembered g0_faultAt g0_men g0_dogs f1 g0_thrown g0_taped g0_point g0_end g0_begin g0_deep g0_steps f2 0 _ adS hw) (cwV 1 hts gX11_law_X11_readAll rfl rfl rfl (by decide +kernel) ⟨Nat.le_of_ble_eq_true rfl, Nat.le_of_ble_eq_true rfl⟩) ⟨wPreX_blind (xOk_txA adS), va_recv hK hPc (ci := 11) (q0 := 0) rfl rfl, fun U hU hW => wPreX_of (xOk_txA adS) hPc hK hDc hN hXs hS hFc hU hW⟩ rfl rfl hl.1 rfl (lv_room (Nat.le_of_ble_eq_true rfl)) dX11_law_2 ⟨(Nat.zero_le _), (Nat.zero_le _)⟩) hS (fun q _ h => hFc q h) hFc (fun r2 u1 t H1 locs ht hvm hw hB hz1 hk1 hS => ?_)
  obtain ⟨hP1, hK1, hD1⟩ := hB
  rw [ht] at hP1
  obtain ⟨hP, hD⟩ := va_join (wr := pickW (ceX11_law cyI cyB cyJ cyZ a0 a1 a2 b0_image b0_before b0_taken b0_five b0_value b0_far b0_lead b0_walk b0_ends b0_manX b0_manY b0_dogX b0_dogY b0_row b0_round b0_farOne b0_leads b0_drags b0_from b0_near g0_hasImage g0_men g0_dogs f1 g0_thrown g0_remembered g0_taped g0_point g0_end g0_begin g0_deep g0_faultAt g0_steps f2) []) (w1 := (ceX11_readAll cyI cyB cyJ cyZ a0 a1 a2 b0_image b0_before b0_taken b0_five b0_value b0_far b0_lead b0_walk b0_ends b0_manX b0_manY b0_dogX b0_dogY b0_row b0_round b0_farOne b0_leads b0_drags b0_from b0_near g0_hasImage g0_remembered g0_faultAt g0_men g0_dogs f1 u1.1 u1.2.1 u1.2.2.1 u1.2.2.2.1 u1.2.2.2.2.1 u1.2.2.2.2.2.1 u1.2.2.2.2.2.2.1 u1.2.2.2.2.2.2.2)) hP hD [0, 1, 2] [] rfl rfl (by decide) (by decide) hk1 hFc hP1 hD1
  have hP := hP.sub (ws' := (ceX11_law cyI cyB cyJ cyZ a0 a1 a2 b0_image b0_before b0_taken b0_five b0_value b0_far b0_lead b0_walk b0_ends b0_manX b0_manY b0_dogX b0_dogY b0_row b0_round b0_farOne b0_leads b0_drags b0_from b0_near g0_hasImage g0_men g0_dogs f1 u1.1 g0_remembered u1.2.1 u1.2.2.1 u1.2.2.2.1 u1.2.2.2.2.1 u1.2.2.2.2.2.1 g0_faultAt u1.2.2.2.2.2.2.1 u1.2.2.2.2.2.2.2)) [0, 1, 2] rfl
  have hD := hD.sub (ws' := (ceX11_law cyI cyB cyJ cyZ a0 a1 a2 b0_image b0_before b0_taken b0_five b0_value b0_far b0_lead b0_walk b0_ends b0_manX b0_manY b0_dogX b0_dogY b0_row b0_round b0_farOne b0_leads b0_drags b0_from b0_near g0_hasImage g0_men g0_dogs f1 u1.1 g0_remembered u1.2.1 u1.2.2.1 u1.2.2.2.1 u1.2.2.2.2.1 u1.2.2.2.2.2.1 g0_faultAt u1.2.2.2.2.2.2.1 u1.2.2.2.2.2.2.2)) [0, 1, 2] (by decide) rfl
  generalize H1 = H at hP hS ⊢
  refine lv_istore_n (lv' := [(1, .int r2), (0, .ref a0)]) hx hb dX11_law_5 rfl hl (by decide) rfl (fun ls hl => ?_)
  refine lv_aload_n hx hb dX11_law_6 rfl (lv_at hl 1 rfl) ?_
  refine lv_iload_n hx hb dX11_law_7 rfl (lv_at hl 0 rfl) ?_
  refine lv_if_ge (tgt := 18) hx hb dX11_law_8 (by decide) (fun hc => ?_) (fun hc => ?_)
  · have hw := hw.1 hc
    refine lv_iconst (v := (-1)) hx hb dX11_law_18 (by decide) ?_
    exact bX11_law_19 C0 hK hN hA hXs hQ u1.1 g0_remembered u1.2.1 u1.2.2.1 u1.2.2.2.1 u1.2.2.2.2.1 u1.2.2.2.2.2.1 g0_faultAt u1.2.2.2.2.2.2.1 u1.2.2.2.2.2.2.2 r2 (-1) hw _ _ hP hD hS ls (lv_sub hl [1, 0] rfl)
  · have hw := hw.2 hc
    refine lv_aload_n hx hb dX11_law_11 rfl (lv_at hl 1 rfl) ?_
    refine va_get (D := (dC, dI)) (ci := 11) (v := .int u1.2.2.2.2.1) (C := RX11) (T := TX11) (N := 34) hx hb hts inX11_law_X11 hown hK hP 0 rfl rfl 11 (by decide) (hts (.fieldLink RX11 122 "LeadParkModel" "begin" "I") (List.mem_of_getElem? (i := 1) rfl)) (fun _ h9 => h9) rfl dX11_law_12 ?_
    refine lv_goto (tgt := 19) hx hb dX11_law_15 (by decide) ?_
    exact bX11_law_19 C0 hK hN hA hXs hQ u1.1 g0_remembered u1.2.1 u1.2.2.1 u1.2.2.2.1 u1.2.2.2.2.1 u1.2.2.2.2.2.1 g0_faultAt u1.2.2.2.2.2.2.1 u1.2.2.2.2.2.2.2 r2 u1.2.2.2.2.1 hw _ _ hP hD hS ls (lv_sub hl [1, 0] rfl)
/-! LeadParkModel.farOf (IIII)I -/

abbrev rmX11_farOf : Room := { frames := 0, cells := 0, slots := 0, locals := 0 }
set_option maxRecDepth 100000 in
set_option maxHeartbeats 4000000 in
theorem ctX11_farOf (l : Launch) (dC : Nat → ClassId) (dI : Nat → Nat → Nat) (cyI cyB cyJ cyZ : ClassId) (sz : Nat) (p0 : Int32) (p1 : Int32) (p2 : Int32) (p3 : Int32) (post : Int32 → Unit → Prop) (hw : wpX11_farOf post p0 p1 p2 p3) : Met l yX11_farOf wsX11_farOf rmX11_farOf (va_Pc [.int p0, .int p1, .int p2, .int p3] (wPre dC dI cyI cyB cyJ cyZ sz ([] : va_W))) (va_Qi post (fun u : Unit => wAt dC dI cyI cyB cyJ cyZ (va_A ([] : va_W) sz) ([] : va_W)) (va_A ([] : va_W) sz)) 0 0 (va_A ([] : va_W) sz) := by
  refine Met.ofW (cc := cX11_farOf) (maxL := 4) (ret := (some .int)) (by decide) rfl ?_
  intro p e s m args below meth c s₁ B hml hv
  obtain ⟨rfl, hsz, hP, hK, hD0, hN⟩ := hv
  have hx := B.exec
  have hb := B.bytes
  have hr := B.returns
  have hts := atoms_spec (ws := wsX11_farOf) B.pre
  have hown : s.vm.findClass RX11 = some m.cls := findClass_of_methodNamed B.named
  have hlocks := B.notSynchronized
  subst hsz
  have hD := hD0.self (sz := s.heap.size)
  generalize hAe : va_A ([] : va_W) s.heap.size = A at hD ⊢
  have hA : ∀ q : Nat, s.heap.size ≤ q → A q := fun q h => by rw [← hAe]; exact Or.inr h
  have hS : va_S A s.heap s.heap [] := va_S.rf
  have C0 : cxM p s m meth c _ wsX11_farOf RX11 cX11_farOf 4 (some .int) := ⟨hx, hb, hr, hml, hown, hts, hlocks⟩
  have hl := lv_entry ([.int p0, .int p1, .int p2, .int p3]) (n := 4) (Nat.le_of_ble_eq_true rfl)
  rw [lg_entry_eq]
  generalize (lg_sl ([.int p0, .int p1, .int p2, .int p3]) ++ List.replicate (4 - (lg_sl ([.int p0, .int p1, .int p2, .int p3])).length) Slot.unset).toArray = ls at hl ⊢
  have hl : lv_has ls 4 [(0, .int p0), (1, .int p1), (2, .int p2), (3, .int p3)] := hl
  show W p l e rmX11_farOf s m _ below meth c _ _ _ _ _ _
  refine wq (fun Q hQ => ?_)
  refine lv_iload_n hx hb dX11_farOf_0 rfl (lv_at hl 0 rfl) ?_
  refine lv_iload_n hx hb dX11_farOf_1 rfl (lv_at hl 2 rfl) ?_
  refine lv_isub hx hb dX11_farOf_2 ?_
  refine lv_iload_n hx hb dX11_farOf_3 rfl (lv_at hl 0 rfl) ?_
  refine lv_iload_n hx hb dX11_farOf_4 rfl (lv_at hl 2 rfl) ?_
  refine lv_isub hx hb dX11_farOf_5 ?_
  refine lv_imul hx hb dX11_farOf_6 ?_
  refine lv_iload_n hx hb dX11_farOf_7 rfl (lv_at hl 1 rfl) ?_
  refine lv_iload_n hx hb dX11_farOf_8 rfl (lv_at hl 3 rfl) ?_
  refine lv_isub hx hb dX11_farOf_9 ?_
  refine lv_iload_n hx hb dX11_farOf_10 rfl (lv_at hl 1 rfl) ?_
  refine lv_iload_n hx hb dX11_farOf_11 rfl (lv_at hl 3 rfl) ?_
  refine lv_isub hx hb dX11_farOf_12 ?_
  refine lv_imul hx hb dX11_farOf_13 ?_
  refine lv_iadd hx hb dX11_farOf_14 ?_
  rw [hQ]
  exact W.iret (v := ((p0 - p2) * (p0 - p2)) + ((p1 - p3) * (p1 - p3))) hx hb hr (fun t ht hW => ⟨⟨((p0 - p2) * (p0 - p2)) + ((p1 - p3) * (p1 - p3)), (), rfl, hw, by rw [ht]; exact hP, va_K.moved hW.alike hK, hD⟩, hS.F ht⟩) hS.2.2 dX11_farOf_15
/-! LeadParkModel.farAt (IIII)I -/
abbrev ceX11_farAt (cyI cyB cyJ cyZ : ClassId) (a0 a1 b0_image b0_before b0_taken b0_tape b0_five b0_value b0_far b0_lead b0_walk b0_ends b0_manX b0_manY b0_dogX b0_dogY b0_row b0_round b0_farOne b0_leads b0_drags b0_from b0_near : Nat) (g0_thrown : Int32) (g0_hasImage : Int32) (g0_remembered : Int32) (g0_taped : Int32) (g0_point : Int32) (g0_end : Int32) (g0_begin : Int32) (g0_deep : Int32) (g0_faultAt : Int32) (g0_steps : Int32) (g0_men : Int32) (g0_dogs : Int32) (f1 : Nat → Int32) : va_W := [(a0, .inr (11, [.int g0_thrown, .ref a1, .ref b0_image, .ref b0_before, .int g0_hasImage, .ref b0_taken, .int g0_remembered, .ref b0_tape, .int g0_taped, .int g0_point, .int g0_end, .int g0_begin, .int g0_deep, .int g0_faultAt, .ref b0_five, .int g0_steps, .ref b0_value, .ref b0_far, .int g0_men, .int g0_dogs, .ref b0_lead, .ref b0_walk, .ref b0_ends, .ref b0_manX, .ref b0_manY, .ref b0_dogX, .ref b0_dogY, .ref b0_row, .ref b0_round, .ref b0_farOne, .ref b0_leads, .ref b0_drags, .ref b0_from, .ref b0_near])), (a1, .inl (cyI, 2508, .inl f1))]

abbrev rmX11_farAt : Room := { frames := 1, cells := 0, slots := 0, locals := 23 }
set_option maxRecDepth 100000 in
set_option maxHeartbeats 4000000 in
theorem ctX11_farAt (l : Launch) (dC : Nat → ClassId) (dI : Nat → Nat → Nat) (cyI cyB cyJ cyZ : ClassId) (sz : Nat) (a0 a1 b0_image b0_before b0_taken b0_tape b0_five b0_value b0_far b0_lead b0_walk b0_ends b0_manX b0_manY b0_dogX b0_dogY b0_row b0_round b0_farOne b0_leads b0_drags b0_from b0_near : Nat) (g0_thrown : Int32) (g0_hasImage : Int32) (g0_remembered : Int32) (g0_taped : Int32) (g0_point : Int32) (g0_end : Int32) (g0_begin : Int32) (g0_deep : Int32) (g0_faultAt : Int32) (g0_steps : Int32) (g0_men : Int32) (g0_dogs : Int32) (f1 : Nat → Int32) (p0 : Int32) (p1 : Int32) (p2 : Int32) (p3 : Int32) (post : Int32 → Unit → Prop) (hw : wpX11_farAt post f1 p0 p1 p2 p3) : Met l yX11_farAt wsX11_farAt rmX11_farAt (va_Pc [.ref a0, .int p0, .int p1, .int p2, .int p3] (wPre dC dI cyI cyB cyJ cyZ sz (ceX11_farAt cyI cyB cyJ cyZ a0 a1 b0_image b0_before b0_taken b0_tape b0_five b0_value b0_far b0_lead b0_walk b0_ends b0_manX b0_manY b0_dogX b0_dogY b0_row b0_round b0_farOne b0_leads b0_drags b0_from b0_near g0_thrown g0_hasImage g0_remembered g0_taped g0_point g0_end g0_begin g0_deep g0_faultAt g0_steps g0_men g0_dogs f1))) (va_Qi post (fun u : Unit => wAt dC dI cyI cyB cyJ cyZ (va_A (ceX11_farAt cyI cyB cyJ cyZ a0 a1 b0_image b0_before b0_taken b0_tape b0_five b0_value b0_far b0_lead b0_walk b0_ends b0_manX b0_manY b0_dogX b0_dogY b0_row b0_round b0_farOne b0_leads b0_drags b0_from b0_near g0_thrown g0_hasImage g0_remembered g0_taped g0_point g0_end g0_begin g0_deep g0_faultAt g0_steps g0_men g0_dogs f1) sz) (ceX11_farAt cyI cyB cyJ cyZ a0 a1 b0_image b0_before b0_taken b0_tape b0_five b0_value b0_far b0_lead b0_walk b0_ends b0_manX b0_manY b0_dogX b0_dogY b0_row b0_round b0_farOne b0_leads b0_drags b0_from b0_near g0_thrown g0_hasImage g0_remembered g0_taped g0_point g0_end g0_begin g0_deep g0_faultAt g0_steps g0_men g0_dogs f1)) (va_A (ceX11_farAt cyI cyB cyJ cyZ a0 a1 b0_image b0_before b0_taken b0_tape b0_five b0_value b0_far b0_lead b0_walk b0_ends b0_manX b0_manY b0_dogX b0_dogY b0_row b0_round b0_farOne b0_leads b0_drags b0_from b0_near g0_thrown g0_hasImage g0_remembered g0_taped g0_point g0_end g0_begin g0_deep g0_faultAt g0_steps g0_men g0_dogs f1) sz)) 0 0 (va_A (ceX11_farAt cyI cyB cyJ cyZ a0 a1 b0_image b0_before b0_taken b0_tape b0_five b0_value b0_far b0_lead b0_walk b0_ends b0_manX b0_manY b0_dogX b0_dogY b0_row b0_round b0_farOne b0_leads b0_drags b0_from b0_near g0_thrown g0_hasImage g0_remembered g0_taped g0_point g0_end g0_begin g0_deep g0_faultAt g0_steps g0_men g0_dogs f1) sz) := by
  refine Met.ofW (cc := cX11_farAt) (maxL := 5) (ret := (some .int)) (by decide) rfl ?_
  intro p e s m args below meth c s₁ B hml hv
  obtain ⟨rfl, hsz, hP, hK, hD0, hN⟩ := hv
  have hx := B.exec
  have hb := B.bytes
  have hr := B.returns
  have hts := atoms_spec (ws := wsX11_farAt) B.pre
  have hown : s.vm.findClass RX11 = some m.cls := findClass_of_methodNamed B.named
  have hlocks := B.notSynchronized
  subst hsz
  have hD := hD0.self (sz := s.heap.size)
  generalize hAe : va_A (ceX11_farAt cyI cyB cyJ cyZ a0 a1 b0_image b0_before b0_taken b0_tape b0_five b0_value b0_far b0_lead b0_walk b0_ends b0_manX b0_manY b0_dogX b0_dogY b0_row b0_round b0_farOne b0_leads b0_drags b0_from b0_near g0_thrown g0_hasImage g0_remembered g0_taped g0_point g0_end g0_begin g0_deep g0_faultAt g0_steps g0_men g0_dogs f1) s.heap.size = A at hD ⊢
  have hA : ∀ q : Nat, s.heap.size ≤ q → A q := fun q h => by rw [← hAe]; exact Or.inr h
  have hS : va_S A s.heap s.heap [] := va_S.rf
  have C0 : cxM p s m meth c _ wsX11_farAt RX11 cX11_farAt 5 (some .int) := ⟨hx, hb, hr, hml, hown, hts, hlocks⟩
  have hl := lv_entry ([.ref a0, .int p0, .int p1, .int p2, .int p3]) (n := 5) (Nat.le_of_ble_eq_true rfl)
  rw [lg_entry_eq]
  generalize (lg_sl ([.ref a0, .int p0, .int p1, .int p2, .int p3]) ++ List.replicate (5 - (lg_sl ([.ref a0, .int p0, .int p1, .int p2, .int p3])).length) Slot.unset).toArray = ls at hl ⊢
  have hl : lv_has ls 5 [(0, .ref a0), (1, .int p0), (2, .int p1), (3, .int p2), (4, .int p3)] := hl
  show W p l e rmX11_farAt s m _ below meth c _ _ _ _ _ _
  refine wq (fun Q hQ => ?_)
  refine lv_aload_n hx hb dX11_farAt_0 rfl (lv_at hl 0 rfl) ?_
  refine lv_iload_n hx hb dX11_farAt_1 rfl (lv_at hl 1 rfl) ?_
  refine lv_iload_n hx hb dX11_farAt_2 rfl (lv_at hl 2 rfl) ?_
  have hPc := hP.sub (ws' := (ceX11_xOf cyI cyB cyJ cyZ a0 a1 b0_image b0_before b0_taken b0_tape b0_five b0_value b0_far b0_lead b0_walk b0_ends b0_manX b0_manY b0_dogX b0_dogY b0_row b0_round b0_farOne b0_leads b0_drags b0_from b0_near g0_thrown g0_hasImage g0_remembered g0_taped g0_point g0_end g0_begin g0_deep g0_faultAt g0_steps g0_men g0_dogs f1)) [0, 1] rfl
  have hDc := hD.sub (ws' := (ceX11_xOf cyI cyB cyJ cyZ a0 a1 b0_image b0_before b0_taken b0_tape b0_five b0_value b0_far b0_lead b0_walk b0_ends b0_manX b0_manY b0_dogX b0_dogY b0_row b0_round b0_farOne b0_leads b0_drags b0_from b0_near g0_thrown g0_hasImage g0_remembered g0_taped g0_point g0_end g0_begin g0_deep g0_faultAt g0_steps g0_men g0_dogs f1)) [0, 1] (by decide) rfl
  have hFc := va_free (wc := (ceX11_xOf cyI cyB cyJ cyZ a0 a1 b0_image b0_before b0_taken b0_tape b0_five b0_value b0_far b0_lead b0_walk b0_ends b0_manX b0_manY b0_dogX b0_dogY b0_row b0_round b0_farOne b0_leads b0_drags b0_from b0_near g0_thrown g0_hasImage g0_remembered g0_taped g0_point g0_end g0_begin g0_deep g0_faultAt g0_steps g0_men g0_dogs f1)) hD hS hA [0, 1] rfl
  refine va_calli (va_runV (As := [.int p0, .int p1]) (rest := []) ⟨hx, hb, hml, hown, hts⟩ (ctX11_xOf l dC dI cyI cyB cyJ cyZ _ a0 a1 b0_image b0_before b0_taken b0_tape b0_five b0_value b0_far b0_lead b0_walk b0_ends b0_manX b0_manY b0_dogX b0_dogY b0_row b0_round b0_farOne b0_leads b0_drags b0_from b0_near g0_thrown g0_hasImage g0_remembered g0_taped g0_point g0_end g0_begin g0_deep g0_faultAt g0_steps g0_men g0_dogs f1 p0 p1 _ hw) (cwV 2 hts gX11_farAt_X11_xOf rfl rfl rfl (by decide +kernel) ⟨Nat.le_of_ble_eq_true rfl, Nat.le_of_ble_eq_true rfl⟩) ⟨wPre_blind, va_recv hK hPc (ci := 11) (q0 := 0) rfl rfl, fun U hU hW => wPre_of hPc hK hDc hN hU hW⟩ rfl rfl hl.1 rfl (lv_room (Nat.le_of_ble_eq_true rfl)) dX11_farAt_3 ⟨(Nat.zero_le _), (Nat.zero_le _)⟩) hS (fun q _ h => hFc q h) hFc (fun r2 u1 t H1 locs ht hvm hw hB hz1 hk1 hS => ?_)
  obtain ⟨hP1, hK1, hD1⟩ := hB
  rw [ht] at hP1
  obtain ⟨hP, hD⟩ := va_join (wr := pickW (ceX11_farAt cyI cyB cyJ cyZ a0 a1 b0_image b0_before b0_taken b0_tape b0_five b0_value b0_far b0_lead b0_walk b0_ends b0_manX b0_manY b0_dogX b0_dogY b0_row b0_round b0_farOne b0_leads b0_drags b0_from b0_near g0_thrown g0_hasImage g0_remembered g0_taped g0_point g0_end g0_begin g0_deep g0_faultAt g0_steps g0_men g0_dogs f1) []) (w1 := (ceX11_xOf cyI cyB cyJ cyZ a0 a1 b0_image b0_before b0_taken b0_tape b0_five b0_value b0_far b0_lead b0_walk b0_ends b0_manX b0_manY b0_dogX b0_dogY b0_row b0_round b0_farOne b0_leads b0_drags b0_from b0_near g0_thrown g0_hasImage g0_remembered g0_taped g0_point g0_end g0_begin g0_deep g0_faultAt g0_steps g0_men g0_dogs f1)) hP hD [0, 1] [] rfl rfl (by decide) (by decide) hk1 hFc hP1 hD1
  have hP := hP.sub (ws' := (ceX11_farAt cyI cyB cyJ cyZ a0 a1 b0_image b0_before b0_taken b0_tape b0_five b0_value b0_far b0_lead b0_walk b0_ends b0_manX b0_manY b0_dogX b0_dogY b0_row b0_round b0_farOne b0_leads b0_drags b0_from b0_near g0_thrown g0_hasImage g0_remembered g0_taped g0_point g0_end g0_begin g0_deep g0_faultAt g0_steps g0_men g0_dogs f1)) [0, 1] rfl
  have hD := hD.sub (ws' := (ceX11_farAt cyI cyB cyJ cyZ a0 a1 b0_image b0_before b0_taken b0_tape b0_five b0_value b0_far b0_lead b0_walk b0_ends b0_manX b0_manY b0_dogX b0_dogY b0_row b0_round b0_farOne b0_leads b0_drags b0_from b0_near g0_thrown g0_hasImage g0_remembered g0_taped g0_point g0_end g0_begin g0_deep g0_faultAt g0_steps g0_men g0_dogs f1)) [0, 1] (by decide) rfl
  generalize H1 = H at hP hS ⊢
  refine lv_aload_n hx hb dX11_farAt_6 rfl (lv_at hl 0 rfl) ?_
  refine lv_iload_n hx hb dX11_farAt_7 rfl (lv_at hl 1 rfl) ?_
  refine lv_iload_n hx hb dX11_farAt_8 rfl (lv_at hl 2 rfl) ?_
  have hPc := hP.sub (ws' := (ceX11_yOf cyI cyB cyJ cyZ a0 a1 b0_image b0_before b0_taken b0_tape b0_five b0_value b0_far b0_lead b0_walk b0_ends b0_manX b0_manY b0_dogX b0_dogY b0_row b0_round b0_farOne b0_leads b0_drags b0_from b0_near g0_thrown g0_hasImage g0_remembered g0_taped g0_point g0_end g0_begin g0_deep g0_faultAt g0_steps g0_men g0_dogs f1)) [0, 1] rfl
  have hDc := hD.sub (ws' := (ceX11_yOf cyI cyB cyJ cyZ a0 a1 b0_image b0_before b0_taken b0_tape b0_five b0_value b0_far b0_lead b0_walk b0_ends b0_manX b0_manY b0_dogX b0_dogY b0_row b0_round b0_farOne b0_leads b0_drags b0_from b0_near g0_thrown g0_hasImage g0_remembered g0_taped g0_point g0_end g0_begin g0_deep g0_faultAt g0_steps g0_men g0_dogs f1)) [0, 1] (by decide) rfl
  have hFc := va_free (wc := (ceX11_yOf cyI cyB cyJ cyZ a0 a1 b0_image b0_before b0_taken b0_tape b0_five b0_value b0_far b0_lead b0_walk b0_ends b0_manX b0_manY b0_dogX b0_dogY b0_row b0_round b0_farOne b0_leads b0_drags b0_from b0_near g0_thrown g0_hasImage g0_remembered g0_taped g0_point g0_end g0_begin g0_deep g0_faultAt g0_steps g0_men g0_dogs f1)) hD hS hA [0, 1] rfl
  refine va_calli (va_runV (As := [.int p0, .int p1]) (rest := [.int r2]) ⟨hx, hb, hml, hown, hts⟩ (ctX11_yOf l dC dI cyI cyB cyJ cyZ _ a0 a1 b0_image b0_before b0_taken b0_tape b0_five b0_value b0_far b0_lead b0_walk b0_ends b0_manX b0_manY b0_dogX b0_dogY b0_row b0_round b0_farOne b0_leads b0_drags b0_from b0_near g0_thrown g0_hasImage g0_remembered g0_taped g0_point g0_end g0_begin g0_deep g0_faultAt g0_steps g0_men g0_dogs f1 p0 p1 _ hw) (cwV 2 hts gX11_farAt_X11_yOf rfl rfl rfl (by decide +kernel) ⟨Nat.le_of_ble_eq_true rfl, Nat.le_of_ble_eq_true rfl⟩) ⟨wPre_blind, va_recv hK hPc (ci := 11) (q0 := 0) rfl rfl, fun U hU hW => wPre_of hPc hK hDc hN hU hW⟩ rfl rfl hl.1 rfl (lv_room (Nat.le_of_ble_eq_true rfl)) dX11_farAt_9 ⟨(Nat.zero_le _), (Nat.zero_le _)⟩) hS (fun q _ h => hFc q h) hFc (fun r4 u3 t H1 locs ht hvm hw hB hz1 hk1 hS => ?_)
  obtain ⟨hP1, hK1, hD1⟩ := hB
  rw [ht] at hP1
  obtain ⟨hP, hD⟩ := va_join (wr := pickW (ceX11_farAt cyI cyB cyJ cyZ a0 a1 b0_image b0_before b0_taken b0_tape b0_five b0_value b0_far b0_lead b0_walk b0_ends b0_manX b0_manY b0_dogX b0_dogY b0_row b0_round b0_farOne b0_leads b0_drags b0_from b0_near g0_thrown g0_hasImage g0_remembered g0_taped g0_point g0_end g0_begin g0_deep g0_faultAt g0_steps g0_men g0_dogs f1) []) (w1 := (ceX11_yOf cyI cyB cyJ cyZ a0 a1 b0_image b0_before b0_taken b0_tape b0_five b0_value b0_far b0_lead b0_walk b0_ends b0_manX b0_manY b0_dogX b0_dogY b0_row b0_round b0_farOne b0_leads b0_drags b0_from b0_near g0_thrown g0_hasImage g0_remembered g0_taped g0_point g0_end g0_begin g0_deep g0_faultAt g0_steps g0_men g0_dogs f1)) hP hD [0, 1] [] rfl rfl (by decide) (by decide) hk1 hFc hP1 hD1
  have hP := hP.sub (ws' := (ceX11_farAt cyI cyB cyJ cyZ a0 a1 b0_image b0_before b0_taken b0_tape b0_five b0_value b0_far b0_lead b0_walk b0_ends b0_manX b0_manY b0_dogX b0_dogY b0_row b0_round b0_farOne b0_leads b0_drags b0_from b0_near g0_thrown g0_hasImage g0_remembered g0_taped g0_point g0_end g0_begin g0_deep g0_faultAt g0_steps g0_men g0_dogs f1)) [0, 1] rfl
  have hD := hD.sub (ws' := (ceX11_farAt cyI cyB cyJ cyZ a0 a1 b0_image b0_before b0_taken b0_tape b0_five b0_value b0_far b0_lead b0_walk b0_ends b0_manX b0_manY b0_dogX b0_dogY b0_row b0_round b0_farOne b0_leads b0_drags b0_from b0_near g0_thrown g0_hasImage g0_remembered g0_taped g0_point g0_end g0_begin g0_deep g0_faultAt g0_steps g0_men g0_dogs f1)) [0, 1] (by decide) rfl
  generalize H1 = H at hP hS ⊢
  refine lv_aload_n hx hb dX11_farAt_12 rfl (lv_at hl 0 rfl) ?_
  refine lv_iload_n hx hb dX11_farAt_13 rfl (lv_at hl 3 rfl) ?_
  refine lv_iload hx hb dX11_farAt_14 (lv_at hl 4 rfl) ?_
  have hPc := hP.sub (ws' := (ceX11_xOf cyI cyB cyJ cyZ a0 a1 b0_image b0_before b0_taken b0_tape b0_five b0_value b0_far b0_lead b0_walk b0_ends b0_manX b0_manY b0_dogX b0_dogY b0_row b0_round b0_farOne b0_leads b0_drags b0_from b0_near g0_thrown g0_hasImage g0_remembered g0_taped g0_point g0_end g0_begin g0_deep g0_faultAt g0_steps g0_men g0_dogs f1)) [0, 1] rfl
  have hDc := hD.sub (ws' := (ceX11_xOf cyI cyB cyJ cyZ a0 a1 b0_image b0_before b0_taken b0_tape b0_five b0_value b0_far b0_lead b0_walk b0_ends b0_manX b0_manY b0_dogX b0_dogY b0_row b0_round b0_farOne b0_leads b0_drags b0_from b0_near g0_thrown g0_hasImage g0_remembered g0_taped g0_point g0_end g0_begin g0_deep g0_faultAt g0_steps g0_men g0_dogs f1)) [0, 1] (by decide) rfl
  have hFc := va_free (wc := (ceX11_xOf cyI cyB cyJ cyZ a0 a1 b0_image b0_before b0_taken b0_tape b0_five b0_value b0_far b0_lead b0_walk b0_ends b0_manX b0_manY b0_dogX b0_dogY b0_row b0_round b0_farOne b0_leads b0_drags b0_from b0_near g0_thrown g0_hasImage g0_remembered g0_taped g0_point g0_end g0_begin g0_deep g0_faultAt g0_steps g0_men g0_dogs f1)) hD hS hA [0, 1] rfl
  refine va_calli (va_runV (As := [.int p2, .int p3]) (rest := [.int r4, .int r2]) ⟨hx, hb, hml, hown, hts⟩ (ctX11_xOf l dC dI cyI cyB cyJ cyZ _ a0 a1 b0_image b0_before b0_taken b0_tape b0_five b0_value b0_far b0_lead b0_walk b0_ends b0_manX b0_manY b0_dogX b0_dogY b0_row b0_round b0_farOne b0_leads b0_drags b0_from b0_near g0_thrown g0_hasImage g0_remembered g0_taped g0_point g0_end g0_begin g0_deep g0_faultAt g0_steps g0_men g0_dogs f1 p2 p3 _ hw) (cwV 2 hts gX11_farAt_X11_xOf rfl rfl rfl (by decide +kernel) ⟨Nat.le_of_ble_eq_true rfl, Nat.le_of_ble_eq_true rfl⟩) ⟨wPre_blind, va_recv hK hPc (ci := 11) (q0 := 0) rfl rfl, fun U hU hW => wPre_of hPc hK hDc hN hU hW⟩ rfl rfl hl.1 rfl (lv_room (Nat.le_of_ble_eq_true rfl)) dX11_farAt_16 ⟨(Nat.zero_le _), (Nat.zero_le _)⟩) hS (fun q _ h => hFc q h) hFc (fun r6 u5 t H1 locs ht hvm hw hB hz1 hk1 hS => ?_)
  obtain ⟨hP1, hK1, hD1⟩ := hB
  rw [ht] at hP1
  obtain ⟨hP, hD⟩ := va_join (wr := pickW (ceX11_farAt cyI cyB cyJ cyZ a0 a1 b0_image b0_before b0_taken b0_tape b0_five b0_value b0_far b0_lead b0_walk b0_ends b0_manX b0_manY b0_dogX b0_dogY b0_row b0_round b0_farOne b0_leads b0_drags b0_from b0_near g0_thrown g0_hasImage g0_remembered g0_taped g0_point g0_end g0_begin g0_deep g0_faultAt g0_steps g0_men g0_dogs f1) []) (w1 := (ceX11_xOf cyI cyB cyJ cyZ a0 a1 b0_image b0_before b0_taken b0_tape b0_five b0_value b0_far b0_lead b0_walk b0_ends b0_manX b0_manY b0_dogX b0_dogY b0_row b0_round b0_farOne b0_leads b0_drags b0_from b0_near g0_thrown g0_hasImage g0_remembered g0_taped g0_point g0_end g0_begin g0_deep g0_faultAt g0_steps g0_men g0_dogs f1)) hP hD [0, 1] [] rfl rfl (by decide) (by decide) hk1 hFc hP1 hD1
  have hP := hP.sub (ws' := (ceX11_farAt cyI cyB cyJ cyZ a0 a1 b0_image b0_before b0_taken b0_tape b0_five b0_value b0_far b0_lead b0_walk b0_ends b0_manX b0_manY b0_dogX b0_dogY b0_row b0_round b0_farOne b0_leads b0_drags b0_from b0_near g0_thrown g0_hasImage g0_remembered g0_taped g0_point g0_end g0_begin g0_deep g0_faultAt g0_steps g0_men g0_dogs f1)) [0, 1] rfl
  have hD := hD.sub (ws' := (ceX11_farAt cyI cyB cyJ cyZ a0 a1 b0_image b0_before b0_taken b0_tape b0_five b0_value b0_far b0_lead b0_walk b0_ends b0_manX b0_manY b0_dogX b0_dogY b0_row b0_round b0_farOne b0_leads b0_drags b0_from b0_near g0_thrown g0_hasImage g0_remembered g0_taped g0_point g0_end g0_begin g0_deep g0_faultAt g0_steps g0_men g0_dogs f1)) [0, 1] (by decide) rfl
  generalize H1 = H at hP hS ⊢
  refine lv_aload_n hx hb dX11_farAt_19 rfl (lv_at hl 0 rfl) ?_
  refine lv_iload_n hx hb dX11_farAt_20 rfl (lv_at hl 3 rfl) ?_
  refine lv_iload hx hb dX11_farAt_21 (lv_at hl 4 rfl) ?_
  have hPc := hP.sub (ws' := (ceX11_yOf cyI cyB cyJ cyZ a0 a1 b0_image b0_before b0_taken b0_tape b0_five b0_value b0_far b0_lead b0_walk b0_ends b0_manX b0_manY b0_dogX b0_dogY b0_row b0_round b0_farOne b0_leads b0_drags b0_from b0_near g0_thrown g0_hasImage g0_remembered g0_taped g0_point g0_end g0_begin g0_deep g0_faultAt g0_steps g0_men g0_dogs f1)) [0, 1] rfl
  have hDc := hD.sub (ws' := (ceX11_yOf cyI cyB cyJ cyZ a0 a1 b0_image b0_before b0_taken b0_tape b0_five b0_value b0_far b0_lead b0_walk b0_ends b0_manX b0_manY b0_dogX b0_dogY b0_row b0_round b0_farOne b0_leads b0_drags b0_from b0_near g0_thrown g0_hasImage g0_remembered g0_taped g0_point g0_end g0_begin g0_deep g0_faultAt g0_steps g0_men g0_dogs f1)) [0, 1] (by decide) rfl
  have hFc := va_free (wc := (ceX11_yOf cyI cyB cyJ cyZ a0 a1 b0_image b0_before b0_taken b0_tape b0_five b0_value b0_far b0_lead b0_walk b0_ends b0_manX b0_manY b0_dogX b0_dogY b0_row b0_round b0_farOne b0_leads b0_drags b0_from b0_near g0_thrown g0_hasImage g0_remembered g0_taped g0_point g0_end g0_begin g0_deep g0_faultAt g0_steps g0_men g0_dogs f1)) hD hS hA [0, 1] rfl
  refine va_calli (va_runV (As := [.int p2, .int p3]) (rest := [.int r6, .int r4, .int r2]) ⟨hx, hb, hml, hown, hts⟩ (ctX11_yOf l dC dI cyI cyB cyJ cyZ _ a0 a1 b0_image b0_before b0_taken b0_tape b0_five b0_value b0_far b0_lead b0_walk b0_ends b0_manX b0_manY b0_dogX b0_dogY b0_row b0_round b0_farOne b0_leads b0_drags b0_from b0_near g0_thrown g0_hasImage g0_remembered g0_taped g0_point g0_end g0_begin g0_deep g0_faultAt g0_steps g0_men g0_dogs f1 p2 p3 _ hw) (cwV 2 hts gX11_farAt_X11_yOf rfl rfl rfl (by decide +kernel) ⟨Nat.le_of_ble_eq_true rfl, Nat.le_of_ble_eq_true rfl⟩) ⟨wPre_blind, va_recv hK hPc (ci := 11) (q0 := 0) rfl rfl, fun U hU hW => wPre_of hPc hK hDc hN hU hW⟩ rfl rfl hl.1 rfl (lv_room (Nat.le_of_ble_eq_true rfl)) dX11_farAt_23 ⟨(Nat.zero_le _), (Nat.zero_le _)⟩) hS (fun q _ h => hFc q h) hFc (fun r8 u7 t H1 locs ht hvm hw hB hz1 hk1 hS => ?_)
  obtain ⟨hP1, hK1, hD1⟩ := hB
  rw [ht] at hP1
  obtain ⟨hP, hD⟩ := va_join (wr := pickW (ceX11_farAt cyI cyB cyJ cyZ a0 a1 b0_image b0_before b0_taken b0_tape b0_five b0_value b0_far b0_lead b0_walk b0_ends b0_manX b0_manY b0_dogX b0_dogY b0_row b0_round b0_farOne b0_leads b0_drags b0_from b0_near g0_thrown g0_hasImage g0_remembered g0_taped g0_point g0_end g0_begin g0_deep g0_faultAt g0_steps g0_men g0_dogs f1) []) (w1 := (ceX11_yOf cyI cyB cyJ cyZ a0 a1 b0_image b0_before b0_taken b0_tape b0_five b0_value b0_far b0_lead b0_walk b0_ends b0_manX b0_manY b0_dogX b0_dogY b0_row b0_round b0_farOne b0_leads b0_drags b0_from b0_near g0_thrown g0_hasImage g0_remembered g0_taped g0_point g0_end g0_begin g0_deep g0_faultAt g0_steps g0_men g0_dogs f1)) hP hD [0, 1] [] rfl rfl (by decide) (by decide) hk1 hFc hP1 hD1
  have hP := hP.sub (ws' := (ceX11_farAt cyI cyB cyJ cyZ a0 a1 b0_image b0_before b0_taken b0_tape b0_five b0_value b0_far b0_lead b0_walk b0_ends b0_manX b0_manY b0_dogX b0_dogY b0_row b0_round b0_farOne b0_leads b0_drags b0_from b0_near g0_thrown g0_hasImage g0_remembered g0_taped g0_point g0_end g0_begin g0_deep g0_faultAt g0_steps g0_men g0_dogs f1)) [0, 1] rfl
  have hD := hD.sub (ws' := (ceX11_farAt cyI cyB cyJ cyZ a0 a1 b0_image b0_before b0_taken b0_tape b0_five b0_value b0_far b0_lead b0_walk b0_ends b0_manX b0_manY b0_dogX b0_dogY b0_row b0_round b0_farOne b0_leads b0_drags b0_from b0_near g0_thrown g0_hasImage g0_remembered g0_taped g0_point g0_end g0_begin g0_deep g0_faultAt g0_steps g0_men g0_dogs f1)) [0, 1] (by decide) rfl
  generalize H1 = H at hP hS ⊢
  have hPc := hP.sub (ws' := ([] : va_W)) [] rfl
  have hDc := hD.sub (ws' := ([] : va_W)) [] (by decide) rfl
  have hFc := va_free (wc := ([] : va_W)) hD hS hA [] rfl
  refine va_calli (va_runS (As := [.int r2, .int r4, .int r6, .int r8]) (rest := []) ⟨hx, hb, hml, hown, hts⟩ (ctX11_farOf l dC dI cyI cyB cyJ cyZ _ r2 r4 r6 r8 _ hw) (va_cwS 4 hts gX11_farAt_X11_farOf rfl rfl rfl (by decide +kernel) ⟨Nat.le_of_ble_eq_true rfl, Nat.le_of_ble_eq_true rfl⟩) ⟨wPre_blind, fun U hU hW => wPre_of hPc hK hDc hN hU hW⟩ rfl rfl hl.1 rfl (lv_room (Nat.le_of_ble_eq_true rfl)) dX11_farAt_26 ⟨(Nat.zero_le _), (Nat.zero_le _)⟩) hS (fun q _ h => hFc q h) hFc (fun r10 u9 t H1 locs ht hvm hw hB hz1 hk1 hS => ?_)
  obtain ⟨hP1, hK1, hD1⟩ := hB
  rw [ht] at hP1
  obtain ⟨hP, hD⟩ := va_join (wr := pickW (ceX11_farAt cyI cyB cyJ cyZ a0 a1 b0_image b0_before b0_taken b0_tape b0_five b0_value b0_far b0_lead b0_walk b0_ends b0_manX b0_manY b0_dogX b0_dogY b0_row b0_round b0_farOne b0_leads b0_drags b0_from b0_near g0_thrown g0_hasImage g0_remembered g0_taped g0_point g0_end g0_begin g0_deep g0_faultAt g0_steps g0_men g0_dogs f1) [0, 1]) (w1 := ([] : va_W)) hP hD [] [0, 1] rfl rfl (by decide) (by decide) hk1 hFc hP1 hD1
  have hP := hP.sub (ws' := (ceX11_farAt cyI cyB cyJ cyZ a0 a1 b0_image b0_before b0_taken b0_tape b0_five b0_value b0_far b0_lead b0_walk b0_ends b0_manX b0_manY b0_dogX b0_dogY b0_row b0_round b0_farOne b0_leads b0_drags b0_from b0_near g0_thrown g0_hasImage g0_remembered g0_taped g0_point g0_end g0_begin g0_deep g0_faultAt g0_steps g0_men g0_dogs f1)) [0, 1] rfl
  have hD := hD.sub (ws' := (ceX11_farAt cyI cyB cyJ cyZ a0 a1 b0_image b0_before b0_taken b0_tape b0_five b0_value b0_far b0_lead b0_walk b0_ends b0_manX b0_manY b0_dogX b0_dogY b0_row b0_round b0_farOne b0_leads b0_drags b0_from b0_near g0_thrown g0_hasImage g0_remembered g0_taped g0_point g0_end g0_begin g0_deep g0_faultAt g0_steps g0_men g0_dogs f1)) [0, 1] (by decide) rfl
  generalize H1 = H at hP hS ⊢
  rw [hQ]
  exact W.iret (v := r10) hx hb hr (fun t ht hW => ⟨⟨r10, (), rfl, hw, by rw [ht]; exact hP, va_K.moved hW.alike hK, hD⟩, hS.F ht⟩) hS.2.2 dX11_farAt_29
/-! LeadParkModel.factOf (IIIIII)I -/
abbrev ceX11_factOf (cyI cyB cyJ cyZ : ClassId) (a0 a1 b0_image b0_before b0_taken b0_tape b0_five b0_value b0_far b0_lead b0_walk b0_ends b0_manX b0_manY b0_dogX b0_dogY b0_row b0_round b0_farOne b0_leads b0_drags b0_from b0_near : Nat) (g0_thrown : Int32) (g0_hasImage : Int32) (g0_remembered : Int32) (g0_taped : Int32) (g0_point : Int32) (g0_end : Int32) (g0_begin : Int32) (g0_deep : Int32) (g0_faultAt : Int32) (g0_steps : Int32) (g0_men : Int32) (g0_dogs : Int32) (f1 : Nat → Int32) : va_W := [(a0, .inr (11, [.int g0_thrown, .ref a1, .ref b0_image, .ref b0_before, .int g0_hasImage, .ref b0_taken, .int g0_remembered, .ref b0_tape, .int g0_taped, .int g0_point, .int g0_end, .int g0_begin, .int g0_deep, .int g0_faultAt, .ref b0_five, .int g0_steps, .ref b0_value, .ref b0_far, .int g0_men, .int g0_dogs, .ref b0_lead, .ref b0_walk, .ref b0_ends, .ref b0_manX, .ref b0_manY, .ref b0_dogX, .ref b0_dogY, .ref b0_row, .ref b0_round, .ref b0_farOne, .ref b0_leads, .ref b0_drags, .ref b0_from, .ref b0_near])), (a1, .inl (cyI, 2508, .inl f1))]

abbrev rmX11_factOf : Room := { frames := 2, cells := 0, slots := 0, locals := 47 }
set_option maxRecDepth 100000 in
set_option maxHeartbeats 4000000 in
theorem ctX11_factOf (l : Launch) (dC : Nat → ClassId) (dI : Nat → Nat → Nat) (cyI cyB cyJ cyZ : ClassId) (sz : Nat) (a0 a1 b0_image b0_before b0_taken b0_tape b0_five b0_value b0_far b0_lead b0_walk b0_ends b0_manX b0_manY b0_dogX b0_dogY b0_row b0_round b0_farOne b0_leads b0_drags b0_from b0_near : Nat) (g0_thrown : Int32) (g0_hasImage : Int32) (g0_remembered : Int32) (g0_taped : Int32) (g0_point : Int32) (g0_end : Int32) (g0_begin : Int32) (g0_deep : Int32) (g0_faultAt : Int32) (g0_steps : Int32) (g0_men : Int32) (g0_dogs : Int32) (f1 : Nat → Int32) (p0 : Int32) (p1 : Int32) (p2 : Int32) (p3 : Int32) (p4 : Int32) (p5 : Int32) (post : Int32 → Unit → Prop) (hw : wpX11_factOf post f1 p0 p1 p2 p3 p4 p5) : Met l yX11_factOf wsX11_factOf rmX11_factOf (va_Pc [.ref a0, .int p0, .int p1, .int p2, .int p3, .int p4, .int p5] (wPre dC dI cyI cyB cyJ cyZ sz (ceX11_factOf cyI cyB cyJ cyZ a0 a1 b0_image b0_before b0_taken b0_tape b0_five b0_value b0_far b0_lead b0_walk b0_ends b0_manX b0_manY b0_dogX b0_dogY b0_row b0_round b0_farOne b0_leads b0_drags b0_from b0_near g0_thrown g0_hasImage g0_remembered g0_taped g0_point g0_end g0_begin g0_deep g0_faultAt g0_steps g0_men g0_dogs f1))) (va_Qi post (fun u : Unit => wAt dC dI cyI cyB cyJ cyZ (va_A (ceX11_factOf cyI cyB cyJ cyZ a0 a1 b0_image b0_before b0_taken b0_tape b0_five b0_value b0_far b0_lead b0_walk b0_ends b0_manX b0_manY b0_dogX b0_dogY b0_row b0_round b0_farOne b0_leads b0_drags b0_from b0_near g0_thrown g0_hasImage g0_remembered g0_taped g0_point g0_end g0_begin g0_deep g0_faultAt g0_steps g0_men g0_dogs f1) sz) (ceX11_factOf cyI cyB cyJ cyZ a0 a1 b0_image b0_before b0_taken b0_tape b0_five b0_value b0_far b0_lead b0_walk b0_ends b0_manX b0_manY b0_dogX b0_dogY b0_row b0_round b0_farOne b0_leads b0_drags b0_from b0_near g0_thrown g0_hasImage g0_remembered g0_taped g0_point g0_end g0_begin g0_deep g0_faultAt g0_steps g0_men g0_dogs f1)) (va_A (ceX11_factOf cyI cyB cyJ cyZ a0 a1 b0_image b0_before b0_taken b0_tape b0_five b0_value b0_far b0_lead b0_walk b0_ends b0_manX b0_manY b0_dogX b0_dogY b0_row b0_round b0_farOne b0_leads b0_drags b0_from b0_near g0_thrown g0_hasImage g0_remembered g0_taped g0_point g0_end g0_begin g0_deep g0_faultAt g0_steps g0_men g0_dogs f1) sz)) 0 0 (va_A (ceX11_factOf cyI cyB cyJ cyZ a0 a1 b0_image b0_before b0_taken b0_tape b0_five b0_value b0_far b0_lead b0_walk b0_ends b0_manX b0_manY b0_dogX b0_dogY b0_row b0_round b0_farOne b0_leads b0_drags b0_from b0_near g0_thrown g0_hasImage g0_remembered g0_taped g0_point g0_end g0_begin g0_deep g0_faultAt g0_steps g0_men g0_dogs f1) sz) := by
  refine Met.ofW (cc := cX11_factOf) (maxL := 7) (ret := (some .int)) (by decide) rfl ?_
  intro p e s m args below meth c s₁ B hml hv
  obtain ⟨rfl, hsz, hP, hK, hD0, hN⟩ := hv
  have hx := B.exec
  have hb := B.bytes
  have hr := B.returns
  have hts := atoms_spec (ws := wsX11_factOf) B.pre
  have hown : s.vm.findClass RX11 = some m.cls := findClass_of_methodNamed B.named
  have hlocks := B.notSynchronized
  subst hsz
  have hD := hD0.self (sz := s.heap.size)
  generalize hAe : va_A (ceX11_factOf cyI cyB cyJ cyZ a0 a1 b0_image b0_before b0_taken b0_tape b0_five b0_value b0_far b0_lead b0_walk b0_ends b0_manX b0_manY b0_dogX b0_dogY b0_row b0_round b0_farOne b0_leads b0_drags b0_from b0_near g0_thrown g0_hasImage g0_remembered g0_taped g0_point g0_end g0_begin g0_deep g0_faultAt g0_steps g0_men g0_dogs f1) s.heap.size = A at hD ⊢
  have hA : ∀ q : Nat, s.heap.size ≤ q → A q := fun q h => by rw [← hAe]; exact Or.inr h
  have hS : va_S A s.heap s.heap [] := va_S.rf
  have C0 : cxM p s m meth c _ wsX11_factOf RX11 cX11_factOf 7 (some .int) := ⟨hx, hb, hr, hml, hown, hts, hlocks⟩
  have hl := lv_entry ([.ref a0, .int p0, .int p1, .int p2, .int p3, .int p4, .int p5]) (n := 7) (Nat.le_of_ble_eq_true rfl)
  rw [lg_entry_eq]
  generalize (lg_sl ([.ref a0, .int p0, .int p1, .int p2, .int p3, .int p4, .int p5]) ++ List.replicate (7 - (lg_sl ([.ref a0, .int p0, .int p1, .int p2, .int p3, .int p4, .int p5])).length) Slot.unset).toArray = ls at hl ⊢
  have hl : lv_has ls 7 [(0, .ref a0), (1, .int p0), (2, .int p1), (3, .int p2), (4, .int p3), (5, .int p4), (6, .int p5)] := hl
  show W p l e rmX11_factOf s m _ below meth c _ _ _ _ _ _
  refine wq (fun Q hQ => ?_)
  refine lv_iload_n hx hb dX11_factOf_0 rfl (lv_at hl 1 rfl) ?_
  by_cases hq0 : p0 = 0 ∨ p0 = 1 ∨ p0 = 2 ∨ p0 = 3 ∨ p0 = 4 ∨ p0 = 5 ∨ p0 = 6
  · rcases hq0 with hq | hq | hq | hq | hq | hq | hq
    · have hw := hw.1 hq
      refine lv_tableIn (tgt := 44) (off := 43) hx hb dX11_factOf_1 (by rw [hq]; decide) (by rw [hq]; decide) (by rw [hq]; rfl) (by decide) ?_
      refine lv_iload hx hb dX11_factOf_44 (lv_at hl 4 rfl) ?_
      rw [hQ]
      exact W.iret (v := p3) hx hb hr (fun t ht hW => ⟨⟨p3, (), rfl, hw, by rw [ht]; exact hP, va_K.moved hW.alike hK, hD⟩, hS.F ht⟩) hS.2.2 dX11_factOf_46
    · have hw := hw.2.1 hq
      refine lv_tableIn (tgt := 47) (off := 46) hx hb dX11_factOf_1 (by rw [hq]; decide) (by rw [hq]; decide) (by rw [hq]; rfl) (by decide) ?_
      refine lv_iload hx hb dX11_factOf_47 (lv_at hl 6 rfl) ?_
      rw [hQ]
      exact W.iret (v := p5) hx hb hr (fun t ht hW => ⟨⟨p5, (), rfl, hw, by rw [ht]; exact hP, va_K.moved hW.alike hK, hD⟩, hS.F ht⟩) hS.2.2 dX11_factOf_49
    · have hw := hw.2.2.1 hq
      refine lv_tableIn (tgt := 50) (off := 49) hx hb dX11_factOf_1 (by rw [hq]; decide) (by rw [hq]; decide) (by rw [hq]; rfl) (by decide) ?_
      refine lv_aload_n hx hb dX11_factOf_50 rfl (lv_at hl 0 rfl) ?_
      refine lv_iload_n hx hb dX11_factOf_51 rfl (lv_at hl 3 rfl) ?_
      refine lv_iload hx hb dX11_factOf_52 (lv_at hl 4 rfl) ?_
      refine lv_iload hx hb dX11_factOf_54 (lv_at hl 5 rfl) ?_
      refine lv_iload hx hb dX11_factOf_56 (lv_at hl 6 rfl) ?_
      have hPc := hP.sub (ws' := (ceX11_farAt cyI cyB cyJ cyZ a0 a1 b0_image b0_before b0_taken b0_tape b0_five b0_value b0_far b0_lead b0_walk b0_ends b0_manX b0_manY b0_dogX b0_dogY b0_row b0_round b0_farOne b0_leads b0_drags b0_from b0_near g0_thrown g0_hasImage g0_remembered g0_taped g0_point g0_end g0_begin g0_deep g0_faultAt g0_steps g0_men g0_dogs f1)) [0, 1] rfl
      have hDc := hD.sub (ws' := (ceX11_farAt cyI cyB cyJ cyZ a0 a1 b0_image b0_before b0_taken b0_tape b0_five b0_value b0_far b0_lead b0_walk b0_ends b0_manX b0_manY b0_dogX b0_dogY b0_row b0_round b0_farOne b0_leads b0_drags b0_from b0_near g0_thrown g0_hasImage g0_remembered g0_taped g0_point g0_end g0_begin g0_deep g0_faultAt g0_steps g0_men g0_dogs f1)) [0, 1] (by decide) rfl
      have hFc := va_free (wc := (ceX11_farAt cyI cyB cyJ cyZ a0 a1 b0_image b0_before b0_taken b0_tape b0_five b0_value b0_far b0_lead b0_walk b0_ends b0_manX b0_manY b0_dogX b0_dogY b0_row b0_round b0_farOne b0_leads b0_drags b0_from b0_near g0_thrown g0_hasImage g0_remembered g0_taped g0_point g0_end g0_begin g0_deep g0_faultAt g0_steps g0_men g0_dogs f1)) hD hS hA [0, 1] rfl
      refine va_calli (va_runV (As := [.int p2, .int p3, .int p4, .int p5]) (rest := []) ⟨hx, hb, hml, hown, hts⟩ (ctX11_farAt l dC dI cyI cyB cyJ cyZ _ a0 a1 b0_image b0_before b0_taken b0_tape b0_five b0_value b0_far b0_lead b0_walk b0_ends b0_manX b0_manY b0_dogX b0_dogY b0_row b0_round b0_farOne b0_leads b0_drags b0_from b0_near g0_thrown g0_hasImage g0_remembered g0_taped g0_point g0_end g0_begin g0_deep g0_faultAt g0_steps g0_men g0_dogs f1 p2 p3 p4 p5 _ hw) (cwV 4 hts gX11_factOf_X11_farAt rfl rfl rfl (by decide +kernel) ⟨Nat.le_of_ble_eq_true rfl, Nat.le_of_ble_eq_true rfl⟩) ⟨wPre_blind, va_recv hK hPc (ci := 11) (q0 := 0) rfl rfl, fun U hU hW => wPre_of hPc hK hDc hN hU hW⟩ rfl rfl hl.1 rfl (lv_room (Nat.le_of_ble_eq_true rfl)) dX11_factOf_58 ⟨(Nat.zero_le _), (Nat.zero_le _)⟩) hS (fun q _ h => hFc q h) hFc (fun r2 u1 t H1 locs ht hvm hw hB hz1 hk1 hS => ?_)
      obtain ⟨hP1, hK1, hD1⟩ := hB
      rw [ht] at hP1
      obtain ⟨hP, hD⟩ := va_join (wr := pickW (ceX11_factOf cyI cyB cyJ cyZ a0 a1 b0_image b0_before b0_taken b0_tape b0_five b0_value b0_far b0_lead b0_walk b0_ends b0_manX b0_manY b0_dogX b0_dogY b0_row b0_round b0_farOne b0_leads b0_drags b0_from b0_near g0_thrown g0_hasImage g0_remembered g0_taped g0_point g0_end g0_begin g0_deep g0_faultAt g0_steps g0_men g0_dogs f1) []) (w1 := (ceX11_farAt cyI cyB cyJ cyZ a0 a1 b0_image b0_before b0_taken b0_tape b0_five b0_value b0_far b0_lead b0_walk b0_ends b0_manX b0_manY b0_dogX b0_dogY b0_row b0_round b0_farOne b0_leads b0_drags b0_from b0_near g0_thrown g0_hasImage g0_remembered g0_taped g0_point g0_end g0_begin g0_deep g0_faultAt g0_steps g0_men g0_dogs f1)) hP hD [0, 1] [] rfl rfl (by decide) (by decide) hk1 hFc hP1 hD1
      have hP := hP.sub (ws' := (ceX11_factOf cyI cyB cyJ cyZ a0 a1 b0_image b0_before b0_taken b0_tape b0_five b0_value b0_far b0_lead b0_walk b0_ends b0_manX b0_manY b0_dogX b0_dogY b0_row b0_round b0_farOne b0_leads b0_drags b0_from b0_near g0_thrown g0_hasImage g0_remembered g0_taped g0_point g0_end g0_begin g0_deep g0_faultAt g0_steps g0_men g0_dogs f1)) [0, 1] rfl
      have hD := hD.sub (ws' := (ceX11_factOf cyI cyB cyJ cyZ a0 a1 b0_image b0_before b0_taken b0_tape b0_five b0_value b0_far b0_lead b0_walk b0_ends b0_manX b0_manY b0_dogX b0_dogY b0_row b0_round b0_farOne b0_leads b0_drags b0_from b0_near g0_thrown g0_hasImage g0_remembered g0_taped g0_point g0_end g0_begin g0_deep g0_faultAt g0_steps g0_men g0_dogs f1)) [0, 1] (by decide) rfl
      generalize H1 = H at hP hS ⊢
      rw [hQ]
      exact W.iret (v := r2) hx hb hr (fun t ht hW => ⟨⟨r2, (), rfl, hw, by rw [ht]; exact hP, va_K.moved hW.alike hK, hD⟩, hS.F ht⟩) hS.2.2 dX11_factOf_61
    · have hw := hw.2.2.2.1 hq
      refine lv_tableIn (tgt := 62) (off := 61) hx hb dX11_factOf_1 (by rw [hq]; decide) (by rw [hq]; decide) (by rw [hq]; rfl) (by decide) ?_
      refine lv_aload_n hx hb dX11_factOf_62 rfl (lv_at hl 0 rfl) ?_
      refine lv_iload_n hx hb dX11_factOf_63 rfl (lv_at hl 3 rfl) ?_
      refine lv_iload hx hb dX11_factOf_64 (lv_at hl 4 rfl) ?_
      have hPc := hP.sub (ws' := (ceX11_xOf cyI cyB cyJ cyZ a0 a1 b0_image b0_before b0_taken b0_tape b0_five b0_value b0_far b0_lead b0_walk b0_ends b0_manX b0_manY b0_dogX b0_dogY b0_row b0_round b0_farOne b0_leads b0_drags b0_from b0_near g0_thrown g0_hasImage g0_remembered g0_taped g0_point g0_end g0_begin g0_deep g0_faultAt g0_steps g0_men g0_dogs f1)) [0, 1] rfl
      have hDc := hD.sub (ws' := (ceX11_xOf cyI cyB cyJ cyZ a0 a1 b0_image b0_before b0_taken b0_tape b0_five b0_value b0_far b0_lead b0_walk b0_ends b0_manX b0_manY b0_dogX b0_dogY b0_row b0_round b0_farOne b0_leads b0_drags b0_from b0_near g0_thrown g0_hasImage g0_remembered g0_taped g0_point g0_end g0_begin g0_deep g0_faultAt g0_steps g0_men g0_dogs f1)) [0, 1] (by decide) rfl
      have hFc := va_free (wc := (ceX11_xOf cyI cyB cyJ cyZ a0 a1 b0_image b0_before b0_taken b0_tape b0_five b0_value b0_far b0_lead b0_walk b0_ends b0_manX b0_manY b0_dogX b0_dogY b0_row b0_round b0_farOne b0_leads b0_drags b0_from b0_near g0_thrown g0_hasImage g0_remembered g0_taped g0_point g0_end g0_begin g0_deep g0_faultAt g0_steps g0_men g0_dogs f1)) hD hS hA [0, 1] rfl
      refine va_calli (va_runV (As := [.int p2, .int p3]) (rest := []) ⟨hx, hb, hml, hown, hts⟩ (ctX11_xOf l dC dI cyI cyB cyJ cyZ _ a0 a1 b0_image b0_before b0_taken b0_tape b0_five b0_value b0_far b0_lead b0_walk b0_ends b0_manX b0_manY b0_dogX b0_dogY b0_row b0_round b0_farOne b0_leads b0_drags b0_from b0_near g0_thrown g0_hasImage g0_remembered g0_taped g0_point g0_end g0_begin g0_deep g0_faultAt g0_steps g0_men g0_dogs f1 p2 p3 _ hw) (cwV 2 hts gX11_factOf_X11_xOf rfl rfl rfl (by decide +kernel) ⟨Nat.le_of_ble_eq_true rfl, Nat.le_of_ble_eq_true rfl⟩) ⟨wPre_blind, va_recv hK hPc (ci := 11) (q0 := 0) rfl rfl, fun U hU hW => wPre_of hPc hK hDc hN hU hW⟩ rfl rfl hl.1 rfl (lv_room (Nat.le_of_ble_eq_true rfl)) dX11_factOf_66 ⟨(Nat.zero_le _), (Nat.zero_le _)⟩) hS (fun q _ h => hFc q h) hFc (fun r4 u3 t H1 locs ht hvm hw hB hz1 hk1 hS => ?_)
      obtain ⟨hP1, hK1, hD1⟩ := hB
      rw [ht] at hP1
      obtain ⟨hP, hD⟩ := va_join (wr := pickW (ceX11_factOf cyI cyB cyJ cyZ a0 a1 b0_image b0_before b0_taken b0_tape b0_five b0_value b0_far b0_lead b0_walk b0_ends b0_manX b0_manY b0_dogX b0_dogY b0_row b0_round b0_farOne b0_leads b0_drags b0_from b0_near g0_thrown g0_hasImage g0_remembered g0_taped g0_point g0_end g0_begin g0_deep g0_faultAt g0_steps g0_men g0_dogs f1) []) (w1 := (ceX11_xOf cyI cyB cyJ cyZ a0 a1 b0_image b0_before b0_taken b0_tape b0_five b0_value b0_far b0_lead b0_walk b0_ends b0_manX b0_manY b0_dogX b0_dogY b0_row b0_round b0_farOne b0_leads b0_drags b0_from b0_near g0_thrown g0_hasImage g0_remembered g0_taped g0_point g0_end g0_begin g0_deep g0_faultAt g0_steps g0_men g0_dogs f1)) hP hD [0, 1] [] rfl rfl (by decide) (by decide) hk1 hFc hP1 hD1
      have hP := hP.sub (ws' := (ceX11_factOf cyI cyB cyJ cyZ a0 a1 b0_image b0_before b0_taken b0_tape b0_five b0_value b0_far b0_lead b0_walk b0_ends b0_manX b0_manY b0_dogX b0_dogY b0_row b0_round b0_farOne b0_leads b0_drags b0_from b0_near g0_thrown g0_hasImage g0_remembered g0_taped g0_point g0_end g0_begin g0_deep g0_faultAt g0_steps g0_men g0_dogs f1)) [0, 1] rfl
      have hD := hD.sub (ws' := (ceX11_factOf cyI cyB cyJ cyZ a0 a1 b0_image b0_before b0_taken b0_tape b0_five b0_value b0_far b0_lead b0_walk b0_ends b0_manX b0_manY b0_dogX b0_dogY b0_row b0_round b0_farOne b0_leads b0_drags b0_from b0_near g0_thrown g0_hasImage g0_remembered g0_taped g0_point g0_end g0_begin g0_deep g0_faultAt g0_steps g0_men g0_dogs f1)) [0, 1] (by decide) rfl
      generalize H1 = H at hP hS ⊢
      rw [hQ]
      exact W.iret (v := r4) hx hb hr (fun t ht hW => ⟨⟨r4, (), rfl, hw, by rw [ht]; exact hP, va_K.moved hW.alike hK, hD⟩, hS.F ht⟩) hS.2.2 dX11_factOf_69
    · have hw := hw.2.2.2.2.1 hq
      refine lv_tableIn (tgt := 70) (off := 69) hx hb dX11_factOf_1 (by rw [hq]; decide) (by rw [hq]; decide) (by rw [hq]; rfl) (by decide) ?_
      refine lv_aload_n hx hb dX11_factOf_70 rfl (lv_at hl 0 rfl) ?_
      refine lv_iload_n hx hb dX11_factOf_71 rfl (lv_at hl 3 rfl) ?_
      refine lv_iload hx hb dX11_factOf_72 (lv_at hl 4 rfl) ?_
      have hPc := hP.sub (ws' := (ceX11_yOf cyI cyB cyJ cyZ a0 a1 b0_image b0_before b0_taken b0_tape b0_five b0_value b0_far b0_lead b0_walk b0_ends b0_manX b0_manY b0_dogX b0_dogY b0_row b0_round b0_farOne b0_leads b0_drags b0_from b0_near g0_thrown g0_hasImage g0_remembered g0_taped g0_point g0_end g0_begin g0_deep g0_faultAt g0_steps g0_men g0_dogs f1)) [0, 1] rfl
      have hDc := hD.sub (ws' := (ceX11_yOf cyI cyB cyJ cyZ a0 a1 b0_image b0_before b0_taken b0_tape b0_five b0_value b0_far b0_lead b0_walk b0_ends b0_manX b0_manY b0_dogX b0_dogY b0_row b0_round b0_farOne b0_leads b0_drags b0_from b0_near g0_thrown g0_hasImage g0_remembered g0_taped g0_point g0_end g0_begin g0_deep g0_faultAt g0_steps g0_men g0_dogs f1)) [0, 1] (by decide) rfl
      have hFc := va_free (wc := (ceX11_yOf cyI cyB cyJ cyZ a0 a1 b0_image b0_before b0_taken b0_tape b0_five b0_value b0_far b0_lead b0_walk b0_ends b0_manX b0_manY b0_dogX b0_dogY b0_row b0_round b0_farOne b0_leads b0_drags b0_from b0_near g0_thrown g0_hasImage g0_remembered g0_taped g0_point g0_end g0_begin g0_deep g0_faultAt g0_steps g0_men g0_dogs f1)) hD hS hA [0, 1] rfl
      refine va_calli (va_runV (As := [.int p2, .int p3]) (rest := []) ⟨hx, hb, hml, hown, hts⟩ (ctX11_yOf l dC dI cyI cyB cyJ cyZ _ a0 a1 b0_image b0_before b0_taken b0_tape b0_five b0_value b0_far b0_lead b0_walk b0_ends b0_manX b0_manY b0_dogX b0_dogY b0_row b0_round b0_farOne b0_leads b0_drags b0_from b0_near g0_thrown g0_hasImage g0_remembered g0_taped g0_point g0_end g0_begin g0_deep g0_faultAt g0_steps g0_men g0_dogs f1 p2 p3 _ hw) (cwV 2 hts gX11_factOf_X11_yOf rfl rfl rfl (by decide +kernel) ⟨Nat.le_of_ble_eq_true rfl, Nat.le_of_ble_eq_true rfl⟩) ⟨wPre_blind, va_recv hK hPc (ci := 11) (q0 := 0) rfl rfl, fun U hU hW => wPre_of hPc hK hDc hN hU hW⟩ rfl rfl hl.1 rfl (lv_room (Nat.le_of_ble_eq_true rfl)) dX11_factOf_74 ⟨(Nat.zero_le _), (Nat.zero_le _)⟩) hS (fun q _ h => hFc q h) hFc (fun r6 u5 t H1 locs ht hvm hw hB hz1 hk1 hS => ?_)
      obtain ⟨hP1, hK1, hD1⟩ := hB
      rw [ht] at hP1
      obtain ⟨hP, hD⟩ := va_join (wr := pickW (ceX11_factOf cyI cyB cyJ cyZ a0 a1 b0_image b0_before b0_taken b0_tape b0_five b0_value b0_far b0_lead b0_walk b0_ends b0_manX b0_manY b0_dogX b0_dogY b0_row b0_round b0_farOne b0_leads b0_drags b0_from b0_near g0_thrown g0_hasImage g0_remembered g0_taped g0_point g0_end g0_begin g0_deep g0_faultAt g0_steps g0_men g0_dogs f1) []) (w1 := (ceX11_yOf cyI cyB cyJ cyZ a0 a1 b0_image b0_before b0_taken b0_tape b0_five b0_value b0_far b0_lead b0_walk b0_ends b0_manX b0_manY b0_dogX b0_dogY b0_row b0_round b0_farOne b0_leads b0_drags b0_from b0_near g0_thrown g0_hasImage g0_remembered g0_taped g0_point g0_end g0_begin g0_deep g0_faultAt g0_steps g0_men g0_dogs f1)) hP hD [0, 1] [] rfl rfl (by decide) (by decide) hk1 hFc hP1 hD1
      have hP := hP.sub (ws' := (ceX11_factOf cyI cyB cyJ cyZ a0 a1 b0_image b0_before b0_taken b0_tape b0_five b0_value b0_far b0_lead b0_walk b0_ends b0_manX b0_manY b0_dogX b0_dogY b0_row b0_round b0_farOne b0_leads b0_drags b0_from b0_near g0_thrown g0_hasImage g0_remembered g0_taped g0_point g0_end g0_begin g0_deep g0_faultAt g0_steps g0_men g0_dogs f1)) [0, 1] rfl
      have hD := hD.sub (ws' := (ceX11_factOf cyI cyB cyJ cyZ a0 a1 b0_image b0_before b0_taken b0_tape b0_five b0_value b0_far b0_lead b0_walk b0_ends b0_manX b0_manY b0_dogX b0_dogY b0_row b0_round b0_farOne b0_leads b0_drags b0_from b0_near g0_thrown g0_hasImage g0_remembered g0_taped g0_point g0_end g0_begin g0_deep g0_faultAt g0_steps g0_men g0_dogs f1)) [0, 1] (by decide) rfl
      generalize H1 = H at hP hS ⊢
      rw [hQ]
      exact W.iret (v := r6) hx hb hr (fun t ht hW => ⟨⟨r6, (), rfl, hw, by rw [ht]; exact hP, va_K.moved hW.alike hK, hD⟩, hS.F ht⟩) hS.2.2 dX11_factOf_77
    · have hw := hw.2.2.2.2.2.1 hq
      refine lv_tableIn (tgt := 78) (off := 77) hx hb dX11_factOf_1 (by rw [hq]; decide) (by rw [hq]; decide) (by rw [hq]; rfl) (by decide) ?_
      refine lv_aload_n hx hb dX11_factOf_78 rfl (lv_at hl 0 rfl) ?_
      refine lv_iload hx hb dX11_factOf_79 (lv_at hl 5 rfl) ?_
      refine lv_iload hx hb dX11_factOf_81 (lv_at hl 6 rfl) ?_
      have hPc := hP.sub (ws' := (ceX11_xOf cyI cyB cyJ cyZ a0 a1 b0_image b0_before b0_taken b0_tape b0_five b0_value b0_far b0_lead b0_walk b0_ends b0_manX b0_manY b0_dogX b0_dogY b0_row b0_round b0_farOne b0_leads b0_drags b0_from b0_near g0_thrown g0_hasImage g0_remembered g0_taped g0_point g0_end g0_begin g0_deep g0_faultAt g0_steps g0_men g0_dogs f1)) [0, 1] rfl
      have hDc := hD.sub (ws' := (ceX11_xOf cyI cyB cyJ cyZ a0 a1 b0_image b0_before b0_taken b0_tape b0_five b0_value b0_far b0_lead b0_walk b0_ends b0_manX b0_manY b0_dogX b0_dogY b0_row b0_round b0_farOne b0_leads b0_drags b0_from b0_near g0_thrown g0_hasImage g0_remembered g0_taped g0_point g0_end g0_begin g0_deep g0_faultAt g0_steps g0_men g0_dogs f1)) [0, 1] (by decide) rfl
      have hFc := va_free (wc := (ceX11_xOf cyI cyB cyJ cyZ a0 a1 b0_image b0_before b0_taken b0_tape b0_five b0_value b0_far b0_lead b0_walk b0_ends b0_manX b0_manY b0_dogX b0_dogY b0_row b0_round b0_farOne b0_leads b0_drags b0_from b0_near g0_thrown g0_hasImage g0_remembered g0_taped g0_point g0_end g0_begin g0_deep g0_faultAt g0_steps g0_men g0_dogs f1)) hD hS hA [0, 1] rfl
      refine va_calli (va_runV (As := [.int p4, .int p5]) (rest := []) ⟨hx, hb, hml, hown, hts⟩ (ctX11_xOf l dC dI cyI cyB cyJ cyZ _ a0 a1 b0_image b0_before b0_taken b0_tape b0_five b0_value b0_far b0_lead b0_walk b0_ends b0_manX b0_manY b0_dogX b0_dogY b0_row b0_round b0_farOne b0_leads b0_drags b0_from b0_near g0_thrown g0_hasImage g0_remembered g0_taped g0_point g0_end g0_begin g0_deep g0_faultAt g0_steps g0_men g0_dogs f1 p4 p5 _ hw) (cwV 2 hts gX11_factOf_X11_xOf rfl rfl rfl (by decide +kernel) ⟨Nat.le_of_ble_eq_true rfl, Nat.le_of_ble_eq_true rfl⟩) ⟨wPre_blind, va_recv hK hPc (ci := 11) (q0 := 0) rfl rfl, fun U hU hW => wPre_of hPc hK hDc hN hU hW⟩ rfl rfl hl.1 rfl (lv_room (Nat.le_of_ble_eq_true rfl)) dX11_factOf_83 ⟨(Nat.zero_le _), (Nat.zero_le _)⟩) hS (fun q _ h => hFc q h) hFc (fun r8 u7 t H1 locs ht hvm hw hB hz1 hk1 hS => ?_)
      obtain ⟨hP1, hK1, hD1⟩ := hB
      rw [ht] at hP1
      obtain ⟨hP, hD⟩ := va_join (wr := pickW (ceX11_factOf cyI cyB cyJ cyZ a0 a1 b0_image b0_before b0_taken b0_tape b0_five b0_value b0_far b0_lead b0_walk b0_ends b0_manX b0_manY b0_dogX b0_dogY b0_row b0_round b0_farOne b0_leads b0_drags b0_from b0_near g0_thrown g0_hasImage g0_remembered g0_taped g0_point g0_end g0_begin g0_deep g0_faultAt g0_steps g0_men g0_dogs f1) []) (w1 := (ceX11_xOf cyI cyB cyJ cyZ a0 a1 b0_image b0_before b0_taken b0_tape b0_five b0_value b0_far b0_lead b0_walk b0_ends b0_manX b0_manY b0_dogX b0_dogY b0_row b0_round b0_farOne b0_leads b0_drags b0_from b0_near g0_thrown g0_hasImage g0_remembered g0_taped g0_point g0_end g0_begin g0_deep g0_faultAt g0_steps g0_men g0_dogs f1)) hP hD [0, 1] [] rfl rfl (by decide) (by decide) hk1 hFc hP1 hD1
      have hP := hP.sub (ws' := (ceX11_factOf cyI cyB cyJ cyZ a0 a1 b0_image b0_before b0_taken b0_tape b0_five b0_value b0_far b0_lead b0_walk b0_ends b0_manX b0_manY b0_dogX b0_dogY b0_row b0_round b0_farOne b0_leads b0_drags b0_from b0_near g0_thrown g0_hasImage g0_remembered g0_taped g0_point g0_end g0_begin g0_deep g0_faultAt g0_steps g0_men g0_dogs f1)) [0, 1] rfl
      have hD := hD.sub (ws' := (ceX11_factOf cyI cyB cyJ cyZ a0 a1 b0_image b0_before b0_taken b0_tape b0_five b0_value b0_far b0_lead b0_walk b0_ends b0_manX b0_manY b0_dogX b0_dogY b0_row b0_round b0_farOne b0_leads b0_drags b0_from b0_near g0_thrown g0_hasImage g0_remembered g0_taped g0_point g0_end g0_begin g0_deep g0_faultAt g0_steps g0_men g0_dogs f1)) [0, 1] (by decide) rfl
      generalize H1 = H at hP hS ⊢
      rw [hQ]
      exact W.iret (v := r8) hx hb hr (fun t ht hW => ⟨⟨r8, (), rfl, hw, by rw [ht]; exact hP, va_K.moved hW.alike hK, hD⟩, hS.F ht⟩) hS.2.2 dX11_factOf_86
    · have hw := hw.2.2.2.2.2.2.1 hq
      refine lv_tableIn (tgt := 87) (off := 86) hx hb dX11_factOf_1 (by rw [hq]; decide) (by rw [hq]; decide) (by rw [hq]; rfl) (by decide) ?_
      refine lv_aload_n hx hb dX11_factOf_87 rfl (lv_at hl 0 rfl) ?_
      refine lv_iload hx hb dX11_factOf_88 (lv_at hl 5 rfl) ?_
      refine lv_iload hx hb dX11_factOf_90 (lv_at hl 6 rfl) ?_
      have hPc := hP.sub (ws' := (ceX11_yOf cyI cyB cyJ cyZ a0 a1 b0_image b0_before b0_taken b0_tape b0_five b0_value b0_far b0_lead b0_walk b0_ends b0_manX b0_manY b0_dogX b0_dogY b0_row b0_round b0_farOne b0_leads b0_drags b0_from b0_near g0_thrown g0_hasImage g0_remembered g0_taped g0_point g0_end g0_begin g0_deep g0_faultAt g0_steps g0_men g0_dogs f1)) [0, 1] rfl
      have hDc := hD.sub (ws' := (ceX11_yOf cyI cyB cyJ cyZ a0 a1 b0_image b0_before b0_taken b0_tape b0_five b0_value b0_far b0_lead b0_walk b0_ends b0_manX b0_manY b0_dogX b0_dogY b0_row b0_round b0_farOne b0_leads b0_drags b0_from b0_near g0_thrown g0_hasImage g0_remembered g0_taped g0_point g0_end g0_begin g0_deep g0_faultAt g0_steps g0_men g0_dogs f1)) [0, 1] (by decide) rfl
      have hFc := va_free (wc := (ceX11_yOf cyI cyB cyJ cyZ a0 a1 b0_image b0_before b0_taken b0_tape b0_five b0_value b0_far b0_lead b0_walk b0_ends b0_manX b0_manY b0_dogX b0_dogY b0_row b0_round b0_farOne b0_leads b0_drags b0_from b0_near g0_thrown g0_hasImage g0_remembered g0_taped g0_point g0_end g0_begin g0_deep g0_faultAt g0_steps g0_men g0_dogs f1)) hD hS hA [0, 1] rfl
      refine va_calli (va_runV (As := [.int p4, .int p5]) (rest := []) ⟨hx, hb, hml, hown, hts⟩ (ctX11_yOf l dC dI cyI cyB cyJ cyZ _ a0 a1 b0_image b0_before b0_taken b0_tape b0_five b0_value b0_far b0_lead b0_walk b0_ends b0_manX b0_manY b0_dogX b0_dogY b0_row b0_round b0_farOne b0_leads b0_drags b0_from b0_near g0_thrown g0_hasImage g0_remembered g0_taped g0_point g0_end g0_begin g0_deep g0_faultAt g0_steps g0_men g0_dogs f1 p4 p5 _ hw) (cwV 2 hts gX11_factOf_X11_yOf rfl rfl rfl (by decide +kernel) ⟨Nat.le_of_ble_eq_true rfl, Nat.le_of_ble_eq_true rfl⟩) ⟨wPre_blind, va_recv hK hPc (ci := 11) (q0 := 0) rfl rfl, fun U hU hW => wPre_of hPc hK hDc hN hU hW⟩ rfl rfl hl.1 rfl (lv_room (Nat.le_of_ble_eq_true rfl)) dX11_factOf_92 ⟨(Nat.zero_le _), (Nat.zero_le _)⟩) hS (fun q _ h => hFc q h) hFc (fun r10 u9 t H1 locs ht hvm hw hB hz1 hk1 hS => ?_)
      obtain ⟨hP1, hK1, hD1⟩ := hB
      rw [ht] at hP1
      obtain ⟨hP, hD⟩ := va_join (wr := pickW (ceX11_factOf cyI cyB cyJ cyZ a0 a1 b0_image b0_before b0_taken b0_tape b0_five b0_value b0_far b0_lead b0_walk b0_ends b0_manX b0_manY b0_dogX b0_dogY b0_row b0_round b0_farOne b0_leads b0_drags b0_from b0_near g0_thrown g0_hasImage g0_remembered g0_taped g0_point g0_end g0_begin g0_deep g0_faultAt g0_steps g0_men g0_dogs f1) []) (w1 := (ceX11_yOf cyI cyB cyJ cyZ a0 a1 b0_image b0_before b0_taken b0_tape b0_five b0_value b0_far b0_lead b0_walk b0_ends b0_manX b0_manY b0_dogX b0_dogY b0_row b0_round b0_farOne b0_leads b0_drags b0_from b0_near g0_thrown g0_hasImage g0_remembered g0_taped g0_point g0_end g0_begin g0_deep g0_faultAt g0_steps g0_men g0_dogs f1)) hP hD [0, 1] [] rfl rfl (by decide) (by decide) hk1 hFc hP1 hD1
      have hP := hP.sub (ws' := (ceX11_factOf cyI cyB cyJ cyZ a0 a1 b0_image b0_before b0_taken b0_tape b0_five b0_value b0_far b0_lead b0_walk b0_ends b0_manX b0_manY b0_dogX b0_dogY b0_row b0_round b0_farOne b0_leads b0_drags b0_from b0_near g0_thrown g0_hasImage g0_remembered g0_taped g0_point g0_end g0_begin g0_deep g0_faultAt g0_steps g0_men g0_dogs f1)) [0, 1] rfl
      have hD := hD.sub (ws' := (ceX11_factOf cyI cyB cyJ cyZ a0 a1 b0_image b0_before b0_taken b0_tape b0_five b0_value b0_far b0_lead b0_walk b0_ends b0_manX b0_manY b0_dogX b0_dogY b0_row b0_round b0_farOne b0_leads b0_drags b0_from b0_near g0_thrown g0_hasImage g0_remembered g0_taped g0_point g0_end g0_begin g0_deep g0_faultAt g0_steps g0_men g0_dogs f1)) [0, 1] (by decide) rfl
      generalize H1 = H at hP hS ⊢
      rw [hQ]
      exact W.iret (v := r10) hx hb hr (fun t ht hW => ⟨⟨r10, (), rfl, hw, by rw [ht]; exact hP, va_K.moved hW.alike hK, hD⟩, hS.F ht⟩) hS.2.2 dX11_factOf_95
  · have hw := hw.2.2.2.2.2.2.2 hq0
    refine lv_tableOut (tgt := 96) hx hb dX11_factOf_1 (by simp only [not_or, ← Int32.toInt_inj] at hq0; simp at hq0; omega) (by decide) ?_
    refine lv_iload_n hx hb dX11_factOf_96 rfl (lv_at hl 2 rfl) ?_
    rw [hQ]
    exact W.iret (v := p1) hx hb hr (fun t ht hW => ⟨⟨p1, (), rfl, hw, by rw [ht]; exact hP, va_K.moved hW.alike hK, hD⟩, hS.F ht⟩) hS.2.2 dX11_factOf_97
/-! LeadParkModel.holdsLine (IIIII)Z -/
abbrev ceX11_holdsLine (cyI cyB cyJ cyZ : ClassId) (a0 a1 a2 b0_image b0_before b0_taken b0_tape b0_five b0_far b0_lead b0_walk b0_ends b0_manX b0_manY b0_dogX b0_dogY b0_row b0_round b0_farOne b0_leads b0_drags b0_from b0_near : Nat) (g0_thrown : Int32) (g0_hasImage : Int32) (g0_remembered : Int32) (g0_taped : Int32) (g0_point : Int32) (g0_end : Int32) (g0_begin : Int32) (g0_deep : Int32) (g0_faultAt : Int32) (g0_steps : Int32) (g0_men : Int32) (g0_dogs : Int32) (f1 : Nat → Int32) (f2 : Nat → Int32) : va_W := [(a0, .inr (11, [.int g0_thrown, .ref a1, .ref b0_image, .ref b0_before, .int g0_hasImage, .ref b0_taken, .int g0_remembered, .ref b0_tape, .int g0_taped, .int g0_point, .int g0_end, .int g0_begin, .int g0_deep, .int g0_faultAt, .ref b0_five, .int g0_steps, .ref a2, .ref b0_far, .int g0_men, .int g0_dogs, .ref b0_lead, .ref b0_walk, .ref b0_ends, .ref b0_manX, .ref b0_manY, .ref b0_dogX, .ref b0_dogY, .ref b0_row, .ref b0_round, .ref b0_farOne, .ref b0_leads, .ref b0_drags, .ref b0_from, .ref b0_near])), (a1, .inl (cyI, 2508, .inl f1)), (a2, .inl (cyI, 400, .inl f2))]

theorem inX11_holdsLine_X11 : ∀ w ∈ wsX110, w ∈ wsX11_holdsLine := fun _ h => List.mem_cons_of_mem _ (List.mem_append_right _ h)
abbrev rmX11_holdsLine : Room := { frames := 3, cells := 0, slots := 0, locals := 73 }
set_option maxRecDepth 100000 in
set_option maxHeartbeats 4000000 in
theorem bX11_holdsLine_267 {p : Program} {l : Launch} {e : Env} {s : State} {m : MethodId} {args : Array Value} {below : List Frame} {meth : Method} {c : Code} {dC : Nat → ClassId} {dI : Nat → Nat → Nat} {cyI cyB cyJ cyZ : ClassId} {A : Nat → Prop} {a0 a1 a2 b0_image b0_before b0_taken b0_tape b0_five b0_far b0_lead b0_walk b0_ends b0_manX b0_manY b0_dogX b0_dogY b0_row b0_round b0_farOne b0_leads b0_drags b0_from b0_near : Nat} {g0_thrown : Int32} {g0_hasImage : Int32} {g0_remembered : Int32} {g0_taped : Int32} {g0_point : Int32} {g0_end : Int32} {g0_begin : Int32} {g0_deep : Int32} {g0_faultAt : Int32} {g0_steps : Int32} {g0_men : Int32} {g0_dogs : Int32} (C0 : cxM p s m meth c args wsX11_holdsLine RX11 cX11_holdsLine 13 (some .boolean)) (hK : va_K (dC, dI) vwCl (tyA cyI cyB cyJ cyZ) s) (hN : nwA s) (hA : ∀ q : Nat, s.heap.size ≤ q → A q) {post : Int32 → ((Nat → Int32)) → Prop} {f1 : Nat → Int32} {k21 : (Nat → Int32) → Int32 → Int32 → Int32 → Int32 → Int32 → Int32 → Int32 → Prop} {Q : State → Prop} (hQ : Q = MQ below (va_Qi post (fun u : (Nat → Int32) => wAt dC dI cyI cyB cyJ cyZ A (ceX11_holdsLine cyI cyB cyJ cyZ a0 a1 a2 b0_image b0_before b0_taken b0_tape b0_five b0_far b0_lead b0_walk b0_ends b0_manX b0_manY b0_dogX b0_dogY b0_row b0_round b0_farOne b0_leads b0_drags b0_from b0_near g0_thrown g0_hasImage g0_remembered g0_taped g0_point g0_end g0_begin g0_deep g0_faultAt g0_steps g0_men g0_dogs f1 u)) A) args s 0 0 A) (hk21 : ∀ (f2 : Nat → Int32) (x2 : Int32) (x3 : Int32) (x4 : Int32) (x5 : Int32) (x6 : Int32) (x7 : Int32) (x8 : Int32), k21 f2 x2 x3 x4 x5 x6 x7 x8 → AtW p l e rmX11_holdsLine s m args below meth c dC dI A Q 13 0 0 (ceX11_holdsLine cyI cyB cyJ cyZ a0 a1 a2 b0_image b0_before b0_taken b0_tape b0_five b0_far b0_lead b0_walk b0_ends b0_manX b0_manY b0_dogX b0_dogY b0_row b0_round b0_farOne b0_leads b0_drags b0_from b0_near g0_thrown g0_hasImage g0_remembered g0_taped g0_point g0_end g0_begin g0_deep g0_faultAt g0_steps g0_men g0_dogs f1 f2) [(0, .ref a0), (2, .int x2), (3, .int x3), (4, .int x4), (5, .int x5), (6, .int x6), (7, .int x7), (8, .int x8)] 21 []) : ∀ (f2 : Nat → Int32) (x2 : Int32) (x3 : Int32) (x4 : Int32) (x5 : Int32) (x6 : Int32) (x7 : Int32) (x8 : Int32), wpX11_holdsLine_267 k21 post f1 f2 x2 x3 x4 x5 x6 x7 x8 → AtW p l e rmX11_holdsLine s m args below meth c dC dI A Q 13 0 0 (ceX11_holdsLine cyI cyB cyJ cyZ a0 a1 a2 b0_image b0_before b0_taken b0_tape b0_five b0_far b0_lead b0_walk b0_ends b0_manX b0_manY b0_dogX b0_dogY b0_row b0_round b0_farOne b0_leads b0_drags b0_from b0_near g0_thrown g0_hasImage g0_remembered g0_taped g0_point g0_end g0_begin g0_deep g0_faultAt g0_steps g0_men g0_dogs f1 f2) [(0, .ref a0), (2, .int x2), (3, .int x3), (4, .int x4), (5, .int x5), (6, .int x6), (7, .int x7), (8, .int x8)] 267 [] := by
  intro f2 x2 x3 x4 x5 x6 x7 x8 hw H locs hP hD hS ls hl
  have C1 := C0
  obtain ⟨hx, hb, hr, hml, hown, hts, hlocks⟩ := C1
  obtain ⟨v1, ev1⟩ : ∃ y : Int32, y = x8 + 1 := ⟨_, rfl⟩
  have hw := hw v1 ev1
  refine lv_iinc (v := v1) (lv' := [(8, .int v1), (0, .ref a0), (2, .int x2), (3, .int x3), (4, .int x4), (5, .int x5), (6, .int x6), (7, .int x7)]) hx hb dX11_holdsLine_267 hl (k := 7) rfl (by rw [ev1]; rfl) (by decide) rfl (fun ls hl => ?_)
  refine lv_goto (tgt := 21) hx hb dX11_holdsLine_270 (by decide) ?_
  exact hk21 f2 x2 x3 x4 x5 x6 x7 v1 hw H locs hP hD hS ls (lv_sub hl [1, 2, 3, 4, 5, 6, 7, 0] rfl)
set_option maxRecDepth 100000 in
set_option maxHeartbeats 4000000 in
theorem bX11_holdsLine_266 {p : Program} {l : Launch} {e : Env} {s : State} {m : MethodId} {args : Array Value} {below : List Frame} {meth : Method} {c : Code} {dC : Nat → ClassId} {dI : Nat → Nat → Nat} {cyI cyB cyJ cyZ : ClassId} {A : Nat → Prop} {a0 a1 a2 b0_image b0_before b0_taken b0_tape b0_five b0_far b0_lead b0_walk b0_ends b0_manX b0_manY b0_dogX b0_dogY b0_row b0_round b0_farOne b0_leads b0_drags b0_from b0_near : Nat} {g0_thrown : Int32} {g0_hasImage : Int32} {g0_remembered : Int32} {g0_taped : Int32} {g0_point : Int32} {g0_end : Int32} {g0_begin : Int32} {g0_deep : Int32} {g0_faultAt : Int32} {g0_steps : Int32} {g0_men : Int32} {g0_dogs : Int32} (C0 : cxM p s m meth c args wsX11_holdsLine RX11 cX11_holdsLine 13 (some .boolean)) (hK : va_K (dC, dI) vwCl (tyA cyI cyB cyJ cyZ) s) (hN : nwA s) (hA : ∀ q : Nat, s.heap.size ≤ q → A q) {post : Int32 → ((Nat → Int32)) → Prop} {f1 : Nat → Int32} {k21 : (Nat → Int32) → Int32 → Int32 → Int32 → Int32 → Int32 → Int32 → Int32 → Prop} {Q : State → Prop} (hQ : Q = MQ below (va_Qi post (fun u : (Nat → Int32) => wAt dC dI cyI cyB cyJ cyZ A (ceX11_holdsLine cyI cyB cyJ cyZ a0 a1 a2 b0_image b0_before b0_taken b0_tape b0_five b0_far b0_lead b0_walk b0_ends b0_manX b0_manY b0_dogX b0_dogY b0_row b0_round b0_farOne b0_leads b0_drags b0_from b0_near g0_thrown g0_hasImage g0_remembered g0_taped g0_point g0_end g0_begin g0_deep g0_faultAt g0_steps g0_men g0_dogs f1 u)) A) args s 0 0 A) (hk21 : ∀ (f2 : Nat → Int32) (x2 : Int32) (x3 : Int32) (x4 : Int32) (x5 : Int32) (x6 : Int32) (x7 : Int32) (x8 : Int32), k21 f2 x2 x3 x4 x5 x6 x7 x8 → AtW p l e rmX11_holdsLine s m args below meth c dC dI A Q 13 0 0 (ceX11_holdsLine cyI cyB cyJ cyZ a0 a1 a2 b0_image b0_before b0_taken b0_tape b0_five b0_far b0_lead b0_walk b0_ends b0_manX b0_manY b0_dogX b0_dogY b0_row b0_round b0_farOne b0_leads b0_drags b0_from b0_near g0_thrown g0_hasImage g0_remembered g0_taped g0_point g0_end g0_begin g0_deep g0_faultAt g0_steps g0_men g0_dogs f1 f2) [(0, .ref a0), (2, .int x2), (3, .int x3), (4, .int x4), (5, .int x5), (6, .int x6), (7, .int x7), (8, .int x8)] 21 []) : ∀ (f2 : Nat → Int32) (x2 : Int32) (x3 : Int32) (x4 : Int32) (x5 : Int32) (x6 : Int32) (x7 : Int32) (x8 : Int32) (s1 : Int32) (s2 : Int32), wpX11_holdsLine_266 k21 post f1 f2 x2 x3 x4 x5 x6 x7 x8 s1 s2 → AtW p l e rmX11_holdsLine s m args below meth c dC dI A Q 13 0 0 (ceX11_holdsLine cyI cyB cyJ cyZ a0 a1 a2 b0_image b0_before b0_taken b0_tape b0_five b0_far b0_lead b0_walk b0_ends b0_manX b0_manY b0_dogX b0_dogY b0_row b0_round b0_farOne b0_leads b0_drags b0_from b0_near g0_thrown g0_hasImage g0_remembered g0_taped g0_point g0_end g0_begin g0_deep g0_faultAt g0_steps g0_men g0_dogs f1 f2) [(0, .ref a0), (2, .int x2), (3, .int x3), (4, .int x4), (5, .int x5), (6, .int x6), (7, .int x7), (8, .int x8)] 266 [.int s2, .int s1, .ref a2] := by
  intro f2 x2 x3 x4 x5 x6 x7 x8 s1 s2 hw H locs hP hD hS ls hl
  have C1 := C0
  obtain ⟨hx, hb, hr, hml, hown, hts, hlocks⟩ := C1
  obtain ⟨hi, hw⟩ := hw
  refine va_iast hx hb hK hP hD hS 2 0 rfl rfl hi dX11_holdsLine_266 (fun H locs hP hD hS => ?_)
  have hP : va_P (dC, dI) vwCl (ceX11_holdsLine cyI cyB cyJ cyZ a0 a1 a2 b0_image b0_before b0_taken b0_tape b0_five b0_far b0_lead b0_walk b0_ends b0_manX b0_manY b0_dogX b0_dogY b0_row b0_round b0_farOne b0_leads b0_drags b0_from b0_near g0_thrown g0_hasImage g0_remembered g0_taped g0_point g0_end g0_begin g0_deep g0_faultAt g0_steps g0_men g0_dogs f1 (upd f2 s1.toNatClampNeg s2)) H := hP
  have hD : va_D A (ceX11_holdsLine cyI cyB cyJ cyZ a0 a1 a2 b0_image b0_before b0_taken b0_tape b0_five b0_far b0_lead b0_walk b0_ends b0_manX b0_manY b0_dogX b0_dogY b0_row b0_round b0_farOne b0_leads b0_drags b0_from b0_near g0_thrown g0_hasImage g0_remembered g0_taped g0_point g0_end g0_begin g0_deep g0_faultAt g0_steps g0_men g0_dogs f1 (upd f2 s1.toNatClampNeg s2)) := hD
  exact bX11_holdsLine_267 C0 hK hN hA hQ hk21 (upd f2 s1.toNatClampNeg s2) x2 x3 x4 x5 x6 x7 x8 hw _ _ hP hD hS ls (lv_sub hl [0, 1, 2, 3, 4, 5, 6, 7] rfl)
set_option maxRecDepth 100000 in
set_option maxHeartbeats 4000000 in
theorem bX11_holdsLine_231 {p : Program} {l : Launch} {e : Env} {s : State} {m : MethodId} {args : Array Value} {below : List Frame} {meth : Method} {c : Code} {dC : Nat → ClassId} {dI : Nat → Nat → Nat} {cyI cyB cyJ cyZ : ClassId} {A : Nat → Prop} {a0 a1 a2 b0_image b0_before b0_taken b0_tape b0_five b0_far b0_lead b0_walk b0_ends b0_manX b0_manY b0_dogX b0_dogY b0_row b0_round b0_farOne b0_leads b0_drags b0_from b0_near : Nat} {g0_thrown : Int32} {g0_hasImage : Int32} {g0_remembered : Int32} {g0_taped : Int32} {g0_point : Int32} {g0_end : Int32} {g0_begin : Int32} {g0_deep : Int32} {g0_faultAt : Int32} {g0_steps : Int32} {g0_men : Int32} {g0_dogs : Int32} (C0 : cxM p s m meth c args wsX11_holdsLine RX11 cX11_holdsLine 13 (some .boolean)) (hK : va_K (dC, dI) vwCl (tyA cyI cyB cyJ cyZ) s) (hN : nwA s) (hA : ∀ q : Nat, s.heap.size ≤ q → A q) {post : Int32 → ((Nat → Int32)) → Prop} {f1 : Nat → Int32} {k21 : (Nat → Int32) → Int32 → Int32 → Int32 → Int32 → Int32 → Int32 → Int32 → Prop} {Q : State → Prop} (hQ : Q = MQ below (va_Qi post (fun u : (Nat → Int32) => wAt dC dI cyI cyB cyJ cyZ A (ceX11_holdsLine cyI cyB cyJ cyZ a0 a1 a2 b0_image b0_before b0_taken b0_tape b0_five b0_far b0_lead b0_walk b0_ends b0_manX b0_manY b0_dogX b0_dogY b0_row b0_round b0_farOne b0_leads b0_drags b0_from b0_near g0_thrown g0_hasImage g0_remembered g0_taped g0_point g0_end g0_begin g0_deep g0_faultAt g0_steps g0_men g0_dogs f1 u)) A) args s 0 0 A) (hk21 : ∀ (f2 : Nat → Int32) (x2 : Int32) (x3 : Int32) (x4 : Int32) (x5 : Int32) (x6 : Int32) (x7 : Int32) (x8 : Int32), k21 f2 x2 x3 x4 x5 x6 x7 x8 → AtW p l e rmX11_holdsLine s m args below meth c dC dI A Q 13 0 0 (ceX11_holdsLine cyI cyB cyJ cyZ a0 a1 a2 b0_image b0_before b0_taken b0_tape b0_five b0_far b0_lead b0_walk b0_ends b0_manX b0_manY b0_dogX b0_dogY b0_row b0_round b0_farOne b0_leads b0_drags b0_from b0_near g0_thrown g0_hasImage g0_remembered g0_taped g0_point g0_end g0_begin g0_deep g0_faultAt g0_steps g0_men g0_dogs f1 f2) [(0, .ref a0), (2, .int x2), (3, .int x3), (4, .int x4), (5, .int x5), (6, .int x6), (7, .int x7), (8, .int x8)] 21 []) : ∀ (f2 : Nat → Int32) (x2 : Int32) (x3 : Int32) (x4 : Int32) (x5 : Int32) (x6 : Int32) (x7 : Int32) (x8 : Int32) (x9 : Int32) (x10 : Int32) (x11 : Int32) (s0 : Int32), wpX11_holdsLine_231 k21 post f1 f2 x2 x3 x4 x5 x6 x7 x8 x9 x10 x11 s0 → AtW p l e rmX11_holdsLine s m args below meth c dC dI A Q 13 0 0 (ceX11_holdsLine cyI cyB cyJ cyZ a0 a1 a2 b0_image b0_before b0_taken b0_tape b0_five b0_far b0_lead b0_walk b0_ends b0_manX b0_manY b0_dogX b0_dogY b0_row b0_round b0_farOne b0_leads b0_drags b0_from b0_near g0_thrown g0_hasImage g0_remembered g0_taped g0_point g0_end g0_begin g0_deep g0_faultAt g0_steps g0_men g0_dogs f1 f2) [(0, .ref a0), (2, .int x2), (3, .int x3), (4, .int x4), (5, .int x5), (6, .int x6), (7, .int x7), (8, .int x8), (9, .int x9), (10, .int x10), (11, .int x11)] 231 [.int s0] := by
  intro f2 x2 x3 x4 x5 x6 x7 x8 x9 x10 x11 s0 hw H locs hP hD hS ls hl
  have C1 := C0
  obtain ⟨hx, hb, hr, hml, hown, hts, hlocks⟩ := C1
  refine lv_istore (lv' := [(12, .int s0), (0, .ref a0), (2, .int x2), (3, .int x3), (4, .int x4), (5, .int x5), (6, .int x6), (7, .int x7), (8, .int x8), (9, .int x9), (10, .int x10), (11, .int x11)]) hx hb dX11_holdsLine_231 hl (by decide) rfl (fun ls hl => ?_)
  refine lv_aload_n hx hb dX11_holdsLine_233 rfl (lv_at hl 1 rfl) ?_
  refine va_get (D := (dC, dI)) (ci := 11) (v := .ref a2) (C := RX11) (T := TX11) (N := 34) hx hb hts inX11_holdsLine_X11 hown hK hP 0 rfl rfl 16 (by decide) (hts (.fieldLink RX11 36 "LeadParkModel" "value" "[I") (List.mem_of_getElem? (i := 2) rfl)) (fun _ h9 => h9) rfl dX11_holdsLine_234 ?_
  refine lv_iload hx hb dX11_holdsLine_237 (lv_at hl 6 rfl) ?_
  refine lv_iconst (v := 1) hx hb dX11_holdsLine_239 (by decide) ?_
  refine lv_isub hx hb dX11_holdsLine_240 ?_
  refine lv_iload hx hb dX11_holdsLine_241 (lv_at hl 9 rfl) ?_
  refine lv_bipush (v := 8) hx hb dX11_holdsLine_243 (by decide) ?_
  refine lv_icmp_ne (tgt := 256) hx hb dX11_holdsLine_245 (by decide) (fun hc => ?_) (fun hc => ?_)
  · have hw := hw.1 hc
    refine lv_iload hx hb dX11_holdsLine_256 (lv_at hl 0 rfl) ?_
    refine lv_if_eq (tgt := 265) hx hb dX11_holdsLine_258 (by decide) (fun hc => ?_) (fun hc => ?_)
    · have hw := hw.1 hc
      refine lv_iconst (v := 0) hx hb dX11_holdsLine_265 (by decide) ?_
      exact bX11_holdsLine_266 C0 hK hN hA hQ hk21 f2 x2 x3 x4 x5 x6 x7 x8 (x6 - 1) 0 hw _ _ hP hD hS ls (lv_sub hl [1, 2, 3, 4, 5, 6, 7, 8] rfl)
    · have hw := hw.2 hc
      refine lv_iconst (v := 1) hx hb dX11_holdsLine_261 (by decide) ?_
      refine lv_goto (tgt := 266) hx hb dX11_holdsLine_262 (by decide) ?_
      exact bX11_holdsLine_266 C0 hK hN hA hQ hk21 f2 x2 x3 x4 x5 x6 x7 x8 (x6 - 1) 1 hw _ _ hP hD hS ls (lv_sub hl [1, 2, 3, 4, 5, 6, 7, 8] rfl)
  · have hw := hw.2 hc
    refine lv_iload hx hb dX11_holdsLine_248 (lv_at hl 10 rfl) ?_
    refine lv_iload hx hb dX11_holdsLine_250 (lv_at hl 11 rfl) ?_
    refine lv_iadd hx hb dX11_holdsLine_252 ?_
    refine lv_goto (tgt := 266) hx hb dX11_holdsLine_253 (by decide) ?_
    exact bX11_holdsLine_266 C0 hK hN hA hQ hk21 f2 x2 x3 x4 x5 x6 x7 x8 (x6 - 1) (x10 + x11) hw _ _ hP hD hS ls (lv_sub hl [1, 2, 3, 4, 5, 6, 7, 8] rfl)
set_option maxRecDepth 100000 in
set_option maxHeartbeats 4000000 in
theorem bX11_holdsLine_21 {p : Program} {l : Launch} {e : Env} {s : State} {m : MethodId} {args : Array Value} {below : List Frame} {meth : Method} {c : Code} {dC : Nat → ClassId} {dI : Nat → Nat → Nat} {cyI cyB cyJ cyZ : ClassId} {A : Nat → Prop} {a0 a1 a2 b0_image b0_before b0_taken b0_tape b0_five b0_far b0_lead b0_walk b0_ends b0_manX b0_manY b0_dogX b0_dogY b0_row b0_round b0_farOne b0_leads b0_drags b0_from b0_near : Nat} {g0_thrown : Int32} {g0_hasImage : Int32} {g0_remembered : Int32} {g0_taped : Int32} {g0_point : Int32} {g0_end : Int32} {g0_begin : Int32} {g0_deep : Int32} {g0_faultAt : Int32} {g0_steps : Int32} {g0_men : Int32} {g0_dogs : Int32} (C0 : cxM p s m meth c args wsX11_holdsLine RX11 cX11_holdsLine 13 (some .boolean)) (hK : va_K (dC, dI) vwCl (tyA cyI cyB cyJ cyZ) s) (hN : nwA s) (hA : ∀ q : Nat, s.heap.size ≤ q → A q) {post : Int32 → ((Nat → Int32)) → Prop} {f1 : Nat → Int32} {Q : State → Prop} (hQ : Q = MQ below (va_Qi post (fun u : (Nat → Int32) => wAt dC dI cyI cyB cyJ cyZ A (ceX11_holdsLine cyI cyB cyJ cyZ a0 a1 a2 b0_image b0_before b0_taken b0_tape b0_five b0_far b0_lead b0_walk b0_ends b0_manX b0_manY b0_dogX b0_dogY b0_row b0_round b0_farOne b0_leads b0_drags b0_from b0_near g0_thrown g0_hasImage g0_remembered g0_taped g0_point g0_end g0_begin g0_deep g0_faultAt g0_steps g0_men g0_dogs f1 u)) A) args s 0 0 A) : ∀ (n : Nat) (f2 : Nat → Int32) (x2 : Int32) (x3 : Int32) (x4 : Int32) (x5 : Int32) (x6 : Int32) (x7 : Int32) (x8 : Int32), wpX11_holdsLine_21 post f1 n f2 x2 x3 x4 x5 x6 x7 x8 → AtW p l e rmX11_holdsLine s m args below meth c dC dI A Q 13 0 0 (ceX11_holdsLine cyI cyB cyJ cyZ a0 a1 a2 b0_image b0_before b0_taken b0_tape b0_five b0_far b0_lead b0_walk b0_ends b0_manX b0_manY b0_dogX b0_dogY b0_row b0_round b0_farOne b0_leads b0_drags b0_from b0_near g0_thrown g0_hasImage g0_remembered g0_taped g0_point g0_end g0_begin g0_deep g0_faultAt g0_steps g0_men g0_dogs f1 f2) [(0, .ref a0), (2, .int x2), (3, .int x3), (4, .int x4), (5, .int x5), (6, .int x6), (7, .int x7), (8, .int x8)] 21 [] := by
  intro n
  induction n with
  | zero => intro f2 x2 x3 x4 x5 x6 x7 x8 hw; exact False.elim hw
  | succ n ih =>
    intro f2 x2 x3 x4 x5 x6 x7 x8 hw H locs hP hD hS ls hl
    have C1 := C0
    obtain ⟨hx, hb, hr, hml, hown, hts, hlocks⟩ := C1
    refine lv_iload hx hb dX11_holdsLine_21 (lv_at hl 7 rfl) ?_
    refine lv_aload_n hx hb dX11_holdsLine_23 rfl (lv_at hl 0 rfl) ?_
    refine va_get (D := (dC, dI)) (ci := 11) (v := .ref a1) (C := RX11) (T := TX11) (N := 34) hx hb hts inX11_holdsLine_X11 hown hK hP 0 rfl rfl 1 (by decide) (hts (.fieldLink RX11 13 "LeadParkModel" "world" "[I") (List.mem_of_getElem? (i := 1) rfl)) (fun _ h9 => h9) rfl dX11_holdsLine_24 ?_
    refine lv_iload hx hb dX11_holdsLine_27 (lv_at hl 6 rfl) ?_
    refine lv_iconst (v := 1) hx hb dX11_holdsLine_29 (by decide) ?_
    refine lv_iadd hx hb dX11_holdsLine_30 ?_
    obtain ⟨hi, hw⟩ := hw
    refine va_iald hx hb hK hP 1 0 rfl rfl hi dX11_holdsLine_31 ?_
    refine lv_icmp_ge (tgt := 273) hx hb dX11_holdsLine_32 (by decide) (fun hc => ?_) (fun hc => ?_)
    · have hw := hw.1 hc
      refine lv_iload hx hb dX11_holdsLine_273 (lv_at hl 5 rfl) ?_
      refine lv_if_eq (tgt := 288) hx hb dX11_holdsLine_275 (by decide) (fun hc => ?_) (fun hc => ?_)
      · have hw := hw.1 hc
        refine lv_iconst (v := 1) hx hb dX11_holdsLine_288 (by decide) ?_
        refine lv_goto (tgt := 293) hx hb dX11_holdsLine_289 (by decide) ?_
        rw [hQ]
        exact W.zret (v := 1) (ty := .boolean) hx hb hr rfl (fun t ht hW => ⟨⟨1, (f2), rfl, hw, by rw [ht]; exact hP, va_K.moved hW.alike hK, hD⟩, hS.F ht⟩) hS.2.2 dX11_holdsLine_293
      · have hw := hw.2 hc
        refine lv_aload_n hx hb dX11_holdsLine_278 rfl (lv_at hl 0 rfl) ?_
        refine va_get (D := (dC, dI)) (ci := 11) (v := .ref a2) (C := RX11) (T := TX11) (N := 34) hx hb hts inX11_holdsLine_X11 hown hK hP 0 rfl rfl 16 (by decide) (hts (.fieldLink RX11 36 "LeadParkModel" "value" "[I") (List.mem_of_getElem? (i := 2) rfl)) (fun _ h9 => h9) rfl dX11_holdsLine_279 ?_
        refine lv_iconst (v := 0) hx hb dX11_holdsLine_282 (by decide) ?_
        obtain ⟨hi, hw⟩ := hw
        refine va_iald hx hb hK hP 2 0 rfl rfl hi dX11_holdsLine_283 ?_
        refine lv_iconst (v := 1) hx hb dX11_holdsLine_284 (by decide) ?_
        refine lv_icmp_ne (tgt := 292) hx hb dX11_holdsLine_285 (by decide) (fun hc => ?_) (fun hc => ?_)
        · have hw := hw.1 hc
          refine lv_iconst (v := 0) hx hb dX11_holdsLine_292 (by decide) ?_
          rw [hQ]
          exact W.zret (v := 0) (ty := .boolean) hx hb hr rfl (fun t ht hW => ⟨⟨0, (f2), rfl, hw, by rw [ht]; exact hP, va_K.moved hW.alike hK, hD⟩, hS.F ht⟩) hS.2.2 dX11_holdsLine_293
        · have hw := hw.2 hc
          refine lv_iconst (v := 1) hx hb dX11_holdsLine_288 (by decide) ?_
          refine lv_goto (tgt := 293) hx hb dX11_holdsLine_289 (by decide) ?_
          rw [hQ]
          exact W.zret (v := 1) (ty := .boolean) hx hb hr rfl (fun t ht hW => ⟨⟨1, (f2), rfl, hw, by rw [ht]; exact hP, va_K.moved hW.alike hK, hD⟩, hS.F ht⟩) hS.2.2 dX11_holdsLine_293
    · have hw := hw.2 hc
      refine lv_aload_n hx hb dX11_holdsLine_35 rfl (lv_at hl 0 rfl) ?_
      refine va_get (D := (dC, dI)) (ci := 11) (v := .ref a1) (C := RX11) (T := TX11) (N := 34) hx hb hts inX11_holdsLine_X11 hown hK hP 0 rfl rfl 1 (by decide) (hts (.fieldLink RX11 13 "LeadParkModel" "world" "[I") (List.mem_of_getElem? (i := 1) rfl)) (fun _ h9 => h9) rfl dX11_holdsLine_36 ?_
      refine lv_sipush (v := 883) hx hb dX11_holdsLine_39 (by decide) ?_
      refine lv_iconst (v := 2) hx hb dX11_holdsLine_42 (by decide) ?_
      refine lv_iload hx hb dX11_holdsLine_43 (lv_at hl 7 rfl) ?_
      refine lv_imul hx hb dX11_holdsLine_45 ?_
      refine lv_iadd hx hb dX11_holdsLine_46 ?_
      obtain ⟨hi, hw⟩ := hw
      refine va_iald hx hb hK hP 1 0 rfl rfl hi dX11_holdsLine_47 ?_
      refine lv_topi (fun v1 ev1 => ?_)
      have hw := hw v1 ev1
      refine lv_istore (lv' := [(9, .int v1), (0, .ref a0), (2, .int x2), (3, .int x3), (4, .int x4), (5, .int x5), (6, .int x6), (7, .int x7), (8, .int x8)]) hx hb dX11_holdsLine_48 hl (by decide) rfl (fun ls hl => ?_)
      refine lv_iload hx hb dX11_holdsLine_50 (lv_at hl 0 rfl) ?_
      refine lv_bipush (v := 7) hx hb dX11_holdsLine_52 (by decide) ?_
      refine lv_icmp_gt (tgt := 97) hx hb dX11_holdsLine_54 (by decide) (fun hc => ?_) (fun hc => ?_)
      · have hw := hw.1 hc
        refine lv_iload hx hb dX11_holdsLine_97 (lv_at hl 0 rfl) ?_
        refine lv_bipush (v := 11) hx hb dX11_holdsLine_99 (by decide) ?_
        refine lv_icmp_ne (tgt := 127) hx hb dX11_holdsLine_101 (by decide) (fun hc => ?_) (fun hc => ?_)
        · have hw := hw.1 hc
          obtain ⟨v2, ev2⟩ : ∃ y : Int32, y = x6 + (-1) := ⟨_, rfl⟩
          have hw := hw v2 ev2
          refine lv_iinc (v := v2) (lv' := [(6, .int v2), (9, .int v1), (0, .ref a0), (2, .int x2), (3, .int x3), (4, .int x4), (5, .int x5), (7, .int x7), (8, .int x8)]) hx hb dX11_holdsLine_127 hl (k := 6) rfl (by rw [ev2]; rfl) (by decide) rfl (fun ls hl => ?_)
          refine lv_aload_n hx hb dX11_holdsLine_130 rfl (lv_at hl 2 rfl) ?_
          refine va_get (D := (dC, dI)) (ci := 11) (v := .ref a2) (C := RX11) (T := TX11) (N := 34) hx hb hts inX11_holdsLine_X11 hown hK hP 0 rfl rfl 16 (by decide) (hts (.fieldLink RX11 36 "LeadParkModel" "value" "[I") (List.mem_of_getElem? (i := 2) rfl)) (fun _ h9 => h9) rfl dX11_holdsLine_131 ?_
          refine lv_iload hx hb dX11_holdsLine_134 (lv_at hl 0 rfl) ?_
          refine lv_iconst (v := 1) hx hb dX11_holdsLine_136 (by decide) ?_
          refine lv_isub hx hb dX11_holdsLine_137 ?_
          obtain ⟨hi, hw⟩ := hw
          refine va_iald hx hb hK hP 2 0 rfl rfl hi dX11_holdsLine_138 ?_
          refine lv_topi (fun v3 ev3 => ?_)
          have hw := hw v3 ev3
          refine lv_istore (lv' := [(10, .int v3), (6, .int v2), (9, .int v1), (0, .ref a0), (2, .int x2), (3, .int x3), (4, .int x4), (5, .int x5), (7, .int x7), (8, .int x8)]) hx hb dX11_holdsLine_139 hl (by decide) rfl (fun ls hl => ?_)
          refine lv_aload_n hx hb dX11_holdsLine_141 rfl (lv_at hl 3 rfl) ?_
          refine va_get (D := (dC, dI)) (ci := 11) (v := .ref a2) (C := RX11) (T := TX11) (N := 34) hx hb hts inX11_holdsLine_X11 hown hK hP 0 rfl rfl 16 (by decide) (hts (.fieldLink RX11 36 "LeadParkModel" "value" "[I") (List.mem_of_getElem? (i := 2) rfl)) (fun _ h9 => h9) rfl dX11_holdsLine_142 ?_
          refine lv_iload hx hb dX11_holdsLine_145 (lv_at hl 1 rfl) ?_
          obtain ⟨hi, hw⟩ := hw
          refine va_iald hx hb hK hP 2 0 rfl rfl hi dX11_holdsLine_147 ?_
          refine lv_topi (fun v4 ev4 => ?_)
          have hw := hw v4 ev4
          refine lv_istore (lv' := [(11, .int v4), (10, .int v3), (6, .int v2), (9, .int v1), (0, .ref a0), (2, .int x2), (3, .int x3), (4, .int x4), (5, .int x5), (7, .int x7), (8, .int x8)]) hx hb dX11_holdsLine_148 hl (by decide) rfl (fun ls hl => ?_)
          refine lv_iload hx hb dX11_holdsLine_150 (lv_at hl 3 rfl) ?_
          refine lv_bipush (v := 9) hx hb dX11_holdsLine_152 (by decide) ?_
          refine lv_icmp_ne (tgt := 172) hx hb dX11_holdsLine_154 (by decide) (fun hc => ?_) (fun hc => ?_)
          · have hw := hw.1 hc
            refine lv_iload hx hb dX11_holdsLine_172 (lv_at hl 3 rfl) ?_
            refine lv_bipush (v := 10) hx hb dX11_holdsLine_174 (by decide) ?_
            refine lv_icmp_ne (tgt := 194) hx hb dX11_holdsLine_176 (by decide) (fun hc => ?_) (fun hc => ?_)
            · have hw := hw.1 hc
              refine lv_iload hx hb dX11_holdsLine_194 (lv_at hl 3 rfl) ?_
              refine lv_bipush (v := 12) hx hb dX11_holdsLine_196 (by decide) ?_
              refine lv_icmp_ne (tgt := 218) hx hb dX11_holdsLine_198 (by decide) (fun hc => ?_) (fun hc => ?_)
              · have hw := hw.1 hc
                refine lv_iload hx hb dX11_holdsLine_218 (lv_at hl 1 rfl) ?_
                refine lv_iload hx hb dX11_holdsLine_220 (lv_at hl 0 rfl) ?_
                refine lv_iadd hx hb dX11_holdsLine_222 ?_
                refine lv_if_le (tgt := 230) hx hb dX11_holdsLine_223 (by decide) (fun hc => ?_) (fun hc => ?_)
                · have hw := hw.1 hc
                  refine lv_iconst (v := 0) hx hb dX11_holdsLine_230 (by decide) ?_
                  exact bX11_holdsLine_231 C0 hK hN hA hQ ih f2 x2 x3 x4 x5 v2 x7 x8 v1 v3 v4 0 hw _ _ hP hD hS ls (lv_sub hl [4, 5, 6, 7, 8, 2, 9, 10, 3, 1, 0] rfl)
                · have hw := hw.2 hc
                  refine lv_iconst (v := 1) hx hb dX11_holdsLine_226 (by decide) ?_
                  refine lv_goto (tgt := 231) hx hb dX11_holdsLine_227 (by decide) ?_
                  exact bX11_holdsLine_231 C0 hK hN hA hQ ih f2 x2 x3 x4 x5 v2 x7 x8 v1 v3 v4 1 hw _ _ hP hD hS ls (lv_sub hl [4, 5, 6, 7, 8, 2, 9, 10, 3, 1, 0] rfl)
              · have hw := hw.2 hc
                refine lv_iload hx hb dX11_holdsLine_201 (lv_at hl 1 rfl) ?_
                refine lv_iload hx hb dX11_holdsLine_203 (lv_at hl 0 rfl) ?_
                refine lv_iadd hx hb dX11_holdsLine_205 ?_
                refine lv_iconst (v := 2) hx hb dX11_holdsLine_206 (by decide) ?_
                refine lv_icmp_ne (tgt := 214) hx hb dX11_holdsLine_207 (by decide) (fun hc => ?_) (fun hc => ?_)
                · have hw := hw.1 hc
                  refine lv_iconst (v := 0) hx hb dX11_holdsLine_214 (by decide) ?_
                  refine lv_goto (tgt := 231) hx hb dX11_holdsLine_215 (by decide) ?_
                  exact bX11_holdsLine_231 C0 hK hN hA hQ ih f2 x2 x3 x4 x5 v2 x7 x8 v1 v3 v4 0 hw _ _ hP hD hS ls (lv_sub hl [4, 5, 6, 7, 8, 2, 9, 10, 3, 1, 0] rfl)
                · have hw := hw.2 hc
                  refine lv_iconst (v := 1) hx hb dX11_holdsLine_210 (by decide) ?_
                  refine lv_goto (tgt := 231) hx hb dX11_holdsLine_211 (by decide) ?_
                  exact bX11_holdsLine_231 C0 hK hN hA hQ ih f2 x2 x3 x4 x5 v2 x7 x8 v1 v3 v4 1 hw _ _ hP hD hS ls (lv_sub hl [4, 5, 6, 7, 8, 2, 9, 10, 3, 1, 0] rfl)
            · have hw := hw.2 hc
              refine lv_iload hx hb dX11_holdsLine_179 (lv_at hl 1 rfl) ?_
              refine lv_iload hx hb dX11_holdsLine_181 (lv_at hl 0 rfl) ?_
              refine lv_icmp_le (tgt := 190) hx hb dX11_holdsLine_183 (by decide) (fun hc => ?_) (fun hc => ?_)
              · have hw := hw.1 hc
                refine lv_iconst (v := 0) hx hb dX11_holdsLine_190 (by decide) ?_
                refine lv_goto (tgt := 231) hx hb dX11_holdsLine_191 (by decide) ?_
                exact bX11_holdsLine_231 C0 hK hN hA hQ ih f2 x2 x3 x4 x5 v2 x7 x8 v1 v3 v4 0 hw _ _ hP hD hS ls (lv_sub hl [4, 5, 6, 7, 8, 2, 9, 10, 3, 1, 0] rfl)
              · have hw := hw.2 hc
                refine lv_iconst (v := 1) hx hb dX11_holdsLine_186 (by decide) ?_
                refine lv_goto (tgt := 231) hx hb dX11_holdsLine_187 (by decide) ?_
                exact bX11_holdsLine_231 C0 hK hN hA hQ ih f2 x2 x3 x4 x5 v2 x7 x8 v1 v3 v4 1 hw _ _ hP hD hS ls (lv_sub hl [4, 5, 6, 7, 8, 2, 9, 10, 3, 1, 0] rfl)
          · have hw := hw.2 hc
            refine lv_iload hx hb dX11_holdsLine_157 (lv_at hl 1 rfl) ?_
            refine lv_iload hx hb dX11_holdsLine_159 (lv_at hl 0 rfl) ?_
            refine lv_icmp_ge (tgt := 168) hx hb dX11_holdsLine_161 (by decide) (fun hc => ?_) (fun hc => ?_)
            · have hw := hw.1 hc
              refine lv_iconst (v := 0) hx hb dX11_holdsLine_168 (by decide) ?_
              refine lv_goto (tgt := 231) hx hb dX11_holdsLine_169 (by decide) ?_
              exact bX11_holdsLine_231 C0 hK hN hA hQ ih f2 x2 x3 x4 x5 v2 x7 x8 v1 v3 v4 0 hw _ _ hP hD hS ls (lv_sub hl [4, 5, 6, 7, 8, 2, 9, 10, 3, 1, 0] rfl)
            · have hw := hw.2 hc
              refine lv_iconst (v := 1) hx hb dX11_holdsLine_164 (by decide) ?_
              refine lv_goto (tgt := 231) hx hb dX11_holdsLine_165 (by decide) ?_
              exact bX11_holdsLine_231 C0 hK hN hA hQ ih f2 x2 x3 x4 x5 v2 x7 x8 v1 v3 v4 1 hw _ _ hP hD hS ls (lv_sub hl [4, 5, 6, 7, 8, 2, 9, 10, 3, 1, 0] rfl)
        · have hw := hw.2 hc
          refine lv_aload_n hx hb dX11_holdsLine_104 rfl (lv_at hl 1 rfl) ?_
          refine va_get (D := (dC, dI)) (ci := 11) (v := .ref a2) (C := RX11) (T := TX11) (N := 34) hx hb hts inX11_holdsLine_X11 hown hK hP 0 rfl rfl 16 (by decide) (hts (.fieldLink RX11 36 "LeadParkModel" "value" "[I") (List.mem_of_getElem? (i := 2) rfl)) (fun _ h9 => h9) rfl dX11_holdsLine_105 ?_
          refine lv_iload hx hb dX11_holdsLine_108 (lv_at hl 6 rfl) ?_
          refine lv_iconst (v := 1) hx hb dX11_holdsLine_110 (by decide) ?_
          refine lv_isub hx hb dX11_holdsLine_111 ?_
          refine lv_iconst (v := 1) hx hb dX11_holdsLine_112 (by decide) ?_
          refine lv_aload_n hx hb dX11_holdsLine_113 rfl (lv_at hl 1 rfl) ?_
          refine va_get (D := (dC, dI)) (ci := 11) (v := .ref a2) (C := RX11) (T := TX11) (N := 34) hx hb hts inX11_holdsLine_X11 hown hK hP 0 rfl rfl 16 (by decide) (hts (.fieldLink RX11 36 "LeadParkModel" "value" "[I") (List.mem_of_getElem? (i := 2) rfl)) (fun _ h9 => h9) rfl dX11_holdsLine_114 ?_
          refine lv_iload hx hb dX11_holdsLine_117 (lv_at hl 6 rfl) ?_
          refine lv_iconst (v := 1) hx hb dX11_holdsLine_119 (by decide) ?_
          refine lv_isub hx hb dX11_holdsLine_120 ?_
          obtain ⟨hi, hw⟩ := hw
          refine va_iald hx hb hK hP 2 0 rfl rfl hi dX11_holdsLine_121 ?_
          refine lv_isub hx hb dX11_holdsLine_122 ?_
          obtain ⟨hi, hw⟩ := hw
          refine va_iast hx hb hK hP hD hS 2 0 rfl rfl hi dX11_holdsLine_123 (fun H locs hP hD hS => ?_)
          have hP : va_P (dC, dI) vwCl (ceX11_holdsLine cyI cyB cyJ cyZ a0 a1 a2 b0_image b0_before b0_taken b0_tape b0_five b0_far b0_lead b0_walk b0_ends b0_manX b0_manY b0_dogX b0_dogY b0_row b0_round b0_farOne b0_leads b0_drags b0_from b0_near g0_thrown g0_hasImage g0_remembered g0_taped g0_point g0_end g0_begin g0_deep g0_faultAt g0_steps g0_men g0_dogs f1 (upd f2 (x6 - 1).toNatClampNeg (1 - (f2 (x6 - 1).toNatClampNeg)))) H := hP
          have hD : va_D A (ceX11_holdsLine cyI cyB cyJ cyZ a0 a1 a2 b0_image b0_before b0_taken b0_tape b0_five b0_far b0_lead b0_walk b0_ends b0_manX b0_manY b0_dogX b0_dogY b0_row b0_round b0_farOne b0_leads b0_drags b0_from b0_near g0_thrown g0_hasImage g0_remembered g0_taped g0_point g0_end g0_begin g0_deep g0_faultAt g0_steps g0_men g0_dogs f1 (upd f2 (x6 - 1).toNatClampNeg (1 - (f2 (x6 - 1).toNatClampNeg)))) := hD
          refine lv_goto (tgt := 267) hx hb dX11_holdsLine_124 (by decide) ?_
          exact bX11_holdsLine_267 C0 hK hN hA hQ ih (upd f2 (x6 - 1).toNatClampNeg (1 - (f2 (x6 - 1).toNatClampNeg))) x2 x3 x4 x5 x6 x7 x8 hw _ _ hP hD hS ls (lv_sub hl [1, 2, 3, 4, 5, 6, 7, 8] rfl)
      · have hw := hw.2 hc
        refine lv_aload_n hx hb dX11_holdsLine_57 rfl (lv_at hl 1 rfl) ?_
        refine va_get (D := (dC, dI)) (ci := 11) (v := .ref a2) (C := RX11) (T := TX11) (N := 34) hx hb hts inX11_holdsLine_X11 hown hK hP 0 rfl rfl 16 (by decide) (hts (.fieldLink RX11 36 "LeadParkModel" "value" "[I") (List.mem_of_getElem? (i := 2) rfl)) (fun _ h9 => h9) rfl dX11_holdsLine_58 ?_
        refine lv_iload hx hb dX11_holdsLine_61 (lv_at hl 6 rfl) ?_
        refine lv_aload_n hx hb dX11_holdsLine_63 rfl (lv_at hl 1 rfl) ?_
        refine lv_iload hx hb dX11_holdsLine_64 (lv_at hl 0 rfl) ?_
        refine lv_aload_n hx hb dX11_holdsLine_66 rfl (lv_at hl 1 rfl) ?_
        refine va_get (D := (dC, dI)) (ci := 11) (v := .ref a1) (C := RX11) (T := TX11) (N := 34) hx hb hts inX11_holdsLine_X11 hown hK hP 0 rfl rfl 1 (by decide) (hts (.fieldLink RX11 13 "LeadParkModel" "world" "[I") (List.mem_of_getElem? (i := 1) rfl)) (fun _ h9 => h9) rfl dX11_holdsLine_67 ?_
        refine lv_sipush (v := 883) hx hb dX11_holdsLine_70 (by decide) ?_
        refine lv_iconst (v := 2) hx hb dX11_holdsLine_73 (by decide) ?_
        refine lv_iload hx hb dX11_holdsLine_74 (lv_at hl 8 rfl) ?_
        refine lv_imul hx hb dX11_holdsLine_76 ?_
        refine lv_iadd hx hb dX11_holdsLine_77 ?_
        refine lv_iconst (v := 1) hx hb dX11_holdsLine_78 (by decide) ?_
        refine lv_iadd hx hb dX11_holdsLine_79 ?_
        obtain ⟨hi, hw⟩ := hw
        refine va_iald hx hb hK hP 1 0 rfl rfl hi dX11_holdsLine_80 ?_
        refine lv_iload_n hx hb dX11_holdsLine_81 rfl (lv_at hl 2 rfl) ?_
        refine lv_iload_n hx hb dX11_holdsLine_82 rfl (lv_at hl 3 rfl) ?_
        refine lv_iload hx hb dX11_holdsLine_83 (lv_at hl 4 rfl) ?_
        refine lv_iload hx hb dX11_holdsLine_85 (lv_at hl 5 rfl) ?_
        have hPc := hP.sub (ws' := (ceX11_factOf cyI cyB cyJ cyZ a0 a1 b0_image b0_before b0_taken b0_tape b0_five a2 b0_far b0_lead b0_walk b0_ends b0_manX b0_manY b0_dogX b0_dogY b0_row b0_round b0_farOne b0_leads b0_drags b0_from b0_near g0_thrown g0_hasImage g0_remembered g0_taped g0_point g0_end g0_begin g0_deep g0_faultAt g0_steps g0_men g0_dogs f1)) [0, 1] rfl
        have hDc := hD.sub (ws' := (ceX11_factOf cyI cyB cyJ cyZ a0 a1 b0_image b0_before b0_taken b0_tape b0_five a2 b0_far b0_lead b0_walk b0_ends b0_manX b0_manY b0_dogX b0_dogY b0_row b0_round b0_farOne b0_leads b0_drags b0_from b0_near g0_thrown g0_hasImage g0_remembered g0_taped g0_point g0_end g0_begin g0_deep g0_faultAt g0_steps g0_men g0_dogs f1)) [0, 1] (by decide) rfl
        have hFc := va_free (wc := (ceX11_factOf cyI cyB cyJ cyZ a0 a1 b0_image b0_before b0_taken b0_tape b0_five a2 b0_far b0_lead b0_walk b0_ends b0_manX b0_manY b0_dogX b0_dogY b0_row b0_round b0_farOne b0_leads b0_drags b0_from b0_near g0_thrown g0_hasImage g0_remembered g0_taped g0_point g0_end g0_begin g0_deep g0_faultAt g0_steps g0_men g0_dogs f1)) hD hS hA [0, 1] rfl
        refine va_calli (va_runV (As := [.int v1, .int (f1 ((883 + (2 * x8)) + 1).toNatClampNeg), .int x2, .int x3, .int x4, .int x5]) (rest := [.int x6, .ref a2]) ⟨hx, hb, hml, hown, hts⟩ (ctX11_factOf l dC dI cyI cyB cyJ cyZ _ a0 a1 b0_image b0_before b0_taken b0_tape b0_five a2 b0_far b0_lead b0_walk b0_ends b0_manX b0_manY b0_dogX b0_dogY b0_row b0_round b0_farOne b0_leads b0_drags b0_from b0_near g0_thrown g0_hasImage g0_remembered g0_taped g0_point g0_end g0_begin g0_deep g0_faultAt g0_steps g0_men g0_dogs f1 v1 (f1 ((883 + (2 * x8)) + 1).toNatClampNeg) x2 x3 x4 x5 _ hw) (cwV 6 hts gX11_holdsLine_X11_factOf rfl rfl rfl (by decide +kernel) ⟨Nat.le_of_ble_eq_true rfl, Nat.le_of_ble_eq_true rfl⟩) ⟨wPre_blind, va_recv hK hPc (ci := 11) (q0 := 0) rfl rfl, fun U hU hW => wPre_of hPc hK hDc hN hU hW⟩ rfl rfl hl.1 rfl (lv_room (Nat.le_of_ble_eq_true rfl)) dX11_holdsLine_87 ⟨(Nat.zero_le _), (Nat.zero_le _)⟩) hS (fun q _ h => hFc q h) hFc (fun r6 u5 t H1 locs ht hvm hw hB hz1 hk1 hS => ?_)
        obtain ⟨hP1, hK1, hD1⟩ := hB
        rw [ht] at hP1
        obtain ⟨hP, hD⟩ := va_join (wr := pickW (ceX11_holdsLine cyI cyB cyJ cyZ a0 a1 a2 b0_image b0_before b0_taken b0_tape b0_five b0_far b0_lead b0_walk b0_ends b0_manX b0_manY b0_dogX b0_dogY b0_row b0_round b0_farOne b0_leads b0_drags b0_from b0_near g0_thrown g0_hasImage g0_remembered g0_taped g0_point g0_end g0_begin g0_deep g0_faultAt g0_steps g0_men g0_dogs f1 f2) [2]) (w1 := (ceX11_factOf cyI cyB cyJ cyZ a0 a1 b0_image b0_before b0_taken b0_tape b0_five a2 b0_far b0_lead b0_walk b0_ends b0_manX b0_manY b0_dogX b0_dogY b0_row b0_round b0_farOne b0_leads b0_drags b0_from b0_near g0_thrown g0_hasImage g0_remembered g0_taped g0_point g0_end g0_begin g0_deep g0_faultAt g0_steps g0_men g0_dogs f1)) hP hD [0, 1] [2] rfl rfl (by decide) (by decide) hk1 hFc hP1 hD1
        have hP := hP.sub (ws' := (ceX11_holdsLine cyI cyB cyJ cyZ a0 a1 a2 b0_image b0_before b0_taken b0_tape b0_five b0_far b0_lead b0_walk b0_ends b0_manX b0_manY b0_dogX b0_dogY b0_row b0_round b0_farOne b0_leads b0_drags b0_from b0_near g0_thrown g0_hasImage g0_remembered g0_taped g0_point g0_end g0_begin g0_deep g0_faultAt g0_steps g0_men g0_dogs f1 f2)) [1, 2, 0] rfl
        have hD := hD.sub (ws' := (ceX11_holdsLine cyI cyB cyJ cyZ a0 a1 a2 b0_image b0_before b0_taken b0_tape b0_five b0_far b0_lead b0_walk b0_ends b0_manX b0_manY b0_dogX b0_dogY b0_row b0_round b0_farOne b0_leads b0_drags b0_from b0_near g0_thrown g0_hasImage g0_remembered g0_taped g0_point g0_end g0_begin g0_deep g0_faultAt g0_steps g0_men g0_dogs f1 f2)) [1, 2, 0] (by decide) rfl
        generalize H1 = H at hP hS ⊢
        obtain ⟨hi, hw⟩ := hw
        refine va_iast hx hb hK hP hD hS 2 0 rfl rfl hi dX11_holdsLine_90 (fun H locs hP hD hS => ?_)
        have hP : va_P (dC, dI) vwCl (ceX11_holdsLine cyI cyB cyJ cyZ a0 a1 a2 b0_image b0_before b0_taken b0_tape b0_five b0_far b0_lead b0_walk b0_ends b0_manX b0_manY b0_dogX b0_dogY b0_row b0_round b0_farOne b0_leads b0_drags b0_from b0_near g0_thrown g0_hasImage g0_remembered g0_taped g0_point g0_end g0_begin g0_deep g0_faultAt g0_steps g0_men g0_dogs f1 (upd f2 x6.toNatClampNeg r6)) H := hP
        have hD : va_D A (ceX11_holdsLine cyI cyB cyJ cyZ a0 a1 a2 b0_image b0_before b0_taken b0_tape b0_five b0_far b0_lead b0_walk b0_ends b0_manX b0_manY b0_dogX b0_dogY b0_row b0_round b0_farOne b0_leads b0_drags b0_from b0_near g0_thrown g0_hasImage g0_remembered g0_taped g0_point g0_end g0_begin g0_deep g0_faultAt g0_steps g0_men g0_dogs f1 (upd f2 x6.toNatClampNeg r6)) := hD
        obtain ⟨v7, ev7⟩ : ∃ y : Int32, y = x6 + 1 := ⟨_, rfl⟩
        have hw := hw v7 ev7
        refine lv_iinc (v := v7) (lv' := [(6, .int v7), (9, .int v1), (0, .ref a0), (2, .int x2), (3, .int x3), (4, .int x4), (5, .int x5), (7, .int x7), (8, .int x8)]) hx hb dX11_holdsLine_91 hl (k := 6) rfl (by rw [ev7]; rfl) (by decide) rfl (fun ls hl => ?_)
        refine lv_goto (tgt := 267) hx hb dX11_holdsLine_94 (by decide) ?_
        exact bX11_holdsLine_267 C0 hK hN hA hQ ih (upd f2 x6.toNatClampNeg r6) x2 x3 x4 x5 v7 x7 x8 hw _ _ hP hD hS ls (lv_sub hl [2, 3, 4, 5, 6, 0, 7, 8] rfl)
set_option maxRecDepth 100000 in
set_option maxHeartbeats 4000000 in
theorem ctX11_holdsLine (l : Launch) (dC : Nat → ClassId) (dI : Nat → Nat → Nat) (cyI cyB cyJ cyZ : ClassId) (sz : Nat) (a0 a1 a2 b0_image b0_before b0_taken b0_tape b0_five b0_far b0_lead b0_walk b0_ends b0_manX b0_manY b0_dogX b0_dogY b0_row b0_round b0_farOne b0_leads b0_drags b0_from b0_near : Nat) (g0_thrown : Int32) (g0_hasImage : Int32) (g0_remembered : Int32) (g0_taped : Int32) (g0_point : Int32) (g0_end : Int32) (g0_begin : Int32) (g0_deep : Int32) (g0_faultAt : Int32) (g0_steps : Int32) (g0_men : Int32) (g0_dogs : Int32) (f1 : Nat → Int32) (f2 : Nat → Int32) (p0 : Int32) (p1 : Int32) (p2 : Int32) (p3 : Int32) (p4 : Int32) (post : Int32 → ((Nat → Int32)) → Prop) (hw : wpX11_holdsLine post f1 f2 p0 p1 p2 p3 p4) : Met l yX11_holdsLine wsX11_holdsLine rmX11_holdsLine (va_Pc [.ref a0, .int p0, .int p1, .int p2, .int p3, .int p4] (wPre dC dI cyI cyB cyJ cyZ sz (ceX11_holdsLine cyI cyB cyJ cyZ a0 a1 a2 b0_image b0_before b0_taken b0_tape b0_five b0_far b0_lead b0_walk b0_ends b0_manX b0_manY b0_dogX b0_dogY b0_row b0_round b0_farOne b0_leads b0_drags b0_from b0_near g0_thrown g0_hasImage g0_remembered g0_taped g0_point g0_end g0_begin g0_deep g0_faultAt g0_steps g0_men g0_dogs f1 f2))) (va_Qi post (fun u : (Nat → Int32) => wAt dC dI cyI cyB cyJ cyZ (va_A (ceX11_holdsLine cyI cyB cyJ cyZ a0 a1 a2 b0_image b0_before b0_taken b0_tape b0_five b0_far b0_lead b0_walk b0_ends b0_manX b0_manY b0_dogX b0_dogY b0_row b0_round b0_farOne b0_leads b0_drags b0_from b0_near g0_thrown g0_hasImage g0_remembered g0_taped g0_point g0_end g0_begin g0_deep g0_faultAt g0_steps g0_men g0_dogs f1 f2) sz) (ceX11_holdsLine cyI cyB cyJ cyZ a0 a1 a2 b0_image b0_before b0_taken b0_tape b0_five b0_far b0_lead b0_walk b0_ends b0_manX b0_manY b0_dogX b0_dogY b0_row b0_round b0_farOne b0_leads b0_drags b0_from b0_near g0_thrown g0_hasImage g0_remembered g0_taped g0_point g0_end g0_begin g0_deep g0_faultAt g0_steps g0_men g0_dogs f1 u)) (va_A (ceX11_holdsLine cyI cyB cyJ cyZ a0 a1 a2 b0_image b0_before b0_taken b0_tape b0_five b0_far b0_lead b0_walk b0_ends b0_manX b0_manY b0_dogX b0_dogY b0_row b0_round b0_farOne b0_leads b0_drags b0_from b0_near g0_thrown g0_hasImage g0_remembered g0_taped g0_point g0_end g0_begin g0_deep g0_faultAt g0_steps g0_men g0_dogs f1 f2) sz)) 0 0 (va_A (ceX11_holdsLine cyI cyB cyJ cyZ a0 a1 a2 b0_image b0_before b0_taken b0_tape b0_five b0_far b0_lead b0_walk b0_ends b0_manX b0_manY b0_dogX b0_dogY b0_row b0_round b0_farOne b0_leads b0_drags b0_from b0_near g0_thrown g0_hasImage g0_remembered g0_taped g0_point g0_end g0_begin g0_deep g0_faultAt g0_steps g0_men g0_dogs f1 f2) sz) := by
  refine Met.ofW (cc := cX11_holdsLine) (maxL := 13) (ret := (some .boolean)) (by decide) rfl ?_
  intro p e s m args below meth c s₁ B hml hv
  obtain ⟨rfl, hsz, hP, hK, hD0, hN⟩ := hv
  have hx := B.exec
  have hb := B.bytes
  have hr := B.returns
  have hts := atoms_spec (ws := wsX11_holdsLine) B.pre
  have hown : s.vm.findClass RX11 = some m.cls := findClass_of_methodNamed B.named
  have hlocks := B.notSynchronized
  subst hsz
  have hD := hD0.self (sz := s.heap.size)
  generalize hAe : va_A (ceX11_holdsLine cyI cyB cyJ cyZ a0 a1 a2 b0_image b0_before b0_taken b0_tape b0_five b0_far b0_lead b0_walk b0_ends b0_manX b0_manY b0_dogX b0_dogY b0_row b0_round b0_farOne b0_leads b0_drags b0_from b0_near g0_thrown g0_hasImage g0_remembered g0_taped g0_point g0_end g0_begin g0_deep g0_faultAt g0_steps g0_men g0_dogs f1 f2) s.heap.size = A at hD ⊢
  have hA : ∀ q : Nat, s.heap.size ≤ q → A q := fun q h => by rw [← hAe]; exact Or.inr h
  have hS : va_S A s.heap s.heap [] := va_S.rf
  have C0 : cxM p s m meth c _ wsX11_holdsLine RX11 cX11_holdsLine 13 (some .boolean) := ⟨hx, hb, hr, hml, hown, hts, hlocks⟩
  have hl := lv_entry ([.ref a0, .int p0, .int p1, .int p2, .int p3, .int p4]) (n := 13) (Nat.le_of_ble_eq_true rfl)
  rw [lg_entry_eq]
  generalize (lg_sl ([.ref a0, .int p0, .int p1, .int p2, .int p3, .int p4]) ++ List.replicate (13 - (lg_sl ([.ref a0, .int p0, .int p1, .int p2, .int p3, .int p4])).length) Slot.unset).toArray = ls at hl ⊢
  have hl : lv_has ls 13 [(0, .ref a0), (1, .int p0), (2, .int p1), (3, .int p2), (4, .int p3), (5, .int p4)] := hl
  show W p l e rmX11_holdsLine s m _ below meth c _ _ _ _ _ _
  refine wq (fun Q hQ => ?_)
  refine lv_iconst (v := 0) hx hb dX11_holdsLine_0 (by decide) ?_
  refine lv_istore (lv' := [(6, .int 0), (0, .ref a0), (1, .int p0), (2, .int p1), (3, .int p2), (4, .int p3), (5, .int p4)]) hx hb dX11_holdsLine_1 hl (by decide) rfl (fun ls hl => ?_)
  refine lv_sipush (v := 859) hx hb dX11_holdsLine_3 (by decide) ?_
  refine lv_iconst (v := 2) hx hb dX11_holdsLine_6 (by decide) ?_
  refine lv_iload_n hx hb dX11_holdsLine_7 rfl (lv_at hl 2 rfl) ?_
  refine lv_imul hx hb dX11_holdsLine_8 ?_
  refine lv_iadd hx hb dX11_holdsLine_9 ?_
  refine lv_topi (fun v1 ev1 => ?_)
  have hw := hw v1 ev1
  refine lv_istore (lv' := [(7, .int v1), (6, .int 0), (0, .ref a0), (1, .int p0), (2, .int p1), (3, .int p2), (4, .int p3), (5, .int p4)]) hx hb dX11_holdsLine_10 hl (by decide) rfl (fun ls hl => ?_)
  refine lv_aload_n hx hb dX11_holdsLine_12 rfl (lv_at hl 2 rfl) ?_
  refine va_get (D := (dC, dI)) (ci := 11) (v := .ref a1) (C := RX11) (T := TX11) (N := 34) hx hb hts inX11_holdsLine_X11 hown hK hP 0 rfl rfl 1 (by decide) (hts (.fieldLink RX11 13 "LeadParkModel" "world" "[I") (List.mem_of_getElem? (i := 1) rfl)) (fun _ h9 => h9) rfl dX11_holdsLine_13 ?_
  refine lv_iload hx hb dX11_holdsLine_16 (lv_at hl 0 rfl) ?_
  obtain ⟨hi, hw⟩ := hw
  refine va_iald hx hb hK hP 1 0 rfl rfl hi dX11_holdsLine_18 ?_
  refine lv_topi (fun v2 ev2 => ?_)
  have hw := hw v2 ev2
  refine lv_istore (lv' := [(8, .int v2), (7, .int v1), (6, .int 0), (0, .ref a0), (1, .int p0), (2, .int p1), (3, .int p2), (4, .int p3), (5, .int p4)]) hx hb dX11_holdsLine_19 hl (by decide) rfl (fun ls hl => ?_)
  obtain ⟨nn, hw⟩ := hw
  exact bX11_holdsLine_21 C0 hK hN hA hQ nn f2 p1 p2 p3 p4 0 v1 v2 hw _ _ hP hD hS ls (lv_sub hl [3, 5, 6, 7, 8, 2, 1, 0] rfl)
/-! LeadParkModel.side (IIIIII)I -/

abbrev rmX11_side : Room := { frames := 1, cells := 0, slots := 0, locals := 20 }
set_option maxRecDepth 100000 in
set_option maxHeartbeats 4000000 in
theorem ctX11_side (l : Launch) (dC : Nat → ClassId) (dI : Nat → Nat → Nat) (cyI cyB cyJ cyZ : ClassId) (sz : Nat) (p0 : Int32) (p1 : Int32) (p2 : Int32) (p3 : Int32) (p4 : Int32) (p5 : Int32) (post : Int32 → Unit → Prop) (hw : wpX11_side post p0 p1 p2 p3 p4 p5) : Met l yX11_side wsX11_side rmX11_side (va_Pc [.int p0, .int p1, .int p2, .int p3, .int p4, .int p5] (wPre dC dI cyI cyB cyJ cyZ sz ([] : va_W))) (va_Qi post (fun u : Unit => wAt dC dI cyI cyB cyJ cyZ (va_A ([] : va_W) sz) ([] : va_W)) (va_A ([] : va_W) sz)) 0 0 (va_A ([] : va_W) sz) := by
  refine Met.ofW (cc := cX11_side) (maxL := 6) (ret := (some .int)) (by decide) rfl ?_
  intro p e s m args below meth c s₁ B hml hv
  obtain ⟨rfl, hsz, hP, hK, hD0, hN⟩ := hv
  have hx := B.exec
  have hb := B.bytes
  have hr := B.returns
  have hts := atoms_spec (ws := wsX11_side) B.pre
  have hown : s.vm.findClass RX11 = some m.cls := findClass_of_methodNamed B.named
  have hlocks := B.notSynchronized
  subst hsz
  have hD := hD0.self (sz := s.heap.size)
  generalize hAe : va_A ([] : va_W) s.heap.size = A at hD ⊢
  have hA : ∀ q : Nat, s.heap.size ≤ q → A q := fun q h => by rw [← hAe]; exact Or.inr h
  have hS : va_S A s.heap s.heap [] := va_S.rf
  have C0 : cxM p s m meth c _ wsX11_side RX11 cX11_side 6 (some .int) := ⟨hx, hb, hr, hml, hown, hts, hlocks⟩
  have hl := lv_entry ([.int p0, .int p1, .int p2, .int p3, .int p4, .int p5]) (n := 6) (Nat.le_of_ble_eq_true rfl)
  rw [lg_entry_eq]
  generalize (lg_sl ([.int p0, .int p1, .int p2, .int p3, .int p4, .int p5]) ++ List.replicate (6 - (lg_sl ([.int p0, .int p1, .int p2, .int p3, .int p4, .int p5])).length) Slot.unset).toArray = ls at hl ⊢
  have hl : lv_has ls 6 [(0, .int p0), (1, .int p1), (2, .int p2), (3, .int p3), (4, .int p4), (5, .int p5)] := hl
  show W p l e rmX11_side s m _ below meth c _ _ _ _ _ _
  refine wq (fun Q hQ => ?_)
  refine lv_iload_n hx hb dX11_side_0 rfl (lv_at hl 2 rfl) ?_
  refine lv_iload_n hx hb dX11_side_1 rfl (lv_at hl 0 rfl) ?_
  refine lv_isub hx hb dX11_side_2 ?_
  refine lv_iload hx hb dX11_side_3 (lv_at hl 5 rfl) ?_
  refine lv_iload_n hx hb dX11_side_5 rfl (lv_at hl 1 rfl) ?_
  refine lv_isub hx hb dX11_side_6 ?_
  refine lv_imul hx hb dX11_side_7 ?_
  refine lv_iload_n hx hb dX11_side_8 rfl (lv_at hl 3 rfl) ?_
  refine lv_iload_n hx hb dX11_side_9 rfl (lv_at hl 1 rfl) ?_
  refine lv_isub hx hb dX11_side_10 ?_
  refine lv_iload hx hb dX11_side_11 (lv_at hl 4 rfl) ?_
  refine lv_iload_n hx hb dX11_side_13 rfl (lv_at hl 0 rfl) ?_
  refine lv_isub hx hb dX11_side_14 ?_
  refine lv_imul hx hb dX11_side_15 ?_
  refine lv_isub hx hb dX11_side_16 ?_
  have hPc := hP.sub (ws' := ([] : va_W)) [] rfl
  have hDc := hD.sub (ws' := ([] : va_W)) [] (by decide) rfl
  have hFc := va_free (wc := ([] : va_W)) hD hS hA [] rfl
  refine va_calli (va_runS (As := [.int (((p2 - p0) * (p5 - p1)) - ((p3 - p1) * (p4 - p0)))]) (rest := []) ⟨hx, hb, hml, hown, hts⟩ (ctJ6_signum_0f7a4 l dC dI cyI cyB cyJ cyZ _ (((p2 - p0) * (p5 - p1)) - ((p3 - p1) * (p4 - p0))) _ hw) (va_cwS 1 hts gX11_side_J6_signum_0f7a4 rfl rfl rfl (by decide +kernel) ⟨Nat.le_of_ble_eq_true rfl, Nat.le_of_ble_eq_true rfl⟩) ⟨wPre_blind, fun U hU hW => wPre_of hPc hK hDc hN hU hW⟩ rfl rfl hl.1 rfl (lv_room (Nat.le_of_ble_eq_true rfl)) dX11_side_17 ⟨(Nat.zero_le _), (Nat.zero_le _)⟩) hS (fun q _ h => hFc q h) hFc (fun r2 u1 t H1 locs ht hvm hw hB hz1 hk1 hS => ?_)
  obtain ⟨hP1, hK1, hD1⟩ := hB
  rw [ht] at hP1
  obtain ⟨hP, hD⟩ := va_join (wr := pickW ([] : va_W) []) (w1 := ([] : va_W)) hP hD [] [] rfl rfl (by decide) (by decide) hk1 hFc hP1 hD1
  have hP := hP.sub (ws' := ([] : va_W)) [] rfl
  have hD := hD.sub (ws' := ([] : va_W)) [] (by decide) rfl
  generalize H1 = H at hP hS ⊢
  rw [hQ]
  exact W.iret (v := r2) hx hb hr (fun t ht hW => ⟨⟨r2, (), rfl, hw, by rw [ht]; exact hP, va_K.moved hW.alike hK, hD⟩, hS.F ht⟩) hS.2.2 dX11_side_20
/-! LeadParkModel.between (III)Z -/

abbrev rmX11_between : Room := { frames := 1, cells := 0, slots := 0, locals := 40 }
set_option maxRecDepth 100000 in
set_option maxHeartbeats 4000000 in
theorem ctX11_between (l : Launch) (dC : Nat → ClassId) (dI : Nat → Nat → Nat) (cyI cyB cyJ cyZ : ClassId) (sz : Nat) (p0 : Int32) (p1 : Int32) (p2 : Int32) (post : Int32 → Unit → Prop) (hw : wpX11_between post p0 p1 p2) : Met l yX11_between wsX11_between rmX11_between (va_Pc [.int p0, .int p1, .int p2] (wPre dC dI cyI cyB cyJ cyZ sz ([] : va_W))) (va_Qi post (fun u : Unit => wAt dC dI cyI cyB cyJ cyZ (va_A ([] : va_W) sz) ([] : va_W)) (va_A ([] : va_W) sz)) 0 0 (va_A ([] : va_W) sz) := by
  refine Met.ofW (cc := cX11_between) (maxL := 3) (ret := (some .boolean)) (by decide) rfl ?_
  intro p e s m args below meth c s₁ B hml hv
  obtain ⟨rfl, hsz, hP, hK, hD0, hN⟩ := hv
  have hx := B.exec
  have hb := B.bytes
  have hr := B.returns
  have hts := atoms_spec (ws := wsX11_between) B.pre
  have hown : s.vm.findClass RX11 = some m.cls := findClass_of_methodNamed B.named
  have hlocks := B.notSynchronized
  subst hsz
  have hD := hD0.self (sz := s.heap.size)
  generalize hAe : va_A ([] : va_W) s.heap.size = A at hD ⊢
  have hA : ∀ q : Nat, s.heap.size ≤ q → A q := fun q h => by rw [← hAe]; exact Or.inr h
  have hS : va_S A s.heap s.heap [] := va_S.rf
  have C0 : cxM p s m meth c _ wsX11_between RX11 cX11_between 3 (some .boolean) := ⟨hx, hb, hr, hml, hown, hts, hlocks⟩
  have hl := lv_entry ([.int p0, .int p1, .int p2]) (n := 3) (Nat.le_of_ble_eq_true rfl)
  rw [lg_entry_eq]
  generalize (lg_sl ([.int p0, .int p1, .int p2]) ++ List.replicate (3 - (lg_sl ([.int p0, .int p1, .int p2])).length) Slot.unset).toArray = ls at hl ⊢
  have hl : lv_has ls 3 [(0, .int p0), (1, .int p1), (2, .int p2)] := hl
  show W p l e rmX11_between s m _ below meth c _ _ _ _ _ _
  refine wq (fun Q hQ => ?_)
  refine lv_iload_n hx hb dX11_between_0 rfl (lv_at hl 0 rfl) ?_
  refine lv_iload_n hx hb dX11_between_1 rfl (lv_at hl 1 rfl) ?_
  refine va_mmin hx hb (hml.trans hl.1.symm) hown (hts (.methodLink RX11 268 Lib.Math.min.name) (List.mem_of_getElem? (i := 1) rfl)) (hts (.static Lib.Math.min.name) (List.mem_of_getElem? (i := 2) rfl)) (hts (.initialized "java/lang/Math") (List.mem_of_getElem? (i := 3) rfl)) (hts (.code Lib.Math.min.name Lib.Math.min.code 2 (some .int)) (List.mem_of_getElem? (i := 4) rfl)) (Nat.le_of_ble_eq_true rfl) (Nat.le_of_ble_eq_true rfl) (by decide) (by decide) dX11_between_2 ?_
  refine lv_iload_n hx hb dX11_between_5 rfl (lv_at hl 2 rfl) ?_
  refine lv_icmp_gt (tgt := 22) hx hb dX11_between_6 (by decide) (fun hc => ?_) (fun hc => ?_)
  · have hw := hw.1 hc
    refine lv_iconst (v := 0) hx hb dX11_between_22 (by decide) ?_
    rw [hQ]
    exact W.zret (v := 0) (ty := .boolean) hx hb hr rfl (fun t ht hW => ⟨⟨0, (), rfl, hw, by rw [ht]; exact hP, va_K.moved hW.alike hK, hD⟩, hS.F ht⟩) hS.2.2 dX11_between_23
  · have hw := hw.2 hc
    refine lv_iload_n hx hb dX11_between_9 rfl (lv_at hl 2 rfl) ?_
    refine lv_iload_n hx hb dX11_between_10 rfl (lv_at hl 0 rfl) ?_
    refine lv_iload_n hx hb dX11_between_11 rfl (lv_at hl 1 rfl) ?_
    refine va_mmax hx hb (hml.trans hl.1.symm) hown (hts (.methodLink RX11 273 Lib.Math.max.name) (List.mem_of_getElem? (i := 5) rfl)) (hts (.static Lib.Math.max.name) (List.mem_of_getElem? (i := 6) rfl)) (hts (.initialized "java/lang/Math") (List.mem_of_getElem? (i := 3) rfl)) (hts (.code Lib.Math.max.name Lib.Math.max.code 2 (some .int)) (List.mem_of_getElem? (i := 7) rfl)) (Nat.le_of_ble_eq_true rfl) (Nat.le_of_ble_eq_true rfl) (by decide) (by decide) dX11_between_12 ?_
    refine lv_icmp_gt (tgt := 22) hx hb dX11_between_15 (by decide) (fun hc => ?_) (fun hc => ?_)
    · have hw := hw.1 hc
      refine lv_iconst (v := 0) hx hb dX11_between_22 (by decide) ?_
      rw [hQ]
      exact W.zret (v := 0) (ty := .boolean) hx hb hr rfl (fun t ht hW => ⟨⟨0, (), rfl, hw, by rw [ht]; exact hP, va_K.moved hW.alike hK, hD⟩, hS.F ht⟩) hS.2.2 dX11_between_23
    · have hw := hw.2 hc
      refine lv_iconst (v := 1) hx hb dX11_between_18 (by decide) ?_
      refine lv_goto (tgt := 23) hx hb dX11_between_19 (by decide) ?_
      rw [hQ]
      exact W.zret (v := 1) (ty := .boolean) hx hb hr rfl (fun t ht hW => ⟨⟨1, (), rfl, hw, by rw [ht]; exact hP, va_K.moved hW.alike hK, hD⟩, hS.F ht⟩) hS.2.2 dX11_between_23
/-! LeadParkModel.isOn (IIIIII)Z -/

abbrev rmX11_isOn : Room := { frames := 2, cells := 0, slots := 0, locals := 62 }
set_option maxRecDepth 100000 in
set_option maxHeartbeats 4000000 in
theorem ctX11_isOn (l : Launch) (dC : Nat → ClassId) (dI : Nat → Nat → Nat) (cyI cyB cyJ cyZ : ClassId) (sz : Nat) (p0 : Int32) (p1 : Int32) (p2 : Int32) (p3 : Int32) (p4 : Int32) (p5 : Int32) (post : Int32 → Unit → Prop) (hw : wpX11_isOn post p0 p1 p2 p3 p4 p5) : Met l yX11_isOn wsX11_isOn rmX11_isOn (va_Pc [.int p0, .int p1, .int p2, .int p3, .int p4, .int p5] (wPre dC dI cyI cyB cyJ cyZ sz ([] : va_W))) (va_Qi post (fun u : Unit => wAt dC dI cyI cyB cyJ cyZ (va_A ([] : va_W) sz) ([] : va_W)) (va_A ([] : va_W) sz)) 0 0 (va_A ([] : va_W) sz) := by
  refine Met.ofW (cc := cX11_isOn) (maxL := 6) (ret := (some .boolean)) (by decide) rfl ?_
  intro p e s m args below meth c s₁ B hml hv
  obtain ⟨rfl, hsz, hP, hK, hD0, hN⟩ := hv
  have hx := B.exec
  have hb := B.bytes
  have hr := B.returns
  have hts := atoms_spec (ws := wsX11_isOn) B.pre
  have hown : s.vm.findClass RX11 = some m.cls := findClass_of_methodNamed B.named
  have hlocks := B.notSynchronized
  subst hsz
  have hD := hD0.self (sz := s.heap.size)
  generalize hAe : va_A ([] : va_W) s.heap.size = A at hD ⊢
  have hA : ∀ q : Nat, s.heap.size ≤ q → A q := fun q h => by rw [← hAe]; exact Or.inr h
  have hS : va_S A s.heap s.heap [] := va_S.rf
  have C0 : cxM p s m meth c _ wsX11_isOn RX11 cX11_isOn 6 (some .boolean) := ⟨hx, hb, hr, hml, hown, hts, hlocks⟩
  have hl := lv_entry ([.int p0, .int p1, .int p2, .int p3, .int p4, .int p5]) (n := 6) (Nat.le_of_ble_eq_true rfl)
  rw [lg_entry_eq]
  generalize (lg_sl ([.int p0, .int p1, .int p2, .int p3, .int p4, .int p5]) ++ List.replicate (6 - (lg_sl ([.int p0, .int p1, .int p2, .int p3, .int p4, .int p5])).length) Slot.unset).toArray = ls at hl ⊢
  have hl : lv_has ls 6 [(0, .int p0), (1, .int p1), (2, .int p2), (3, .int p3), (4, .int p4), (5, .int p5)] := hl
  show W p l e rmX11_isOn s m _ below meth c _ _ _ _ _ _
  refine wq (fun Q hQ => ?_)
  refine lv_iload_n hx hb dX11_isOn_0 rfl (lv_at hl 0 rfl) ?_
  refine lv_iload_n hx hb dX11_isOn_1 rfl (lv_at hl 1 rfl) ?_
  refine lv_iload_n hx hb dX11_isOn_2 rfl (lv_at hl 2 rfl) ?_
  refine lv_iload_n hx hb dX11_isOn_3 rfl (lv_at hl 3 rfl) ?_
  refine lv_iload hx hb dX11_isOn_4 (lv_at hl 4 rfl) ?_
  refine lv_iload hx hb dX11_isOn_6 (lv_at hl 5 rfl) ?_
  have hPc := hP.sub (ws' := ([] : va_W)) [] rfl
  have hDc := hD.sub (ws' := ([] : va_W)) [] (by decide) rfl
  have hFc := va_free (wc := ([] : va_W)) hD hS hA [] rfl
  refine va_calli (va_runS (As := [.int p0, .int p1, .int p2, .int p3, .int p4, .int p5]) (rest := []) ⟨hx, hb, hml, hown, hts⟩ (ctX11_side l dC dI cyI cyB cyJ cyZ _ p0 p1 p2 p3 p4 p5 _ hw) (va_cwS 6 hts gX11_isOn_X11_side rfl rfl rfl (by decide +kernel) ⟨Nat.le_of_ble_eq_true rfl, Nat.le_of_ble_eq_true rfl⟩) ⟨wPre_blind, fun U hU hW => wPre_of hPc hK hDc hN hU hW⟩ rfl rfl hl.1 rfl (lv_room (Nat.le_of_ble_eq_true rfl)) dX11_isOn_8 ⟨(Nat.zero_le _), (Nat.zero_le _)⟩) hS (fun q _ h => hFc q h) hFc (fun r2 u1 t H1 locs ht hvm hw hB hz1 hk1 hS => ?_)
  obtain ⟨hP1, hK1, hD1⟩ := hB
  rw [ht] at hP1
  obtain ⟨hP, hD⟩ := va_join (wr := pickW ([] : va_W) []) (w1 := ([] : va_W)) hP hD [] [] rfl rfl (by decide) (by decide) hk1 hFc hP1 hD1
  have hP := hP.sub (ws' := ([] : va_W)) [] rfl
  have hD := hD.sub (ws' := ([] : va_W)) [] (by decide) rfl
  generalize H1 = H at hP hS ⊢
  refine lv_if_ne (tgt := 38) hx hb dX11_isOn_11 (by decide) (fun hc => ?_) (fun hc => ?_)
  · have hw := hw.1 hc
    refine lv_iconst (v := 0) hx hb dX11_isOn_38 (by decide) ?_
    rw [hQ]
    exact W.zret (v := 0) (ty := .boolean) hx hb hr rfl (fun t ht hW => ⟨⟨0, (), rfl, hw, by rw [ht]; exact hP, va_K.moved hW.alike hK, hD⟩, hS.F ht⟩) hS.2.2 dX11_isOn_39
  · have hw := hw.2 hc
    refine lv_iload_n hx hb dX11_isOn_14 rfl (lv_at hl 0 rfl) ?_
    refine lv_iload_n hx hb dX11_isOn_15 rfl (lv_at hl 2 rfl) ?_
    refine lv_iload hx hb dX11_isOn_16 (lv_at hl 4 rfl) ?_
    have hPc := hP.sub (ws' := ([] : va_W)) [] rfl
    have hDc := hD.sub (ws' := ([] : va_W)) [] (by decide) rfl
    have hFc := va_free (wc := ([] : va_W)) hD hS hA [] rfl
    refine va_calli (va_runS (As := [.int p0, .int p2, .int p4]) (rest := []) ⟨hx, hb, hml, hown, hts⟩ (ctX11_between l dC dI cyI cyB cyJ cyZ _ p0 p2 p4 _ hw) (va_cwS 3 hts gX11_isOn_X11_between rfl rfl rfl (by decide +kernel) ⟨Nat.le_of_ble_eq_true rfl, Nat.le_of_ble_eq_true rfl⟩) ⟨wPre_blind, fun U hU hW => wPre_of hPc hK hDc hN hU hW⟩ rfl rfl hl.1 rfl (lv_room (Nat.le_of_ble_eq_true rfl)) dX11_isOn_18 ⟨(Nat.zero_le _), (Nat.zero_le _)⟩) hS (fun q _ h => hFc q h) hFc (fun r4 u3 t H1 locs ht hvm hw hB hz1 hk1 hS => ?_)
    obtain ⟨hP1, hK1, hD1⟩ := hB
    rw [ht] at hP1
    obtain ⟨hP, hD⟩ := va_join (wr := pickW ([] : va_W) []) (w1 := ([] : va_W)) hP hD [] [] rfl rfl (by decide) (by decide) hk1 hFc hP1 hD1
    have hP := hP.sub (ws' := ([] : va_W)) [] rfl
    have hD := hD.sub (ws' := ([] : va_W)) [] (by decide) rfl
    generalize H1 = H at hP hS ⊢
    refine lv_if_eq (tgt := 38) hx hb dX11_isOn_21 (by decide) (fun hc => ?_) (fun hc => ?_)
    · have hw := hw.1 hc
      refine lv_iconst (v := 0) hx hb dX11_isOn_38 (by decide) ?_
      rw [hQ]
      exact W.zret (v := 0) (ty := .boolean) hx hb hr rfl (fun t ht hW => ⟨⟨0, (), rfl, hw, by rw [ht]; exact hP, va_K.moved hW.alike hK, hD⟩, hS.F ht⟩) hS.2.2 dX11_isOn_39
    · have hw := hw.2 hc
      refine lv_iload_n hx hb dX11_isOn_24 rfl (lv_at hl 1 rfl) ?_
      refine lv_iload_n hx hb dX11_isOn_25 rfl (lv_at hl 3 rfl) ?_
      refine lv_iload hx hb dX11_isOn_26 (lv_at hl 5 rfl) ?_
      have hPc := hP.sub (ws' := ([] : va_W)) [] rfl
      have hDc := hD.sub (ws' := ([] : va_W)) [] (by decide) rfl
      have hFc := va_free (wc := ([] : va_W)) hD hS hA [] rfl
      refine va_calli (va_runS (As := [.int p1, .int p3, .int p5]) (rest := []) ⟨hx, hb, hml, hown, hts⟩ (ctX11_between l dC dI cyI cyB cyJ cyZ _ p1 p3 p5 _ hw) (va_cwS 3 hts gX11_isOn_X11_between rfl rfl rfl (by decide +kernel) ⟨Nat.le_of_ble_eq_true rfl, Nat.le_of_ble_eq_true rfl⟩) ⟨wPre_blind, fun U hU hW => wPre_of hPc hK hDc hN hU hW⟩ rfl rfl hl.1 rfl (lv_room (Nat.le_of_ble_eq_true rfl)) dX11_isOn_28 ⟨(Nat.zero_le _), (Nat.zero_le _)⟩) hS (fun q _ h => hFc q h) hFc (fun r6 u5 t H1 locs ht hvm hw hB hz1 hk1 hS => ?_)
      obtain ⟨hP1, hK1, hD1⟩ := hB
      rw [ht] at hP1
      obtain ⟨hP, hD⟩ := va_join (wr := pickW ([] : va_W) []) (w1 := ([] : va_W)) hP hD [] [] rfl rfl (by decide) (by decide) hk1 hFc hP1 hD1
      have hP := hP.sub (ws' := ([] : va_W)) [] rfl
      have hD := hD.sub (ws' := ([] : va_W)) [] (by decide) rfl
      generalize H1 = H at hP hS ⊢
      refine lv_if_eq (tgt := 38) hx hb dX11_isOn_31 (by decide) (fun hc => ?_) (fun hc => ?_)
      · have hw := hw.1 hc
        refine lv_iconst (v := 0) hx hb dX11_isOn_38 (by decide) ?_
        rw [hQ]
        exact W.zret (v := 0) (ty := .boolean) hx hb hr rfl (fun t ht hW => ⟨⟨0, (), rfl, hw, by rw [ht]; exact hP, va_K.moved hW.alike hK, hD⟩, hS.F ht⟩) hS.2.2 dX11_isOn_39
      · have hw := hw.2 hc
        refine lv_iconst (v := 1) hx hb dX11_isOn_34 (by decide) ?_
        refine lv_goto (tgt := 39) hx hb dX11_isOn_35 (by decide) ?_
        rw [hQ]
        exact W.zret (v := 1) (ty := .boolean) hx hb hr rfl (fun t ht hW => ⟨⟨1, (), rfl, hw, by rw [ht]; exact hP, va_K.moved hW.alike hK, hD⟩, hS.F ht⟩) hS.2.2 dX11_isOn_39
