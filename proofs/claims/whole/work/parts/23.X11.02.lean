/-! LeadParkModel.readCorners (I)Z -/
abbrev ceX11_readCorners (cyI cyB cyJ cyZ : ClassId) (a0 a1 a2 b0_image b0_before b0_taken b0_five b0_value b0_far b0_lead b0_walk b0_ends b0_manX b0_manY b0_dogX b0_dogY b0_row b0_round b0_farOne b0_leads b0_drags b0_from b0_near : Nat) (g0_thrown : Int32) (g0_hasImage : Int32) (g0_remembered : Int32) (g0_taped : Int32) (g0_deep : Int32) (g0_faultAt : Int32) (g0_steps : Int32) (g0_men : Int32) (g0_dogs : Int32) (g0_end : Int32) (f1 : Nat → Int32) (g0_point : Int32) (g0_begin : Int32) (f2 : Nat → Int32) : va_W := [(a0, .inr (11, [.int g0_thrown, .ref a2, .ref b0_image, .ref b0_before, .int g0_hasImage, .ref b0_taken, .int g0_remembered, .ref a1, .int g0_taped, .int g0_point, .int g0_end, .int g0_begin, .int g0_deep, .int g0_faultAt, .ref b0_five, .int g0_steps, .ref b0_value, .ref b0_far, .int g0_men, .int g0_dogs, .ref b0_lead, .ref b0_walk, .ref b0_ends, .ref b0_manX, .ref b0_manY, .ref b0_dogX, .ref b0_dogY, .ref b0_row, .ref b0_round, .ref b0_farOne, .ref b0_leads, .ref b0_drags, .ref b0_from, .ref b0_near])), (a1, .inl (cyB, 400, .inl f1)), (a2, .inl (cyI, 2508, .inl f2))]

theorem inX11_readCorners_X11 : ∀ w ∈ wsX110, w ∈ wsX11_readCorners := fun _ h => List.mem_cons_of_mem _ (List.mem_append_right _ h)
abbrev rmX11_readCorners : Room := { frames := 4, cells := 0, slots := 0, locals := 88 }
def wpX11_readCorners_0 (post : Int32 → (Int32 × Int32 × (Nat → Int32)) → Prop) (g0_end : Int32) (f1 : Nat → Int32) : Nat → Int32 → Int32 → (Nat → Int32) → Int32 → Prop
  | 0, _, _, _, _ => False
  | n_0 + 1, g0_point, g0_begin, f2, x1 =>
    wpX11_number (fun (r2 : Int32) (u1 : Int32 × Int32) =>
     wpX11_cornersOf (fun (r4 : Int32) (u3 : Unit) =>
      (r2 < 0 →
       post 0 (u1.1, u1.2, f2)) ∧
      (¬ r2 < 0 →
       (¬ r4 = 30 →
        wpX11_number (fun (r6 : Int32) (u5 : Int32 × Int32) =>
         (0 ≤ r6 →
          vp_in (((14 + (61 * x1)) + 1) + (2 * r4)) 2508 ∧
          vp_in (((14 + (61 * x1)) + 2) + (2 * r4)) 2508 ∧
          vp_in (14 + (61 * x1)) 2508 ∧
          vp_in (14 + (61 * x1)) 2508 ∧
          wpX11_blanks (fun (u7 : Int32 × Int32) =>
           wpX11_isAt (fun (r9 : Int32) (u8 : Unit) =>
            (¬ r9 = 0 →
             wpX11_readCorners_0 post g0_end f1 n_0 u7.1 u7.2 (upd (upd (upd f2 (((14 + (61 * x1)) + 1) + (2 * r4)).toNatClampNeg r2) (((14 + (61 * x1)) + 2) + (2 * r4)).toNatClampNeg r6) (14 + (61 * x1)).toNatClampNeg (((upd (upd f2 (((14 + (61 * x1)) + 1) + (2 * r4)).toNatClampNeg r2) (((14 + (61 * x1)) + 2) + (2 * r4)).toNatClampNeg r6) (14 + (61 * x1)).toNatClampNeg) + 1)) x1) ∧
            (r9 = 0 →
             post 1 (u7.1, u7.2, (upd (upd (upd f2 (((14 + (61 * x1)) + 1) + (2 * r4)).toNatClampNeg r2) (((14 + (61 * x1)) + 2) + (2 * r4)).toNatClampNeg r6) (14 + (61 * x1)).toNatClampNeg (((upd (upd f2 (((14 + (61 * x1)) + 1) + (2 * r4)).toNatClampNeg r2) (((14 + (61 * x1)) + 2) + (2 * r4)).toNatClampNeg r6) (14 + (61 * x1)).toNatClampNeg) + 1))))) u7.1 g0_end f1 48 57) g0_end f1 u5.1 u5.2) ∧
         (¬ 0 ≤ r6 →
          post 0 (u5.1, u5.2, f2))) g0_end f1 u1.1 u1.2 0 999) ∧
       (r4 = 30 →
        post 0 (u1.1, u1.2, f2)))) f2 x1) g0_end f1 g0_point g0_begin 0 999
def wpX11_readCorners (post : Int32 → (Int32 × Int32 × (Nat → Int32)) → Prop) (g0_end : Int32) (f1 : Nat → Int32) (g0_point : Int32) (g0_begin : Int32) (f2 : Nat → Int32) (p0 : Int32) : Prop :=
  ∃ n_0 : Nat, wpX11_readCorners_0 post g0_end f1 n_0 g0_point g0_begin f2 p0
set_option maxRecDepth 100000 in
set_option maxHeartbeats 4000000 in
theorem bX11_readCorners_0 {p : Program} {l : Launch} {e : Env} {s : State} {m : MethodId} {args : Array Value} {below : List Frame} {meth : Method} {c : Code} {dC : Nat → ClassId} {dI : Nat → Nat → Nat} {cyI cyB cyJ cyZ : ClassId} {A : Nat → Prop} {a0 a1 a2 b0_image b0_before b0_taken b0_five b0_value b0_far b0_lead b0_walk b0_ends b0_manX b0_manY b0_dogX b0_dogY b0_row b0_round b0_farOne b0_leads b0_drags b0_from b0_near : Nat} {g0_thrown : Int32} {g0_hasImage : Int32} {g0_remembered : Int32} {g0_taped : Int32} {g0_deep : Int32} {g0_faultAt : Int32} {g0_steps : Int32} {g0_men : Int32} {g0_dogs : Int32} (C0 : cxM p s m meth c args wsX11_readCorners RX11 cX11_readCorners 5 (some .boolean)) (hK : va_K (dC, dI) vwCl (tyA cyI cyB cyJ cyZ) s) (hN : nwA s) (hA : ∀ q : Nat, s.heap.size ≤ q → A q) {post : Int32 → (Int32 × Int32 × (Nat → Int32)) → Prop} {g0_end : Int32} {f1 : Nat → Int32} {Q : State → Prop} (hQ : Q = MQ below (va_Qi post (fun u : Int32 × Int32 × (Nat → Int32) => wAt dC dI cyI cyB cyJ cyZ A (ceX11_readCorners cyI cyB cyJ cyZ a0 a1 a2 b0_image b0_before b0_taken b0_five b0_value b0_far b0_lead b0_walk b0_ends b0_manX b0_manY b0_dogX b0_dogY b0_row b0_round b0_farOne b0_leads b0_drags b0_from b0_near g0_thrown g0_hasImage g0_remembered g0_taped g0_deep g0_faultAt g0_steps g0_men g0_dogs g0_end f1 u.1 u.2.1 u.2.2)) A) args s 0 0 A) : ∀ (n : Nat) (g0_point : Int32) (g0_begin : Int32) (f2 : Nat → Int32) (x1 : Int32), wpX11_readCorners_0 post g0_end f1 n g0_point g0_begin f2 x1 → AtW p l e rmX11_readCorners s m args below meth c dC dI A Q 5 0 0 (ceX11_readCorners cyI cyB cyJ cyZ a0 a1 a2 b0_image b0_before b0_taken b0_five b0_value b0_far b0_lead b0_walk b0_ends b0_manX b0_manY b0_dogX b0_dogY b0_row b0_round b0_farOne b0_leads b0_drags b0_from b0_near g0_thrown g0_hasImage g0_remembered g0_taped g0_deep g0_faultAt g0_steps g0_men g0_dogs g0_end f1 g0_point g0_begin f2) [(0, .ref a0), (1, .int x1)] 0 [] := by
  intro n
  induction n with
  | zero => intro g0_point g0_begin f2 x1 hw; exact False.elim hw
  | succ n ih =>
    intro g0_point g0_begin f2 x1 hw H locs hP hD hS ls hl
    have C1 := C0
    obtain ⟨hx, hb, hr, hml, hown, hts, hlocks⟩ := C1
    refine lv_aload_n hx hb dX11_readCorners_0 rfl (lv_at hl 0 rfl) ?_
    refine lv_iconst (v := 0) hx hb dX11_readCorners_1 (by decide) ?_
    refine lv_sipush (v := 999) hx hb dX11_readCorners_2 (by decide) ?_
    have hPc := hP.sub (ws' := (ceX11_number cyI cyB cyJ cyZ a0 a1 a2 b0_image b0_before b0_taken b0_five b0_value b0_far b0_lead b0_walk b0_ends b0_manX b0_manY b0_dogX b0_dogY b0_row b0_round b0_farOne b0_leads b0_drags b0_from b0_near g0_thrown g0_hasImage g0_remembered g0_taped g0_deep g0_faultAt g0_steps g0_men g0_dogs g0_end f1 g0_point g0_begin)) [0, 1] rfl
    have hDc := hD.sub (ws' := (ceX11_number cyI cyB cyJ cyZ a0 a1 a2 b0_image b0_before b0_taken b0_five b0_value b0_far b0_lead b0_walk b0_ends b0_manX b0_manY b0_dogX b0_dogY b0_row b0_round b0_farOne b0_leads b0_drags b0_from b0_near g0_thrown g0_hasImage g0_remembered g0_taped g0_deep g0_faultAt g0_steps g0_men g0_dogs g0_end f1 g0_point g0_begin)) [0, 1] (by decide) rfl
    have hFc := va_free (wc := (ceX11_number cyI cyB cyJ cyZ a0 a1 a2 b0_image b0_before b0_taken b0_five b0_value b0_far b0_lead b0_walk b0_ends b0_manX b0_manY b0_dogX b0_dogY b0_row b0_round b0_farOne b0_leads b0_drags b0_from b0_near g0_thrown g0_hasImage g0_remembered g0_taped g0_deep g0_faultAt g0_steps g0_men g0_dogs g0_end f1 g0_point g0_begin)) hD hS hA [0, 1] rfl
    refine va_calli (va_runV (As := [.int 0, .int 999]) (rest := []) ⟨hx, hb, hml, hown, hts⟩ (ctX11_number l dC dI cyI cyB cyJ cyZ _ a0 a1 a2 b0_image b0_before b0_taken b0_five b0_value b0_far b0_lead b0_walk b0_ends b0_manX b0_manY b0_dogX b0_dogY b0_row b0_round b0_farOne b0_leads b0_drags b0_from b0_near g0_thrown g0_hasImage g0_remembered g0_taped g0_deep g0_faultAt g0_steps g0_men g0_dogs g0_end f1 g0_point g0_begin 0 999 _ hw) (cwV 2 hts gX11_readCorners_X11_number rfl rfl rfl (by decide +kernel) ⟨Nat.le_of_ble_eq_true rfl, Nat.le_of_ble_eq_true rfl⟩) ⟨wPre_blind, va_recv hK hPc (ci := 11) (q0 := 0) rfl rfl, fun U hU hW => wPre_of hPc hK hDc hN hU hW⟩ rfl rfl hl.1 rfl (lv_room (Nat.le_of_ble_eq_true rfl)) dX11_readCorners_5 ⟨(Nat.zero_le _), (Nat.zero_le _)⟩) hS (fun q _ h => hFc q h) hFc (fun r2 u1 t H1 locs ht hvm hw hB hz1 hk1 hS => ?_)
    obtain ⟨hP1, hK1, hD1⟩ := hB
    rw [ht] at hP1
    obtain ⟨hP, hD⟩ := va_join (wr := pickW (ceX11_readCorners cyI cyB cyJ cyZ a0 a1 a2 b0_image b0_before b0_taken b0_five b0_value b0_far b0_lead b0_walk b0_ends b0_manX b0_manY b0_dogX b0_dogY b0_row b0_round b0_farOne b0_leads b0_drags b0_from b0_near g0_thrown g0_hasImage g0_remembered g0_taped g0_deep g0_faultAt g0_steps g0_men g0_dogs g0_end f1 g0_point g0_begin f2) [2]) (w1 := (ceX11_number cyI cyB cyJ cyZ a0 a1 a2 b0_image b0_before b0_taken b0_five b0_value b0_far b0_lead b0_walk b0_ends b0_manX b0_manY b0_dogX b0_dogY b0_row b0_round b0_farOne b0_leads b0_drags b0_from b0_near g0_thrown g0_hasImage g0_remembered g0_taped g0_deep g0_faultAt g0_steps g0_men g0_dogs g0_end f1 u1.1 u1.2)) hP hD [0, 1] [2] rfl rfl (by decide) (by decide) hk1 hFc hP1 hD1
    have hP := hP.sub (ws' := (ceX11_readCorners cyI cyB cyJ cyZ a0 a1 a2 b0_image b0_before b0_taken b0_five b0_value b0_far b0_lead b0_walk b0_ends b0_manX b0_manY b0_dogX b0_dogY b0_row b0_round b0_farOne b0_leads b0_drags b0_from b0_near g0_thrown g0_hasImage g0_remembered g0_taped g0_deep g0_faultAt g0_steps g0_men g0_dogs g0_end f1 u1.1 u1.2 f2)) [1, 2, 0] rfl
    have hD := hD.sub (ws' := (ceX11_readCorners cyI cyB cyJ cyZ a0 a1 a2 b0_image b0_before b0_taken b0_five b0_value b0_far b0_lead b0_walk b0_ends b0_manX b0_manY b0_dogX b0_dogY b0_row b0_round b0_farOne b0_leads b0_drags b0_from b0_near g0_thrown g0_hasImage g0_remembered g0_taped g0_deep g0_faultAt g0_steps g0_men g0_dogs g0_end f1 u1.1 u1.2 f2)) [1, 2, 0] (by decide) rfl
    generalize H1 = H at hP hS ⊢
    refine lv_istore_n (lv' := [(2, .int r2), (0, .ref a0), (1, .int x1)]) hx hb dX11_readCorners_8 rfl hl (by decide) rfl (fun ls hl => ?_)
    refine lv_aload_n hx hb dX11_readCorners_9 rfl (lv_at hl 1 rfl) ?_
    refine lv_iload_n hx hb dX11_readCorners_10 rfl (lv_at hl 2 rfl) ?_
    have hPc := hP.sub (ws' := (ceX11_cornersOf cyI cyB cyJ cyZ a0 a2 b0_image b0_before b0_taken a1 b0_five b0_value b0_far b0_lead b0_walk b0_ends b0_manX b0_manY b0_dogX b0_dogY b0_row b0_round b0_farOne b0_leads b0_drags b0_from b0_near g0_thrown g0_hasImage g0_remembered g0_taped u1.1 g0_end u1.2 g0_deep g0_faultAt g0_steps g0_men g0_dogs f2)) [0, 2] rfl
    have hDc := hD.sub (ws' := (ceX11_cornersOf cyI cyB cyJ cyZ a0 a2 b0_image b0_before b0_taken a1 b0_five b0_value b0_far b0_lead b0_walk b0_ends b0_manX b0_manY b0_dogX b0_dogY b0_row b0_round b0_farOne b0_leads b0_drags b0_from b0_near g0_thrown g0_hasImage g0_remembered g0_taped u1.1 g0_end u1.2 g0_deep g0_faultAt g0_steps g0_men g0_dogs f2)) [0, 2] (by decide) rfl
    have hFc := va_free (wc := (ceX11_cornersOf cyI cyB cyJ cyZ a0 a2 b0_image b0_before b0_taken a1 b0_five b0_value b0_far b0_lead b0_walk b0_ends b0_manX b0_manY b0_dogX b0_dogY b0_row b0_round b0_farOne b0_leads b0_drags b0_from b0_near g0_thrown g0_hasImage g0_remembered g0_taped u1.1 g0_end u1.2 g0_deep g0_faultAt g0_steps g0_men g0_dogs f2)) hD hS hA [0, 2] rfl
    refine va_calli (va_runV (As := [.int x1]) (rest := []) ⟨hx, hb, hml, hown, hts⟩ (ctX11_cornersOf l dC dI cyI cyB cyJ cyZ _ a0 a2 b0_image b0_before b0_taken a1 b0_five b0_value b0_far b0_lead b0_walk b0_ends b0_manX b0_manY b0_dogX b0_dogY b0_row b0_round b0_farOne b0_leads b0_drags b0_from b0_near g0_thrown g0_hasImage g0_remembered g0_taped u1.1 g0_end u1.2 g0_deep g0_faultAt g0_steps g0_men g0_dogs f2 x1 _ hw) (cwV 1 hts gX11_readCorners_X11_cornersOf rfl rfl rfl (by decide +kernel) ⟨Nat.le_of_ble_eq_true rfl, Nat.le_of_ble_eq_true rfl⟩) ⟨wPre_blind, va_recv hK hPc (ci := 11) (q0 := 0) rfl rfl, fun U hU hW => wPre_of hPc hK hDc hN hU hW⟩ rfl rfl hl.1 rfl (lv_room (Nat.le_of_ble_eq_true rfl)) dX11_readCorners_11 ⟨(Nat.zero_le _), (Nat.zero_le _)⟩) hS (fun q _ h => hFc q h) hFc (fun r4 u3 t H1 locs ht hvm hw hB hz1 hk1 hS => ?_)
    obtain ⟨hP1, hK1, hD1⟩ := hB
    rw [ht] at hP1
    obtain ⟨hP, hD⟩ := va_join (wr := pickW (ceX11_readCorners cyI cyB cyJ cyZ a0 a1 a2 b0_image b0_before b0_taken b0_five b0_value b0_far b0_lead b0_walk b0_ends b0_manX b0_manY b0_dogX b0_dogY b0_row b0_round b0_farOne b0_leads b0_drags b0_from b0_near g0_thrown g0_hasImage g0_remembered g0_taped g0_deep g0_faultAt g0_steps g0_men g0_dogs g0_end f1 u1.1 u1.2 f2) [1]) (w1 := (ceX11_cornersOf cyI cyB cyJ cyZ a0 a2 b0_image b0_before b0_taken a1 b0_five b0_value b0_far b0_lead b0_walk b0_ends b0_manX b0_manY b0_dogX b0_dogY b0_row b0_round b0_farOne b0_leads b0_drags b0_from b0_near g0_thrown g0_hasImage g0_remembered g0_taped u1.1 g0_end u1.2 g0_deep g0_faultAt g0_steps g0_men g0_dogs f2)) hP hD [0, 2] [1] rfl rfl (by decide) (by decide) hk1 hFc hP1 hD1
    have hP := hP.sub (ws' := (ceX11_readCorners cyI cyB cyJ cyZ a0 a1 a2 b0_image b0_before b0_taken b0_five b0_value b0_far b0_lead b0_walk b0_ends b0_manX b0_manY b0_dogX b0_dogY b0_row b0_round b0_farOne b0_leads b0_drags b0_from b0_near g0_thrown g0_hasImage g0_remembered g0_taped g0_deep g0_faultAt g0_steps g0_men g0_dogs g0_end f1 u1.1 u1.2 f2)) [1, 0, 2] rfl
    have hD := hD.sub (ws' := (ceX11_readCorners cyI cyB cyJ cyZ a0 a1 a2 b0_image b0_before b0_taken b0_five b0_value b0_far b0_lead b0_walk b0_ends b0_manX b0_manY b0_dogX b0_dogY b0_row b0_round b0_farOne b0_leads b0_drags b0_from b0_near g0_thrown g0_hasImage g0_remembered g0_taped g0_deep g0_faultAt g0_steps g0_men g0_dogs g0_end f1 u1.1 u1.2 f2)) [1, 0, 2] (by decide) rfl
    generalize H1 = H at hP hS ⊢
    refine lv_istore_n (lv' := [(3, .int r4), (2, .int r2), (0, .ref a0), (1, .int x1)]) hx hb dX11_readCorners_14 rfl hl (by decide) rfl (fun ls hl => ?_)
    refine lv_iload_n hx hb dX11_readCorners_15 rfl (lv_at hl 1 rfl) ?_
    refine lv_if_lt (tgt := 25) hx hb dX11_readCorners_16 (by decide) (fun hc => ?_) (fun hc => ?_)
    · have hw := hw.1 hc
      refine lv_iconst (v := 0) hx hb dX11_readCorners_25 (by decide) ?_
      rw [hQ]
      exact W.zret (v := 0) (ty := .boolean) hx hb hr rfl (fun t ht hW => ⟨⟨0, (u1.1, u1.2, f2), rfl, hw, by rw [ht]; exact hP, va_K.moved hW.alike hK, hD⟩, hS.F ht⟩) hS.2.2 dX11_readCorners_26
    · have hw := hw.2 hc
      refine lv_iload_n hx hb dX11_readCorners_19 rfl (lv_at hl 0 rfl) ?_
      refine lv_bipush (v := 30) hx hb dX11_readCorners_20 (by decide) ?_
      refine lv_icmp_ne (tgt := 27) hx hb dX11_readCorners_22 (by decide) (fun hc => ?_) (fun hc => ?_)
      · have hw := hw.1 hc
        refine lv_aload_n hx hb dX11_readCorners_27 rfl (lv_at hl 2 rfl) ?_
        refine lv_iconst (v := 0) hx hb dX11_readCorners_28 (by decide) ?_
        refine lv_sipush (v := 999) hx hb dX11_readCorners_29 (by decide) ?_
        have hPc := hP.sub (ws' := (ceX11_number cyI cyB cyJ cyZ a0 a1 a2 b0_image b0_before b0_taken b0_five b0_value b0_far b0_lead b0_walk b0_ends b0_manX b0_manY b0_dogX b0_dogY b0_row b0_round b0_farOne b0_leads b0_drags b0_from b0_near g0_thrown g0_hasImage g0_remembered g0_taped g0_deep g0_faultAt g0_steps g0_men g0_dogs g0_end f1 u1.1 u1.2)) [0, 1] rfl
        have hDc := hD.sub (ws' := (ceX11_number cyI cyB cyJ cyZ a0 a1 a2 b0_image b0_before b0_taken b0_five b0_value b0_far b0_lead b0_walk b0_ends b0_manX b0_manY b0_dogX b0_dogY b0_row b0_round b0_farOne b0_leads b0_drags b0_from b0_near g0_thrown g0_hasImage g0_remembered g0_taped g0_deep g0_faultAt g0_steps g0_men g0_dogs g0_end f1 u1.1 u1.2)) [0, 1] (by decide) rfl
        have hFc := va_free (wc := (ceX11_number cyI cyB cyJ cyZ a0 a1 a2 b0_image b0_before b0_taken b0_five b0_value b0_far b0_lead b0_walk b0_ends b0_manX b0_manY b0_dogX b0_dogY b0_row b0_round b0_farOne b0_leads b0_drags b0_from b0_near g0_thrown g0_hasImage g0_remembered g0_taped g0_deep g0_faultAt g0_steps g0_men g0_dogs g0_end f1 u1.1 u1.2)) hD hS hA [0, 1] rfl
        refine va_calli (va_runV (As := [.int 0, .int 999]) (rest := []) ⟨hx, hb, hml, hown, hts⟩ (ctX11_number l dC dI cyI cyB cyJ cyZ _ a0 a1 a2 b0_image b0_before b0_taken b0_five b0_value b0_far b0_lead b0_walk b0_ends b0_manX b0_manY b0_dogX b0_dogY b0_row b0_round b0_farOne b0_leads b0_drags b0_from b0_near g0_thrown g0_hasImage g0_remembered g0_taped g0_deep g0_faultAt g0_steps g0_men g0_dogs g0_end f1 u1.1 u1.2 0 999 _ hw) (cwV 2 hts gX11_readCorners_X11_number rfl rfl rfl (by decide +kernel) ⟨Nat.le_of_ble_eq_true rfl, Nat.le_of_ble_eq_true rfl⟩) ⟨wPre_blind, va_recv hK hPc (ci := 11) (q0 := 0) rfl rfl, fun U hU hW => wPre_of hPc hK hDc hN hU hW⟩ rfl rfl hl.1 rfl (lv_room (Nat.le_of_ble_eq_true rfl)) dX11_readCorners_32 ⟨(Nat.zero_le _), (Nat.zero_le _)⟩) hS (fun q _ h => hFc q h) hFc (fun r6 u5 t H1 locs ht hvm hw hB hz1 hk1 hS => ?_)
        obtain ⟨hP1, hK1, hD1⟩ := hB
        rw [ht] at hP1
        obtain ⟨hP, hD⟩ := va_join (wr := pickW (ceX11_readCorners cyI cyB cyJ cyZ a0 a1 a2 b0_image b0_before b0_taken b0_five b0_value b0_far b0_lead b0_walk b0_ends b0_manX b0_manY b0_dogX b0_dogY b0_row b0_round b0_farOne b0_leads b0_drags b0_from b0_near g0_thrown g0_hasImage g0_remembered g0_taped g0_deep g0_faultAt g0_steps g0_men g0_dogs g0_end f1 u1.1 u1.2 f2) [2]) (w1 := (ceX11_number cyI cyB cyJ cyZ a0 a1 a2 b0_image b0_before b0_taken b0_five b0_value b0_far b0_lead b0_walk b0_ends b0_manX b0_manY b0_dogX b0_dogY b0_row b0_round b0_farOne b0_leads b0_drags b0_from b0_near g0_thrown g0_hasImage g0_remembered g0_taped g0_deep g0_faultAt g0_steps g0_men g0_dogs g0_end f1 u5.1 u5.2)) hP hD [0, 1] [2] rfl rfl (by decide) (by decide) hk1 hFc hP1 hD1
        have hP := hP.sub (ws' := (ceX11_readCorners cyI cyB cyJ cyZ a0 a1 a2 b0_image b0_before b0_taken b0_five b0_value b0_far b0_lead b0_walk b0_ends b0_manX b0_manY b0_dogX b0_dogY b0_row b0_round b0_farOne b0_leads b0_drags b0_from b0_near g0_thrown g0_hasImage g0_remembered g0_taped g0_deep g0_faultAt g0_steps g0_men g0_dogs g0_end f1 u5.1 u5.2 f2)) [1, 2, 0] rfl
        have hD := hD.sub (ws' := (ceX11_readCorners cyI cyB cyJ cyZ a0 a1 a2 b0_image b0_before b0_taken b0_five b0_value b0_far b0_lead b0_walk b0_ends b0_manX b0_manY b0_dogX b0_dogY b0_row b0_round b0_farOne b0_leads b0_drags b0_from b0_near g0_thrown g0_hasImage g0_remembered g0_taped g0_deep g0_faultAt g0_steps g0_men g0_dogs g0_end f1 u5.1 u5.2 f2)) [1, 2, 0] (by decide) rfl
        generalize H1 = H at hP hS ⊢
        refine lv_istore (lv' := [(4, .int r6), (3, .int r4), (2, .int r2), (0, .ref a0), (1, .int x1)]) hx hb dX11_readCorners_35 hl (by decide) rfl (fun ls hl => ?_)
        refine lv_iload hx hb dX11_readCorners_37 (lv_at hl 0 rfl) ?_
        refine lv_if_ge (tgt := 44) hx hb dX11_readCorners_39 (by decide) (fun hc => ?_) (fun hc => ?_)
        · have hw := hw.1 hc
          refine lv_aload_n hx hb dX11_readCorners_44 rfl (lv_at hl 3 rfl) ?_
          refine va_get (D := (dC, dI)) (ci := 11) (v := .ref a2) (C := RX11) (T := TX11) (N := 34) hx hb hts inX11_readCorners_X11 hown hK hP 0 rfl rfl 1 (by decide) (hts (.fieldLink RX11 13 "LeadParkModel" "world" "[I") (List.mem_of_getElem? (i := 1) rfl)) (fun _ h9 => h9) rfl dX11_readCorners_45 ?_
          refine lv_bipush (v := 14) hx hb dX11_readCorners_48 (by decide) ?_
          refine lv_bipush (v := 61) hx hb dX11_readCorners_50 (by decide) ?_
          refine lv_iload_n hx hb dX11_readCorners_52 rfl (lv_at hl 4 rfl) ?_
          refine lv_imul hx hb dX11_readCorners_53 ?_
          refine lv_iadd hx hb dX11_readCorners_54 ?_
          refine lv_iconst (v := 1) hx hb dX11_readCorners_55 (by decide) ?_
          refine lv_iadd hx hb dX11_readCorners_56 ?_
          refine lv_iconst (v := 2) hx hb dX11_readCorners_57 (by decide) ?_
          refine lv_iload_n hx hb dX11_readCorners_58 rfl (lv_at hl 1 rfl) ?_
          refine lv_imul hx hb dX11_readCorners_59 ?_
          refine lv_iadd hx hb dX11_readCorners_60 ?_
          refine lv_iload_n hx hb dX11_readCorners_61 rfl (lv_at hl 2 rfl) ?_
          obtain ⟨hi, hw⟩ := hw
          refine va_iast hx hb hK hP hD hS 2 0 rfl rfl hi dX11_readCorners_62 (fun H locs hP hD hS => ?_)
          have hP : va_P (dC, dI) vwCl (ceX11_readCorners cyI cyB cyJ cyZ a0 a1 a2 b0_image b0_before b0_taken b0_five b0_value b0_far b0_lead b0_walk b0_ends b0_manX b0_manY b0_dogX b0_dogY b0_row b0_round b0_farOne b0_leads b0_drags b0_from b0_near g0_thrown g0_hasImage g0_remembered g0_taped g0_deep g0_faultAt g0_steps g0_men g0_dogs g0_end f1 u5.1 u5.2 (upd f2 (((14 + (61 * x1)) + 1) + (2 * r4)).toNatClampNeg r2)) H := hP
          have hD : va_D A (ceX11_readCorners cyI cyB cyJ cyZ a0 a1 a2 b0_image b0_before b0_taken b0_five b0_value b0_far b0_lead b0_walk b0_ends b0_manX b0_manY b0_dogX b0_dogY b0_row b0_round b0_farOne b0_leads b0_drags b0_from b0_near g0_thrown g0_hasImage g0_remembered g0_taped g0_deep g0_faultAt g0_steps g0_men g0_dogs g0_end f1 u5.1 u5.2 (upd f2 (((14 + (61 * x1)) + 1) + (2 * r4)).toNatClampNeg r2)) := hD
          refine lv_aload_n hx hb dX11_readCorners_63 rfl (lv_at hl 3 rfl) ?_
          refine va_get (D := (dC, dI)) (ci := 11) (v := .ref a2) (C := RX11) (T := TX11) (N := 34) hx hb hts inX11_readCorners_X11 hown hK hP 0 rfl rfl 1 (by decide) (hts (.fieldLink RX11 13 "LeadParkModel" "world" "[I") (List.mem_of_getElem? (i := 1) rfl)) (fun _ h9 => h9) rfl dX11_readCorners_64 ?_
          refine lv_bipush (v := 14) hx hb dX11_readCorners_67 (by decide) ?_
          refine lv_bipush (v := 61) hx hb dX11_readCorners_69 (by decide) ?_
          refine lv_iload_n hx hb dX11_readCorners_71 rfl (lv_at hl 4 rfl) ?_
          refine lv_imul hx hb dX11_readCorners_72 ?_
          refine lv_iadd hx hb dX11_readCorners_73 ?_
          refine lv_iconst (v := 2) hx hb dX11_readCorners_74 (by decide) ?_
          refine lv_iadd hx hb dX11_readCorners_75 ?_
          refine lv_iconst (v := 2) hx hb dX11_readCorners_76 (by decide) ?_
          refine lv_iload_n hx hb dX11_readCorners_77 rfl (lv_at hl 1 rfl) ?_
          refine lv_imul hx hb dX11_readCorners_78 ?_
          refine lv_iadd hx hb dX11_readCorners_79 ?_
          refine lv_iload hx hb dX11_readCorners_80 (lv_at hl 0 rfl) ?_
          obtain ⟨hi, hw⟩ := hw
          refine va_iast hx hb hK hP hD hS 2 0 rfl rfl hi dX11_readCorners_82 (fun H locs hP hD hS => ?_)
          have hP : va_P (dC, dI) vwCl (ceX11_readCorners cyI cyB cyJ cyZ a0 a1 a2 b0_image b0_before b0_taken b0_five b0_value b0_far b0_lead b0_walk b0_ends b0_manX b0_manY b0_dogX b0_dogY b0_row b0_round b0_farOne b0_leads b0_drags b0_from b0_near g0_thrown g0_hasImage g0_remembered g0_taped g0_deep g0_faultAt g0_steps g0_men g0_dogs g0_end f1 u5.1 u5.2 (upd (upd f2 (((14 + (61 * x1)) + 1) + (2 * r4)).toNatClampNeg r2) (((14 + (61 * x1)) + 2) + (2 * r4)).toNatClampNeg r6)) H := hP
          have hD : va_D A (ceX11_readCorners cyI cyB cyJ cyZ a0 a1 a2 b0_image b0_before b0_taken b0_five b0_value b0_far b0_lead b0_walk b0_ends b0_manX b0_manY b0_dogX b0_dogY b0_row b0_round b0_farOne b0_leads b0_drags b0_from b0_near g0_thrown g0_hasImage g0_remembered g0_taped g0_deep g0_faultAt g0_steps g0_men g0_dogs g0_end f1 u5.1 u5.2 (upd (upd f2 (((14 + (61 * x1)) + 1) + (2 * r4)).toNatClampNeg r2) (((14 + (61 * x1)) + 2) + (2 * r4)).toNatClampNeg r6)) := hD
          refine lv_aload_n hx hb dX11_readCorners_83 rfl (lv_at hl 3 rfl) ?_
          refine va_get (D := (dC, dI)) (ci := 11) (v := .ref a2) (C := RX11) (T := TX11) (N := 34) hx hb hts inX11_readCorners_X11 hown hK hP 0 rfl rfl 1 (by decide) (hts (.fieldLink RX11 13 "LeadParkModel" "world" "[I") (List.mem_of_getElem? (i := 1) rfl)) (fun _ h9 => h9) rfl dX11_readCorners_84 ?_
          refine lv_bipush (v := 14) hx hb dX11_readCorners_87 (by decide) ?_
          refine lv_bipush (v := 61) hx hb dX11_readCorners_89 (by decide) ?_
          refine lv_iload_n hx hb dX11_readCorners_91 rfl (lv_at hl 4 rfl) ?_
          refine lv_imul hx hb dX11_readCorners_92 ?_
          refine lv_iadd hx hb dX11_readCorners_93 ?_
          refine lv_dup2_11 hx hb dX11_readCorners_94 rfl rfl ?_
          obtain ⟨hi, hw⟩ := hw
          refine va_iald hx hb hK hP 2 0 rfl rfl hi dX11_readCorners_95 ?_
          refine lv_iconst (v := 1) hx hb dX11_readCorners_96 (by decide) ?_
          refine lv_iadd hx hb dX11_readCorners_97 ?_
          obtain ⟨hi, hw⟩ := hw
          refine va_iast hx hb hK hP hD hS 2 0 rfl rfl hi dX11_readCorners_98 (fun H locs hP hD hS => ?_)
          have hP : va_P (dC, dI) vwCl (ceX11_readCorners cyI cyB cyJ cyZ a0 a1 a2 b0_image b0_before b0_taken b0_five b0_value b0_far b0_lead b0_walk b0_ends b0_manX b0_manY b0_dogX b0_dogY b0_row b0_round b0_farOne b0_leads b0_drags b0_from b0_near g0_thrown g0_hasImage g0_remembered g0_taped g0_deep g0_faultAt g0_steps g0_men g0_dogs g0_end f1 u5.1 u5.2 (upd (upd (upd f2 (((14 + (61 * x1)) + 1) + (2 * r4)).toNatClampNeg r2) (((14 + (61 * x1)) + 2) + (2 * r4)).toNatClampNeg r6) (14 + (61 * x1)).toNatClampNeg (((upd (upd f2 (((14 + (61 * x1)) + 1) + (2 * r4)).toNatClampNeg r2) (((14 + (61 * x1)) + 2) + (2 * r4)).toNatClampNeg r6) (14 + (61 * x1)).toNatClampNeg) + 1))) H := hP
          have hD : va_D A (ceX11_readCorners cyI cyB cyJ cyZ a0 a1 a2 b0_image b0_before b0_taken b0_five b0_value b0_far b0_lead b0_walk b0_ends b0_manX b0_manY b0_dogX b0_dogY b0_row b0_round b0_farOne b0_leads b0_drags b0_from b0_near g0_thrown g0_hasImage g0_remembered g0_taped g0_deep g0_faultAt g0_steps g0_men g0_dogs g0_end f1 u5.1 u5.2 (upd (upd (upd f2 (((14 + (61 * x1)) + 1) + (2 * r4)).toNatClampNeg r2) (((14 + (61 * x1)) + 2) + (2 * r4)).toNatClampNeg r6) (14 + (61 * x1)).toNatClampNeg (((upd (upd f2 (((14 + (61 * x1)) + 1) + (2 * r4)).toNatClampNeg r2) (((14 + (61 * x1)) + 2) + (2 * r4)).toNatClampNeg r6) (14 + (61 * x1)).toNatClampNeg) + 1))) := hD
          refine lv_aload_n hx hb dX11_readCorners_99 rfl (lv_at hl 3 rfl) ?_
          have hPc := hP.sub (ws' := (ceX11_blanks cyI cyB cyJ cyZ a0 a1 a2 b0_image b0_before b0_taken b0_five b0_value b0_far b0_lead b0_walk b0_ends b0_manX b0_manY b0_dogX b0_dogY b0_row b0_round b0_farOne b0_leads b0_drags b0_from b0_near g0_thrown g0_hasImage g0_remembered g0_taped g0_deep g0_faultAt g0_steps g0_men g0_dogs g0_end f1 u5.1 u5.2)) [0, 1] rfl
          have hDc := hD.sub (ws' := (ceX11_blanks cyI cyB cyJ cyZ a0 a1 a2 b0_image b0_before b0_taken b0_five b0_value b0_far b0_lead b0_walk b0_ends b0_manX b0_manY b0_dogX b0_dogY b0_row b0_round b0_farOne b0_leads b0_drags b0_from b0_near g0_thrown g0_hasImage g0_remembered g0_taped g0_deep g0_faultAt g0_steps g0_men g0_dogs g0_end f1 u5.1 u5.2)) [0, 1] (by decide) rfl
          have hFc := va_free (wc := (ceX11_blanks cyI cyB cyJ cyZ a0 a1 a2 b0_image b0_before b0_taken b0_five b0_value b0_far b0_lead b0_walk b0_ends b0_manX b0_manY b0_dogX b0_dogY b0_row b0_round b0_farOne b0_leads b0_drags b0_from b0_near g0_thrown g0_hasImage g0_remembered g0_taped g0_deep g0_faultAt g0_steps g0_men g0_dogs g0_end f1 u5.1 u5.2)) hD hS hA [0, 1] rfl
          refine va_callv (va_runV (As := []) (rest := []) ⟨hx, hb, hml, hown, hts⟩ (ctX11_blanks l dC dI cyI cyB cyJ cyZ _ a0 a1 a2 b0_image b0_before b0_taken b0_five b0_value b0_far b0_lead b0_walk b0_ends b0_manX b0_manY b0_dogX b0_dogY b0_row b0_round b0_farOne b0_leads b0_drags b0_from b0_near g0_thrown g0_hasImage g0_remembered g0_taped g0_deep g0_faultAt g0_steps g0_men g0_dogs g0_end f1 u5.1 u5.2 _ hw) (cwV 0 hts gX11_readCorners_X11_blanks rfl rfl rfl (by decide +kernel) ⟨Nat.le_of_ble_eq_true rfl, Nat.le_of_ble_eq_true rfl⟩) ⟨wPre_blind, va_recv hK hPc (ci := 11) (q0 := 0) rfl rfl, fun U hU hW => wPre_of hPc hK hDc hN hU hW⟩ rfl rfl hl.1 rfl (lv_room (Nat.le_of_ble_eq_true rfl)) dX11_readCorners_100 ⟨(Nat.zero_le _), (Nat.zero_le _)⟩) hS (fun q _ h => hFc q h) hFc (fun u7 t H1 locs ht hvm hw hB hz1 hk1 hS => ?_)
          obtain ⟨hP1, hK1, hD1⟩ := hB
          rw [ht] at hP1
          obtain ⟨hP, hD⟩ := va_join (wr := pickW (ceX11_readCorners cyI cyB cyJ cyZ a0 a1 a2 b0_image b0_before b0_taken b0_five b0_value b0_far b0_lead b0_walk b0_ends b0_manX b0_manY b0_dogX b0_dogY b0_row b0_round b0_farOne b0_leads b0_drags b0_from b0_near g0_thrown g0_hasImage g0_remembered g0_taped g0_deep g0_faultAt g0_steps g0_men g0_dogs g0_end f1 u5.1 u5.2 (upd (upd (upd f2 (((14 + (61 * x1)) + 1) + (2 * r4)).toNatClampNeg r2) (((14 + (61 * x1)) + 2) + (2 * r4)).toNatClampNeg r6) (14 + (61 * x1)).toNatClampNeg (((upd (upd f2 (((14 + (61 * x1)) + 1) + (2 * r4)).toNatClampNeg r2) (((14 + (61 * x1)) + 2) + (2 * r4)).toNatClampNeg r6) (14 + (61 * x1)).toNatClampNeg) + 1))) [2]) (w1 := (ceX11_blanks cyI cyB cyJ cyZ a0 a1 a2 b0_image b0_before b0_taken b0_five b0_value b0_far b0_lead b0_walk b0_ends b0_manX b0_manY b0_dogX b0_dogY b0_row b0_round b0_farOne b0_leads b0_drags b0_from b0_near g0_thrown g0_hasImage g0_remembered g0_taped g0_deep g0_faultAt g0_steps g0_men g0_dogs g0_end f1 u7.1 u7.2)) hP hD [0, 1] [2] rfl rfl (by decide) (by decide) hk1 hFc hP1 hD1
          have hP := hP.sub (ws' := (ceX11_readCorners cyI cyB cyJ cyZ a0 a1 a2 b0_image b0_before b0_taken b0_five b0_value b0_far b0_lead b0_walk b0_ends b0_manX b0_manY b0_dogX b0_dogY b0_row b0_round b0_farOne b0_leads b0_drags b0_from b0_near g0_thrown g0_hasImage g0_remembered g0_taped g0_deep g0_faultAt g0_steps g0_men g0_dogs g0_end f1 u7.1 u7.2 (upd (upd (upd f2 (((14 + (61 * x1)) + 1) + (2 * r4)).toNatClampNeg r2) (((14 + (61 * x1)) + 2) + (2 * r4)).toNatClampNeg r6) (14 + (61 * x1)).toNatClampNeg (((upd (upd f2 (((14 + (61 * x1)) + 1) + (2 * r4)).toNatClampNeg r2) (((14 + (61 * x1)) + 2) + (2 * r4)).toNatClampNeg r6) (14 + (61 * x1)).toNatClampNeg) + 1)))) [1, 2, 0] rfl
          have hD := hD.sub (ws' := (ceX11_readCorners cyI cyB cyJ cyZ a0 a1 a2 b0_image b0_before b0_taken b0_five b0_value b0_far b0_lead b0_walk b0_ends b0_manX b0_manY b0_dogX b0_dogY b0_row b0_round b0_farOne b0_leads b0_drags b0_from b0_near g0_thrown g0_hasImage g0_remembered g0_taped g0_deep g0_faultAt g0_steps g0_men g0_dogs g0_end f1 u7.1 u7.2 (upd (upd (upd f2 (((14 + (61 * x1)) + 1) + (2 * r4)).toNatClampNeg r2) (((14 + (61 * x1)) + 2) + (2 * r4)).toNatClampNeg r6) (14 + (61 * x1)).toNatClampNeg (((upd (upd f2 (((14 + (61 * x1)) + 1) + (2 * r4)).toNatClampNeg r2) (((14 + (61 * x1)) + 2) + (2 * r4)).toNatClampNeg r6) (14 + (61 * x1)).toNatClampNeg) + 1)))) [1, 2, 0] (by decide) rfl
          generalize H1 = H at hP hS ⊢
          refine lv_aload_n hx hb dX11_readCorners_103 rfl (lv_at hl 3 rfl) ?_
          refine lv_bipush (v := 48) hx hb dX11_readCorners_104 (by decide) ?_
          refine lv_bipush (v := 57) hx hb dX11_readCorners_106 (by decide) ?_
          have hPc := hP.sub (ws' := (ceX11_isAt cyI cyB cyJ cyZ a0 a1 a2 b0_image b0_before b0_taken b0_five b0_value b0_far b0_lead b0_walk b0_ends b0_manX b0_manY b0_dogX b0_dogY b0_row b0_round b0_farOne b0_leads b0_drags b0_from b0_near g0_thrown g0_hasImage g0_remembered g0_taped u7.2 g0_deep g0_faultAt g0_steps g0_men g0_dogs u7.1 g0_end f1)) [0, 1] rfl
          have hDc := hD.sub (ws' := (ceX11_isAt cyI cyB cyJ cyZ a0 a1 a2 b0_image b0_before b0_taken b0_five b0_value b0_far b0_lead b0_walk b0_ends b0_manX b0_manY b0_dogX b0_dogY b0_row b0_round b0_farOne b0_leads b0_drags b0_from b0_near g0_thrown g0_hasImage g0_remembered g0_taped u7.2 g0_deep g0_faultAt g0_steps g0_men g0_dogs u7.1 g0_end f1)) [0, 1] (by decide) rfl
          have hFc := va_free (wc := (ceX11_isAt cyI cyB cyJ cyZ a0 a1 a2 b0_image b0_before b0_taken b0_five b0_value b0_far b0_lead b0_walk b0_ends b0_manX b0_manY b0_dogX b0_dogY b0_row b0_round b0_farOne b0_leads b0_drags b0_from b0_near g0_thrown g0_hasImage g0_remembered g0_taped u7.2 g0_deep g0_faultAt g0_steps g0_men g0_dogs u7.1 g0_end f1)) hD hS hA [0, 1] rfl
          refine va_calli (va_runV (As := [.int 48, .int 57]) (rest := []) ⟨hx, hb, hml, hown, hts⟩ (ctX11_isAt l dC dI cyI cyB cyJ cyZ _ a0 a1 a2 b0_image b0_before b0_taken b0_five b0_value b0_far b0_lead b0_walk b0_ends b0_manX b0_manY b0_dogX b0_dogY b0_row b0_round b0_farOne b0_leads b0_drags b0_from b0_near g0_thrown g0_hasImage g0_remembered g0_taped u7.2 g0_deep g0_faultAt g0_steps g0_men g0_dogs u7.1 g0_end f1 48 57 _ hw) (cwV 2 hts gX11_readCorners_X11_isAt rfl rfl rfl (by decide +kernel) ⟨Nat.le_of_ble_eq_true rfl, Nat.le_of_ble_eq_true rfl⟩) ⟨wPre_blind, va_recv hK hPc (ci := 11) (q0 := 0) rfl rfl, fun U hU hW => wPre_of hPc hK hDc hN hU hW⟩ rfl rfl hl.1 rfl (lv_room (Nat.le_of_ble_eq_true rfl)) dX11_readCorners_108 ⟨(Nat.zero_le _), (Nat.zero_le _)⟩) hS (fun q _ h => hFc q h) hFc (fun r9 u8 t H1 locs ht hvm hw hB hz1 hk1 hS => ?_)
          obtain ⟨hP1, hK1, hD1⟩ := hB
          rw [ht] at hP1
          obtain ⟨hP, hD⟩ := va_join (wr := pickW (ceX11_readCorners cyI cyB cyJ cyZ a0 a1 a2 b0_image b0_before b0_taken b0_five b0_value b0_far b0_lead b0_walk b0_ends b0_manX b0_manY b0_dogX b0_dogY b0_row b0_round b0_farOne b0_leads b0_drags b0_from b0_near g0_thrown g0_hasImage g0_remembered g0_taped g0_deep g0_faultAt g0_steps g0_men g0_dogs g0_end f1 u7.1 u7.2 (upd (upd (upd f2 (((14 + (61 * x1)) + 1) + (2 * r4)).toNatClampNeg r2) (((14 + (61 * x1)) + 2) + (2 * r4)).toNatClampNeg r6) (14 + (61 * x1)).toNatClampNeg (((upd (upd f2 (((14 + (61 * x1)) + 1) + (2 * r4)).toNatClampNeg r2) (((14 + (61 * x1)) + 2) + (2 * r4)).toNatClampNeg r6) (14 + (61 * x1)).toNatClampNeg) + 1))) [2]) (w1 := (ceX11_isAt cyI cyB cyJ cyZ a0 a1 a2 b0_image b0_before b0_taken b0_five b0_value b0_far b0_lead b0_walk b0_ends b0_manX b0_manY b0_dogX b0_dogY b0_row b0_round b0_farOne b0_leads b0_drags b0_from b0_near g0_thrown g0_hasImage g0_remembered g0_taped u7.2 g0_deep g0_faultAt g0_steps g0_men g0_dogs u7.1 g0_end f1)) hP hD [0, 1] [2] rfl rfl (by decide) (by decide) hk1 hFc hP1 hD1
          have hP := hP.sub (ws' := (ceX11_readCorners cyI cyB cyJ cyZ a0 a1 a2 b0_image b0_before b0_taken b0_five b0_value b0_far b0_lead b0_walk b0_ends b0_manX b0_manY b0_dogX b0_dogY b0_row b0_round b0_farOne b0_leads b0_drags b0_from b0_near g0_thrown g0_hasImage g0_remembered g0_taped g0_deep g0_faultAt g0_steps g0_men g0_dogs g0_end f1 u7.1 u7.2 (upd (upd (upd f2 (((14 + (61 * x1)) + 1) + (2 * r4)).toNatClampNeg r2) (((14 + (61 * x1)) + 2) + (2 * r4)).toNatClampNeg r6) (14 + (61 * x1)).toNatClampNeg (((upd (upd f2 (((14 + (61 * x1)) + 1) + (2 * r4)).toNatClampNeg r2) (((14 + (61 * x1)) + 2) + (2 * r4)).toNatClampNeg r6) (14 + (61 * x1)).toNatClampNeg) + 1)))) [1, 2, 0] rfl
          have hD := hD.sub (ws' := (ceX11_readCorners cyI cyB cyJ cyZ a0 a1 a2 b0_image b0_before b0_taken b0_five b0_value b0_far b0_lead b0_walk b0_ends b0_manX b0_manY b0_dogX b0_dogY b0_row b0_round b0_farOne b0_leads b0_drags b0_from b0_near g0_thrown g0_hasImage g0_remembered g0_taped g0_deep g0_faultAt g0_steps g0_men g0_dogs g0_end f1 u7.1 u7.2 (upd (upd (upd f2 (((14 + (61 * x1)) + 1) + (2 * r4)).toNatClampNeg r2) (((14 + (61 * x1)) + 2) + (2 * r4)).toNatClampNeg r6) (14 + (61 * x1)).toNatClampNeg (((upd (upd f2 (((14 + (61 * x1)) + 1) + (2 * r4)).toNatClampNeg r2) (((14 + (61 * x1)) + 2) + (2 * r4)).toNatClampNeg r6) (14 + (61 * x1)).toNatClampNeg) + 1)))) [1, 2, 0] (by decide) rfl
          generalize H1 = H at hP hS ⊢
          refine lv_if_ne (tgt := 0) hx hb dX11_readCorners_111 (by decide) (fun hc => ?_) (fun hc => ?_)
          · have hw := hw.1 hc
            exact ih u7.1 u7.2 (upd (upd (upd f2 (((14 + (61 * x1)) + 1) + (2 * r4)).toNatClampNeg r2) (((14 + (61 * x1)) + 2) + (2 * r4)).toNatClampNeg r6) (14 + (61 * x1)).toNatClampNeg (((upd (upd f2 (((14 + (61 * x1)) + 1) + (2 * r4)).toNatClampNeg r2) (((14 + (61 * x1)) + 2) + (2 * r4)).toNatClampNeg r6) (14 + (61 * x1)).toNatClampNeg) + 1)) x1 hw H locs hP hD hS ls (lv_sub hl [3, 4] rfl)
          · have hw := hw.2 hc
            refine lv_iconst (v := 1) hx hb dX11_readCorners_114 (by decide) ?_
            rw [hQ]
            exact W.zret (v := 1) (ty := .boolean) hx hb hr rfl (fun t ht hW => ⟨⟨1, (u7.1, u7.2, (upd (upd (upd f2 (((14 + (61 * x1)) + 1) + (2 * r4)).toNatClampNeg r2) (((14 + (61 * x1)) + 2) + (2 * r4)).toNatClampNeg r6) (14 + (61 * x1)).toNatClampNeg (((upd (upd f2 (((14 + (61 * x1)) + 1) + (2 * r4)).toNatClampNeg r2) (((14 + (61 * x1)) + 2) + (2 * r4)).toNatClampNeg r6) (14 + (61 * x1)).toNatClampNeg) + 1))), rfl, hw, by rw [ht]; exact hP, va_K.moved hW.alike hK, hD⟩, hS.F ht⟩) hS.2.2 dX11_readCorners_115
        · have hw := hw.2 hc
          refine lv_iconst (v := 0) hx hb dX11_readCorners_42 (by decide) ?_
          rw [hQ]
          exact W.zret (v := 0) (ty := .boolean) hx hb hr rfl (fun t ht hW => ⟨⟨0, (u5.1, u5.2, f2), rfl, hw, by rw [ht]; exact hP, va_K.moved hW.alike hK, hD⟩, hS.F ht⟩) hS.2.2 dX11_readCorners_43
      · have hw := hw.2 hc
        refine lv_iconst (v := 0) hx hb dX11_readCorners_25 (by decide) ?_
        rw [hQ]
        exact W.zret (v := 0) (ty := .boolean) hx hb hr rfl (fun t ht hW => ⟨⟨0, (u1.1, u1.2, f2), rfl, hw, by rw [ht]; exact hP, va_K.moved hW.alike hK, hD⟩, hS.F ht⟩) hS.2.2 dX11_readCorners_26
set_option maxRecDepth 100000 in
set_option maxHeartbeats 4000000 in
theorem ctX11_readCorners (l : Launch) (dC : Nat → ClassId) (dI : Nat → Nat → Nat) (cyI cyB cyJ cyZ : ClassId) (sz : Nat) (a0 a1 a2 b0_image b0_before b0_taken b0_five b0_value b0_far b0_lead b0_walk b0_ends b0_manX b0_manY b0_dogX b0_dogY b0_row b0_round b0_farOne b0_leads b0_drags b0_from b0_near : Nat) (g0_thrown : Int32) (g0_hasImage : Int32) (g0_remembered : Int32) (g0_taped : Int32) (g0_deep : Int32) (g0_faultAt : Int32) (g0_steps : Int32) (g0_men : Int32) (g0_dogs : Int32) (g0_end : Int32) (f1 : Nat → Int32) (g0_point : Int32) (g0_begin : Int32) (f2 : Nat → Int32) (p0 : Int32) (post : Int32 → (Int32 × Int32 × (Nat → Int32)) → Prop) (hw : wpX11_readCorners post g0_end f1 g0_point g0_begin f2 p0) : Met l yX11_readCorners wsX11_readCorners rmX11_readCorners (va_Pc [.ref a0, .int p0] (wPre dC dI cyI cyB cyJ cyZ sz (ceX11_readCorners cyI cyB cyJ cyZ a0 a1 a2 b0_image b0_before b0_taken b0_five b0_value b0_far b0_lead b0_walk b0_ends b0_manX b0_manY b0_dogX b0_dogY b0_row b0_round b0_farOne b0_leads b0_drags b0_from b0_near g0_thrown g0_hasImage g0_remembered g0_taped g0_deep g0_faultAt g0_steps g0_men g0_dogs g0_end f1 g0_point g0_begin f2))) (va_Qi post (fun u : Int32 × Int32 × (Nat → Int32) => wAt dC dI cyI cyB cyJ cyZ (va_A (ceX11_readCorners cyI cyB cyJ cyZ a0 a1 a2 b0_image b0_before b0_taken b0_five b0_value b0_far b0_lead b0_walk b0_ends b0_manX b0_manY b0_dogX b0_dogY b0_row b0_round b0_farOne b0_leads b0_drags b0_from b0_near g0_thrown g0_hasImage g0_remembered g0_taped g0_deep g0_faultAt g0_steps g0_men g0_dogs g0_end f1 g0_point g0_begin f2) sz) (ceX11_readCorners cyI cyB cyJ cyZ a0 a1 a2 b0_image b0_before b0_taken b0_five b0_value b0_far b0_lead b0_walk b0_ends b0_manX b0_manY b0_dogX b0_dogY b0_row b0_round b0_farOne b0_leads b0_drags b0_from b0_near g0_thrown g0_hasImage g0_remembered g0_taped g0_deep g0_faultAt g0_steps g0_men g0_dogs g0_end f1 u.1 u.2.1 u.2.2)) (va_A (ceX11_readCorners cyI cyB cyJ cyZ a0 a1 a2 b0_image b0_before b0_taken b0_five b0_value b0_far b0_lead b0_walk b0_ends b0_manX b0_manY b0_dogX b0_dogY b0_row b0_round b0_farOne b0_leads b0_drags b0_from b0_near g0_thrown g0_hasImage g0_remembered g0_taped g0_deep g0_faultAt g0_steps g0_men g0_dogs g0_end f1 g0_point g0_begin f2) sz)) 0 0 (va_A (ceX11_readCorners cyI cyB cyJ cyZ a0 a1 a2 b0_image b0_before b0_taken b0_five b0_value b0_far b0_lead b0_walk b0_ends b0_manX b0_manY b0_dogX b0_dogY b0_row b0_round b0_farOne b0_leads b0_drags b0_from b0_near g0_thrown g0_hasImage g0_remembered g0_taped g0_deep g0_faultAt g0_steps g0_men g0_dogs g0_end f1 g0_point g0_begin f2) sz) := by
  refine Met.ofW (cc := cX11_readCorners) (maxL := 5) (ret := (some .boolean)) (by decide) rfl ?_
  intro p e s m args below meth c s₁ B hml hv
  obtain ⟨rfl, hsz, hP, hK, hD0, hN⟩ := hv
  have hx := B.exec
  have hb := B.bytes
  have hr := B.returns
  have hts := atoms_spec (ws := wsX11_readCorners) B.pre
  have hown : s.vm.findClass RX11 = some m.cls := findClass_of_methodNamed B.named
  have hlocks := B.notSynchronized
  subst hsz
  have hD := hD0.self (sz := s.heap.size)
  generalize hAe : va_A (ceX11_readCorners cyI cyB cyJ cyZ a0 a1 a2 b0_image b0_before b0_taken b0_five b0_value b0_far b0_lead b0_walk b0_ends b0_manX b0_manY b0_dogX b0_dogY b0_row b0_round b0_farOne b0_leads b0_drags b0_from b0_near g0_thrown g0_hasImage g0_remembered g0_taped g0_deep g0_faultAt g0_steps g0_men g0_dogs g0_end f1 g0_point g0_begin f2) s.heap.size = A at hD ⊢
  have hA : ∀ q : Nat, s.heap.size ≤ q → A q := fun q h => by rw [← hAe]; exact Or.inr h
  have hS : va_S A s.heap s.heap [] := va_S.rf
  have C0 : cxM p s m meth c _ wsX11_readCorners RX11 cX11_readCorners 5 (some .boolean) := ⟨hx, hb, hr, hml, hown, hts, hlocks⟩
  have hl := lv_entry ([.ref a0, .int p0]) (n := 5) (Nat.le_of_ble_eq_true rfl)
  rw [lg_entry_eq]
  generalize (lg_sl ([.ref a0, .int p0]) ++ List.replicate (5 - (lg_sl ([.ref a0, .int p0])).length) Slot.unset).toArray = ls at hl ⊢
  have hl : lv_has ls 5 [(0, .ref a0), (1, .int p0)] := hl
  show W p l e rmX11_readCorners s m _ below meth c _ _ _ _ _ _
  refine wq (fun Q hQ => ?_)
  obtain ⟨nn, hw⟩ := hw
  exact bX11_readCorners_0 C0 hK hN hA hQ nn g0_point g0_begin f2 p0 hw _ _ hP hD hS ls (lv_sub hl [0, 1] rfl)
/-! LeadParkModel.readWay ()Z -/
abbrev ceX11_readWay (cyI cyB cyJ cyZ : ClassId) (a0 a1 a2 b0_image b0_before b0_taken b0_five b0_value b0_far b0_lead b0_walk b0_ends b0_manX b0_manY b0_dogX b0_dogY b0_row b0_round b0_farOne b0_leads b0_drags b0_from b0_near : Nat) (g0_thrown : Int32) (g0_hasImage : Int32) (g0_remembered : Int32) (g0_taped : Int32) (g0_deep : Int32) (g0_faultAt : Int32) (g0_steps : Int32) (g0_men : Int32) (g0_dogs : Int32) (g0_end : Int32) (f2 : Nat → Int32) (g0_point : Int32) (g0_begin : Int32) (f1 : Nat → Int32) : va_W := [(a0, .inr (11, [.int g0_thrown, .ref a1, .ref b0_image, .ref b0_before, .int g0_hasImage, .ref b0_taken, .int g0_remembered, .ref a2, .int g0_taped, .int g0_point, .int g0_end, .int g0_begin, .int g0_deep, .int g0_faultAt, .ref b0_five, .int g0_steps, .ref b0_value, .ref b0_far, .int g0_men, .int g0_dogs, .ref b0_lead, .ref b0_walk, .ref b0_ends, .ref b0_manX, .ref b0_manY, .ref b0_dogX, .ref b0_dogY, .ref b0_row, .ref b0_round, .ref b0_farOne, .ref b0_leads, .ref b0_drags, .ref b0_from, .ref b0_near])), (a1, .inl (cyI, 2508, .inl f1)), (a2, .inl (cyB, 400, .inl f2))]

theorem inX11_readWay_X11 : ∀ w ∈ wsX110, w ∈ wsX11_readWay := fun _ h => List.mem_cons_of_mem _ (List.mem_append_right _ h)
abbrev rmX11_readWay : Room := { frames := 5, cells := 0, slots := 0, locals := 112 }
def wpX11_readWay (post : Int32 → (Int32 × Int32 × (Nat → Int32)) → Prop) (g0_end : Int32) (f2 : Nat → Int32) (g0_point : Int32) (g0_begin : Int32) (f1 : Nat → Int32) : Prop :=
  wpX11_ways (fun (r2 : Int32) (u1 : Unit) =>
   (¬ r2 = 12 →
    vp_in (14 + (61 * r2)) 2508 ∧
    vp_in 0 2508 ∧
    vp_in 0 2508 ∧
    wpX11_readCorners (fun (r4 : Int32) (u3 : Int32 × Int32 × (Nat → Int32)) =>
     (r4 = 0 ∨ r4 = 1) ∧ post r4 (u3.1, u3.2.1, u3.2.2)) g0_end f2 g0_point g0_begin (upd (upd f1 (14 + (61 * r2)).toNatClampNeg 0) (0 : Int32).toNatClampNeg (((upd f1 (14 + (61 * r2)).toNatClampNeg 0) (0 : Int32).toNatClampNeg) + 1)) r2) ∧
   (r2 = 12 →
    post 0 (g0_point, g0_begin, f1))) f1
set_option maxRecDepth 100000 in
set_option maxHeartbeats 4000000 in
theorem ctX11_readWay (l : Launch) (dC : Nat → ClassId) (dI : Nat → Nat → Nat) (cyI cyB cyJ cyZ : ClassId) (sz : Nat) (a0 a1 a2 b0_image b0_before b0_taken b0_five b0_value b0_far b0_lead b0_walk b0_ends b0_manX b0_manY b0_dogX b0_dogY b0_row b0_round b0_farOne b0_leads b0_drags b0_from b0_near : Nat) (g0_thrown : Int32) (g0_hasImage : Int32) (g0_remembered : Int32) (g0_taped : Int32) (g0_deep : Int32) (g0_faultAt : Int32) (g0_steps : Int32) (g0_men : Int32) (g0_dogs : Int32) (g0_end : Int32) (f2 : Nat → Int32) (g0_point : Int32) (g0_begin : Int32) (f1 : Nat → Int32) (post : Int32 → (Int32 × Int32 × (Nat → Int32)) → Prop) (hw : wpX11_readWay post g0_end f2 g0_point g0_begin f1 ) : Met l yX11_readWay wsX11_readWay rmX11_readWay (va_Pc [.ref a0] (wPre dC dI cyI cyB cyJ cyZ sz (ceX11_readWay cyI cyB cyJ cyZ a0 a1 a2 b0_image b0_before b0_taken b0_five b0_value b0_far b0_lead b0_walk b0_ends b0_manX b0_manY b0_dogX b0_dogY b0_row b0_round b0_farOne b0_leads b0_drags b0_from b0_near g0_thrown g0_hasImage g0_remembered g0_taped g0_deep g0_faultAt g0_steps g0_men g0_dogs g0_end f2 g0_point g0_begin f1))) (va_Qi post (fun u : Int32 × Int32 × (Nat → Int32) => wAt dC dI cyI cyB cyJ cyZ (va_A (ceX11_readWay cyI cyB cyJ cyZ a0 a1 a2 b0_image b0_before b0_taken b0_five b0_value b0_far b0_lead b0_walk b0_ends b0_manX b0_manY b0_dogX b0_dogY b0_row b0_round b0_farOne b0_leads b0_drags b0_from b0_near g0_thrown g0_hasImage g0_remembered g0_taped g0_deep g0_faultAt g0_steps g0_men g0_dogs g0_end f2 g0_point g0_begin f1) sz) (ceX11_readWay cyI cyB cyJ cyZ a0 a1 a2 b0_image b0_before b0_taken b0_five b0_value b0_far b0_lead b0_walk b0_ends b0_manX b0_manY b0_dogX b0_dogY b0_row b0_round b0_farOne b0_leads b0_drags b0_from b0_near g0_thrown g0_hasImage g0_remembered g0_taped g0_deep g0_faultAt g0_steps g0_men g0_dogs g0_end f2 u.1 u.2.1 u.2.2)) (va_A (ceX11_readWay cyI cyB cyJ cyZ a0 a1 a2 b0_image b0_before b0_taken b0_five b0_value b0_far b0_lead b0_walk b0_ends b0_manX b0_manY b0_dogX b0_dogY b0_row b0_round b0_farOne b0_leads b0_drags b0_from b0_near g0_thrown g0_hasImage g0_remembered g0_taped g0_deep g0_faultAt g0_steps g0_men g0_dogs g0_end f2 g0_point g0_begin f1) sz)) 0 0 (va_A (ceX11_readWay cyI cyB cyJ cyZ a0 a1 a2 b0_image b0_before b0_taken b0_five b0_value b0_far b0_lead b0_walk b0_ends b0_manX b0_manY b0_dogX b0_dogY b0_row b0_round b0_farOne b0_leads b0_drags b0_from b0_near g0_thrown g0_hasImage g0_remembered g0_taped g0_deep g0_faultAt g0_steps g0_men g0_dogs g0_end f2 g0_point g0_begin f1) sz) := by
  refine Met.ofW (cc := cX11_readWay) (maxL := 2) (ret := (some .boolean)) (by decide) rfl ?_
  intro p e s m args below meth c s₁ B hml hv
  obtain ⟨rfl, hsz, hP, hK, hD0, hN⟩ := hv
  have hx := B.exec
  have hb := B.bytes
  have hr := B.returns
  have hts := atoms_spec (ws := wsX11_readWay) B.pre
  have hown : s.vm.findClass RX11 = some m.cls := findClass_of_methodNamed B.named
  have hlocks := B.notSynchronized
  subst hsz
  have hD := hD0.self (sz := s.heap.size)
  generalize hAe : va_A (ceX11_readWay cyI cyB cyJ cyZ a0 a1 a2 b0_image b0_before b0_taken b0_five b0_value b0_far b0_lead b0_walk b0_ends b0_manX b0_manY b0_dogX b0_dogY b0_row b0_round b0_farOne b0_leads b0_drags b0_from b0_near g0_thrown g0_hasImage g0_remembered g0_taped g0_deep g0_faultAt g0_steps g0_men g0_dogs g0_end f2 g0_point g0_begin f1) s.heap.size = A at hD ⊢
  have hA : ∀ q : Nat, s.heap.size ≤ q → A q := fun q h => by rw [← hAe]; exact Or.inr h
  have hS : va_S A s.heap s.heap [] := va_S.rf
  have C0 : cxM p s m meth c _ wsX11_readWay RX11 cX11_readWay 2 (some .boolean) := ⟨hx, hb, hr, hml, hown, hts, hlocks⟩
  have hl := lv_entry ([.ref a0]) (n := 2) (Nat.le_of_ble_eq_true rfl)
  rw [lg_entry_eq]
  generalize (lg_sl ([.ref a0]) ++ List.replicate (2 - (lg_sl ([.ref a0])).length) Slot.unset).toArray = ls at hl ⊢
  have hl : lv_has ls 2 [(0, .ref a0)] := hl
  show W p l e rmX11_readWay s m _ below meth c _ _ _ _ _ _
  refine wq (fun Q hQ => ?_)
  refine lv_aload_n hx hb dX11_readWay_0 rfl (lv_at hl 0 rfl) ?_
  have hPc := hP.sub (ws' := (ceX11_ways cyI cyB cyJ cyZ a0 a1 b0_image b0_before b0_taken a2 b0_five b0_value b0_far b0_lead b0_walk b0_ends b0_manX b0_manY b0_dogX b0_dogY b0_row b0_round b0_farOne b0_leads b0_drags b0_from b0_near g0_thrown g0_hasImage g0_remembered g0_taped g0_point g0_end g0_begin g0_deep g0_faultAt g0_steps g0_men g0_dogs f1)) [0, 1] rfl
  have hDc := hD.sub (ws' := (ceX11_ways cyI cyB cyJ cyZ a0 a1 b0_image b0_before b0_taken a2 b0_five b0_value b0_far b0_lead b0_walk b0_ends b0_manX b0_manY b0_dogX b0_dogY b0_row b0_round b0_farOne b0_leads b0_drags b0_from b0_near g0_thrown g0_hasImage g0_remembered g0_taped g0_point g0_end g0_begin g0_deep g0_faultAt g0_steps g0_men g0_dogs f1)) [0, 1] (by decide) rfl
  have hFc := va_free (wc := (ceX11_ways cyI cyB cyJ cyZ a0 a1 b0_image b0_before b0_taken a2 b0_five b0_value b0_far b0_lead b0_walk b0_ends b0_manX b0_manY b0_dogX b0_dogY b0_row b0_round b0_farOne b0_leads b0_drags b0_from b0_near g0_thrown g0_hasImage g0_remembered g0_taped g0_point g0_end g0_begin g0_deep g0_faultAt g0_steps g0_men g0_dogs f1)) hD hS hA [0, 1] rfl
  refine va_calli (va_runV (As := []) (rest := []) ⟨hx, hb, hml, hown, hts⟩ (ctX11_ways l dC dI cyI cyB cyJ cyZ _ a0 a1 b0_image b0_before b0_taken a2 b0_five b0_value b0_far b0_lead b0_walk b0_ends b0_manX b0_manY b0_dogX b0_dogY b0_row b0_round b0_farOne b0_leads b0_drags b0_from b0_near g0_thrown g0_hasImage g0_remembered g0_taped g0_point g0_end g0_begin g0_deep g0_faultAt g0_steps g0_men g0_dogs f1 _ hw) (cwV 0 hts gX11_readWay_X11_ways rfl rfl rfl (by decide +kernel) ⟨Nat.le_of_ble_eq_true rfl, Nat.le_of_ble_eq_true rfl⟩) ⟨wPre_blind, va_recv hK hPc (ci := 11) (q0 := 0) rfl rfl, fun U hU hW => wPre_of hPc hK hDc hN hU hW⟩ rfl rfl hl.1 rfl (lv_room (Nat.le_of_ble_eq_true rfl)) dX11_readWay_1 ⟨(Nat.zero_le _), (Nat.zero_le _)⟩) hS (fun q _ h => hFc q h) hFc (fun r2 u1 t H1 locs ht hvm hw hB hz1 hk1 hS => ?_)
  obtain ⟨hP1, hK1, hD1⟩ := hB
  rw [ht] at hP1
  obtain ⟨hP, hD⟩ := va_join (wr := pickW (ceX11_readWay cyI cyB cyJ cyZ a0 a1 a2 b0_image b0_before b0_taken b0_five b0_value b0_far b0_lead b0_walk b0_ends b0_manX b0_manY b0_dogX b0_dogY b0_row b0_round b0_farOne b0_leads b0_drags b0_from b0_near g0_thrown g0_hasImage g0_remembered g0_taped g0_deep g0_faultAt g0_steps g0_men g0_dogs g0_end f2 g0_point g0_begin f1) [2]) (w1 := (ceX11_ways cyI cyB cyJ cyZ a0 a1 b0_image b0_before b0_taken a2 b0_five b0_value b0_far b0_lead b0_walk b0_ends b0_manX b0_manY b0_dogX b0_dogY b0_row b0_round b0_farOne b0_leads b0_drags b0_from b0_near g0_thrown g0_hasImage g0_remembered g0_taped g0_point g0_end g0_begin g0_deep g0_faultAt g0_steps g0_men g0_dogs f1)) hP hD [0, 1] [2] rfl rfl (by decide) (by decide) hk1 hFc hP1 hD1
  have hP := hP.sub (ws' := (ceX11_readWay cyI cyB cyJ cyZ a0 a1 a2 b0_image b0_before b0_taken b0_five b0_value b0_far b0_lead b0_walk b0_ends b0_manX b0_manY b0_dogX b0_dogY b0_row b0_round b0_farOne b0_leads b0_drags b0_from b0_near g0_thrown g0_hasImage g0_remembered g0_taped g0_deep g0_faultAt g0_steps g0_men g0_dogs g0_end f2 g0_point g0_begin f1)) [1, 2, 0] rfl
  have hD := hD.sub (ws' := (ceX11_readWay cyI cyB cyJ cyZ a0 a1 a2 b0_image b0_before b0_taken b0_five b0_value b0_far b0_lead b0_walk b0_ends b0_manX b0_manY b0_dogX b0_dogY b0_row b0_round b0_farOne b0_leads b0_drags b0_from b0_near g0_thrown g0_hasImage g0_remembered g0_taped g0_deep g0_faultAt g0_steps g0_men g0_dogs g0_end f2 g0_point g0_begin f1)) [1, 2, 0] (by decide) rfl
  generalize H1 = H at hP hS ⊢
  refine lv_istore_n (lv' := [(1, .int r2), (0, .ref a0)]) hx hb dX11_readWay_4 rfl hl (by decide) rfl (fun ls hl => ?_)
  refine lv_iload_n hx hb dX11_readWay_5 rfl (lv_at hl 0 rfl) ?_
  refine lv_bipush (v := 12) hx hb dX11_readWay_6 (by decide) ?_
  refine lv_icmp_ne (tgt := 13) hx hb dX11_readWay_8 (by decide) (fun hc => ?_) (fun hc => ?_)
  · have hw := hw.1 hc
    refine lv_aload_n hx hb dX11_readWay_13 rfl (lv_at hl 1 rfl) ?_
    refine va_get (D := (dC, dI)) (ci := 11) (v := .ref a1) (C := RX11) (T := TX11) (N := 34) hx hb hts inX11_readWay_X11 hown hK hP 0 rfl rfl 1 (by decide) (hts (.fieldLink RX11 13 "LeadParkModel" "world" "[I") (List.mem_of_getElem? (i := 1) rfl)) (fun _ h9 => h9) rfl dX11_readWay_14 ?_
    refine lv_bipush (v := 14) hx hb dX11_readWay_17 (by decide) ?_
    refine lv_bipush (v := 61) hx hb dX11_readWay_19 (by decide) ?_
    refine lv_iload_n hx hb dX11_readWay_21 rfl (lv_at hl 0 rfl) ?_
    refine lv_imul hx hb dX11_readWay_22 ?_
    refine lv_iadd hx hb dX11_readWay_23 ?_
    refine lv_iconst (v := 0) hx hb dX11_readWay_24 (by decide) ?_
    obtain ⟨hi, hw⟩ := hw
    refine va_iast hx hb hK hP hD hS 1 0 rfl rfl hi dX11_readWay_25 (fun H locs hP hD hS => ?_)
    have hP : va_P (dC, dI) vwCl (ceX11_readWay cyI cyB cyJ cyZ a0 a1 a2 b0_image b0_before b0_taken b0_five b0_value b0_far b0_lead b0_walk b0_ends b0_manX b0_manY b0_dogX b0_dogY b0_row b0_round b0_farOne b0_leads b0_drags b0_from b0_near g0_thrown g0_hasImage g0_remembered g0_taped g0_deep g0_faultAt g0_steps g0_men g0_dogs g0_end f2 g0_point g0_begin (upd f1 (14 + (61 * r2)).toNatClampNeg 0)) H := hP
    have hD : va_D A (ceX11_readWay cyI cyB cyJ cyZ a0 a1 a2 b0_image b0_before b0_taken b0_five b0_value b0_far b0_lead b0_walk b0_ends b0_manX b0_manY b0_dogX b0_dogY b0_row b0_round b0_farOne b0_leads b0_drags b0_from b0_near g0_thrown g0_hasImage g0_remembered g0_taped g0_deep g0_faultAt g0_steps g0_men g0_dogs g0_end f2 g0_point g0_begin (upd f1 (14 + (61 * r2)).toNatClampNeg 0)) := hD
    refine lv_aload_n hx hb dX11_readWay_26 rfl (lv_at hl 1 rfl) ?_
    refine va_get (D := (dC, dI)) (ci := 11) (v := .ref a1) (C := RX11) (T := TX11) (N := 34) hx hb hts inX11_readWay_X11 hown hK hP 0 rfl rfl 1 (by decide) (hts (.fieldLink RX11 13 "LeadParkModel" "world" "[I") (List.mem_of_getElem? (i := 1) rfl)) (fun _ h9 => h9) rfl dX11_readWay_27 ?_
    refine lv_iconst (v := 0) hx hb dX11_readWay_30 (by decide) ?_
    refine lv_dup2_11 hx hb dX11_readWay_31 rfl rfl ?_
    obtain ⟨hi, hw⟩ := hw
    refine va_iald hx hb hK hP 1 0 rfl rfl hi dX11_readWay_32 ?_
    refine lv_iconst (v := 1) hx hb dX11_readWay_33 (by decide) ?_
    refine lv_iadd hx hb dX11_readWay_34 ?_
    obtain ⟨hi, hw⟩ := hw
    refine va_iast hx hb hK hP hD hS 1 0 rfl rfl hi dX11_readWay_35 (fun H locs hP hD hS => ?_)
    have hP : va_P (dC, dI) vwCl (ceX11_readWay cyI cyB cyJ cyZ a0 a1 a2 b0_image b0_before b0_taken b0_five b0_value b0_far b0_lead b0_walk b0_ends b0_manX b0_manY b0_dogX b0_dogY b0_row b0_round b0_farOne b0_leads b0_drags b0_from b0_near g0_thrown g0_hasImage g0_remembered g0_taped g0_deep g0_faultAt g0_steps g0_men g0_dogs g0_end f2 g0_point g0_begin (upd (upd f1 (14 + (61 * r2)).toNatClampNeg 0) (0 : Int32).toNatClampNeg (((upd f1 (14 + (61 * r2)).toNatClampNeg 0) (0 : Int32).toNatClampNeg) + 1))) H := hP
    have hD : va_D A (ceX11_readWay cyI cyB cyJ cyZ a0 a1 a2 b0_image b0_before b0_taken b0_five b0_value b0_far b0_lead b0_walk b0_ends b0_manX b0_manY b0_dogX b0_dogY b0_row b0_round b0_farOne b0_leads b0_drags b0_from b0_near g0_thrown g0_hasImage g0_remembered g0_taped g0_deep g0_faultAt g0_steps g0_men g0_dogs g0_end f2 g0_point g0_begin (upd (upd f1 (14 + (61 * r2)).toNatClampNeg 0) (0 : Int32).toNatClampNeg (((upd f1 (14 + (61 * r2)).toNatClampNeg 0) (0 : Int32).toNatClampNeg) + 1))) := hD
    refine lv_aload_n hx hb dX11_readWay_36 rfl (lv_at hl 1 rfl) ?_
    refine lv_iload_n hx hb dX11_readWay_37 rfl (lv_at hl 0 rfl) ?_
    have hPc := hP.sub (ws' := (ceX11_readCorners cyI cyB cyJ cyZ a0 a2 a1 b0_image b0_before b0_taken b0_five b0_value b0_far b0_lead b0_walk b0_ends b0_manX b0_manY b0_dogX b0_dogY b0_row b0_round b0_farOne b0_leads b0_drags b0_from b0_near g0_thrown g0_hasImage g0_remembered g0_taped g0_deep g0_faultAt g0_steps g0_men g0_dogs g0_end f2 g0_point g0_begin (upd (upd f1 (14 + (61 * r2)).toNatClampNeg 0) (0 : Int32).toNatClampNeg (((upd f1 (14 + (61 * r2)).toNatClampNeg 0) (0 : Int32).toNatClampNeg) + 1)))) [0, 2, 1] rfl
    have hDc := hD.sub (ws' := (ceX11_readCorners cyI cyB cyJ cyZ a0 a2 a1 b0_image b0_before b0_taken b0_five b0_value b0_far b0_lead b0_walk b0_ends b0_manX b0_manY b0_dogX b0_dogY b0_row b0_round b0_farOne b0_leads b0_drags b0_from b0_near g0_thrown g0_hasImage g0_remembered g0_taped g0_deep g0_faultAt g0_steps g0_men g0_dogs g0_end f2 g0_point g0_begin (upd (upd f1 (14 + (61 * r2)).toNatClampNeg 0) (0 : Int32).toNatClampNeg (((upd f1 (14 + (61 * r2)).toNatClampNeg 0) (0 : Int32).toNatClampNeg) + 1)))) [0, 2, 1] (by decide) rfl
    have hFc := va_free (wc := (ceX11_readCorners cyI cyB cyJ cyZ a0 a2 a1 b0_image b0_before b0_taken b0_five b0_value b0_far b0_lead b0_walk b0_ends b0_manX b0_manY b0_dogX b0_dogY b0_row b0_round b0_farOne b0_leads b0_drags b0_from b0_near g0_thrown g0_hasImage g0_remembered g0_taped g0_deep g0_faultAt g0_steps g0_men g0_dogs g0_end f2 g0_point g0_begin (upd (upd f1 (14 + (61 * r2)).toNatClampNeg 0) (0 : Int32).toNatClampNeg (((upd f1 (14 + (61 * r2)).toNatClampNeg 0) (0 : Int32).toNatClampNeg) + 1)))) hD hS hA [0, 2, 1] rfl
    refine va_calli (va_runV (As := [.int r2]) (rest := []) ⟨hx, hb, hml, hown, hts⟩ (ctX11_readCorners l dC dI cyI cyB cyJ cyZ _ a0 a2 a1 b0_image b0_before b0_taken b0_five b0_value b0_far b0_lead b0_walk b0_ends b0_manX b0_manY b0_dogX b0_dogY b0_row b0_round b0_farOne b0_leads b0_drags b0_from b0_near g0_thrown g0_hasImage g0_remembered g0_taped g0_deep g0_faultAt g0_steps g0_men g0_dogs g0_end f2 g0_point g0_begin (upd (upd f1 (14 + (61 * r2)).toNatClampNeg 0) (0 : Int32).toNatClampNeg (((upd f1 (14 + (61 * r2)).toNatClampNeg 0) (0 : Int32).toNatClampNeg) + 1)) r2 _ hw) (cwV 1 hts gX11_readWay_X11_readCorners rfl rfl rfl (by decide +kernel) ⟨Nat.le_of_ble_eq_true rfl, Nat.le_of_ble_eq_true rfl⟩) ⟨wPre_blind, va_recv hK hPc (ci := 11) (q0 := 0) rfl rfl, fun U hU hW => wPre_of hPc hK hDc hN hU hW⟩ rfl rfl hl.1 rfl (lv_room (Nat.le_of_ble_eq_true rfl)) dX11_readWay_38 ⟨(Nat.zero_le _), (Nat.zero_le _)⟩) hS (fun q _ h => hFc q h) hFc (fun r4 u3 t H1 locs ht hvm hw hB hz1 hk1 hS => ?_)
    obtain ⟨hP1, hK1, hD1⟩ := hB
    rw [ht] at hP1
    obtain ⟨hP, hD⟩ := va_join (wr := pickW (ceX11_readWay cyI cyB cyJ cyZ a0 a1 a2 b0_image b0_before b0_taken b0_five b0_value b0_far b0_lead b0_walk b0_ends b0_manX b0_manY b0_dogX b0_dogY b0_row b0_round b0_farOne b0_leads b0_drags b0_from b0_near g0_thrown g0_hasImage g0_remembered g0_taped g0_deep g0_faultAt g0_steps g0_men g0_dogs g0_end f2 g0_point g0_begin (upd (upd f1 (14 + (61 * r2)).toNatClampNeg 0) (0 : Int32).toNatClampNeg (((upd f1 (14 + (61 * r2)).toNatClampNeg 0) (0 : Int32).toNatClampNeg) + 1))) []) (w1 := (ceX11_readCorners cyI cyB cyJ cyZ a0 a2 a1 b0_image b0_before b0_taken b0_five b0_value b0_far b0_lead b0_walk b0_ends b0_manX b0_manY b0_dogX b0_dogY b0_row b0_round b0_farOne b0_leads b0_drags b0_from b0_near g0_thrown g0_hasImage g0_remembered g0_taped g0_deep g0_faultAt g0_steps g0_men g0_dogs g0_end f2 u3.1 u3.2.1 u3.2.2)) hP hD [0, 2, 1] [] rfl rfl (by decide) (by decide) hk1 hFc hP1 hD1
    have hP := hP.sub (ws' := (ceX11_readWay cyI cyB cyJ cyZ a0 a1 a2 b0_image b0_before b0_taken b0_five b0_value b0_far b0_lead b0_walk b0_ends b0_manX b0_manY b0_dogX b0_dogY b0_row b0_round b0_farOne b0_leads b0_drags b0_from b0_near g0_thrown g0_hasImage g0_remembered g0_taped g0_deep g0_faultAt g0_steps g0_men g0_dogs g0_end f2 u3.1 u3.2.1 u3.2.2)) [0, 2, 1] rfl
    have hD := hD.sub (ws' := (ceX11_readWay cyI cyB cyJ cyZ a0 a1 a2 b0_image b0_before b0_taken b0_five b0_value b0_far b0_lead b0_walk b0_ends b0_manX b0_manY b0_dogX b0_dogY b0_row b0_round b0_farOne b0_leads b0_drags b0_from b0_near g0_thrown g0_hasImage g0_remembered g0_taped g0_deep g0_faultAt g0_steps g0_men g0_dogs g0_end f2 u3.1 u3.2.1 u3.2.2)) [0, 2, 1] (by decide) rfl
    generalize H1 = H at hP hS ⊢
    rw [hQ]
    obtain ⟨hz, hw⟩ := hw
    exact W.zret (v := r4) (ty := .boolean) hx hb hr (zb_n hz) (fun t ht hW => ⟨⟨r4, (u3.1, u3.2.1, u3.2.2), rfl, hw, by rw [ht]; exact hP, va_K.moved hW.alike hK, hD⟩, hS.F ht⟩) hS.2.2 dX11_readWay_41
  · have hw := hw.2 hc
    refine lv_iconst (v := 0) hx hb dX11_readWay_11 (by decide) ?_
    rw [hQ]
    exact W.zret (v := 0) (ty := .boolean) hx hb hr rfl (fun t ht hW => ⟨⟨0, (g0_point, g0_begin, f1), rfl, hw, by rw [ht]; exact hP, va_K.moved hW.alike hK, hD⟩, hS.F ht⟩) hS.2.2 dX11_readWay_12
/-! LeadParkModel.readWall ()Z -/
abbrev ceX11_readWall (cyI cyB cyJ cyZ : ClassId) (a0 a1 a2 b0_image b0_before b0_taken b0_five b0_value b0_far b0_lead b0_walk b0_ends b0_manX b0_manY b0_dogX b0_dogY b0_row b0_round b0_farOne b0_leads b0_drags b0_from b0_near : Nat) (g0_thrown : Int32) (g0_hasImage : Int32) (g0_remembered : Int32) (g0_taped : Int32) (g0_deep : Int32) (g0_faultAt : Int32) (g0_steps : Int32) (g0_men : Int32) (g0_dogs : Int32) (g0_end : Int32) (f2 : Nat → Int32) (g0_point : Int32) (g0_begin : Int32) (f1 : Nat → Int32) : va_W := [(a0, .inr (11, [.int g0_thrown, .ref a1, .ref b0_image, .ref b0_before, .int g0_hasImage, .ref b0_taken, .int g0_remembered, .ref a2, .int g0_taped, .int g0_point, .int g0_end, .int g0_begin, .int g0_deep, .int g0_faultAt, .ref b0_five, .int g0_steps, .ref b0_value, .ref b0_far, .int g0_men, .int g0_dogs, .ref b0_lead, .ref b0_walk, .ref b0_ends, .ref b0_manX, .ref b0_manY, .ref b0_dogX, .ref b0_dogY, .ref b0_row, .ref b0_round, .ref b0_farOne, .ref b0_leads, .ref b0_drags, .ref b0_from, .ref b0_near])), (a1, .inl (cyI, 2508, .inl f1)), (a2, .inl (cyB, 400, .inl f2))]

theorem inX11_readWall_X11 : ∀ w ∈ wsX110, w ∈ wsX11_readWall := fun _ h => List.mem_cons_of_mem _ (List.mem_append_right _ h)
abbrev rmX11_readWall : Room := { frames := 4, cells := 0, slots := 0, locals := 88 }
def wpX11_readWall_17 (post : Int32 → (Int32 × Int32 × (Nat → Int32)) → Prop) (g0_end : Int32) (f2 : Nat → Int32) : Nat → Int32 → Int32 → (Nat → Int32) → Int32 → Int32 → Prop
  | 0, _, _, _, _, _ => False
  | n_17 + 1, g0_point, g0_begin, f1, x1, x2 =>
    (4 ≤ x2 →
     vp_in 1 2508 ∧
     vp_in 1 2508 ∧
     post 1 (g0_point, g0_begin, (upd f1 (1 : Int32).toNatClampNeg ((f1 (1 : Int32).toNatClampNeg) + 1)))) ∧
    (¬ 4 ≤ x2 →
     wpX11_number (fun (r2 : Int32) (u1 : Int32 × Int32) =>
      (0 ≤ r2 →
       vp_in ((746 + (4 * x1)) + x2) 2508 ∧
       ∀ v3 : Int32, v3 = x2 + 1 →
       wpX11_readWall_17 post g0_end f2 n_17 u1.1 u1.2 (upd f1 ((746 + (4 * x1)) + x2).toNatClampNeg r2) x1 v3) ∧
      (¬ 0 ≤ r2 →
       post 0 (u1.1, u1.2, f1))) g0_end f2 g0_point g0_begin 0 999)
def wpX11_readWall (post : Int32 → (Int32 × Int32 × (Nat → Int32)) → Prop) (g0_end : Int32) (f2 : Nat → Int32) (g0_point : Int32) (g0_begin : Int32) (f1 : Nat → Int32) : Prop :=
  vp_in 1 2508 ∧
  ∀ v1 : Int32, v1 = f1 (1 : Int32).toNatClampNeg →
  (¬ v1 = 8 →
   ∃ n_17 : Nat, wpX11_readWall_17 post g0_end f2 n_17 g0_point g0_begin f1 v1 0) ∧
  (v1 = 8 →
   post 0 (g0_point, g0_begin, f1))
set_option maxRecDepth 100000 in
set_option maxHeartbeats 4000000 in
theorem bX11_readWall_17 {p : Program} {l : Launch} {e : Env} {s : State} {m : MethodId} {args : Array Value} {below : List Frame} {meth : Method} {c : Code} {dC : Nat → ClassId} {dI : Nat → Nat → Nat} {cyI cyB cyJ cyZ : ClassId} {A : Nat → Prop} {a0 a1 a2 b0_image b0_before b0_taken b0_five b0_value b0_far b0_lead b0_walk b0_ends b0_manX b0_manY b0_dogX b0_dogY b0_row b0_round b0_farOne b0_leads b0_drags b0_from b0_near : Nat} {g0_thrown : Int32} {g0_hasImage : Int32} {g0_remembered : Int32} {g0_taped : Int32} {g0_deep : Int32} {g0_faultAt : Int32} {g0_steps : Int32} {g0_men : Int32} {g0_dogs : Int32} (C0 : cxM p s m meth c args wsX11_readWall RX11 cX11_readWall 4 (some .boolean)) (hK : va_K (dC, dI) vwCl (tyA cyI cyB cyJ cyZ) s) (hN : nwA s) (hA : ∀ q : Nat, s.heap.size ≤ q → A q) {post : Int32 → (Int32 × Int32 × (Nat → Int32)) → Prop} {g0_end : Int32} {f2 : Nat → Int32} {Q : State → Prop} (hQ : Q = MQ below (va_Qi post (fun u : Int32 × Int32 × (Nat → Int32) => wAt dC dI cyI cyB cyJ cyZ A (ceX11_readWall cyI cyB cyJ cyZ a0 a1 a2 b0_image b0_before b0_taken b0_five b0_value b0_far b0_lead b0_walk b0_ends b0_manX b0_manY b0_dogX b0_dogY b0_row b0_round b0_farOne b0_leads b0_drags b0_from b0_near g0_thrown g0_hasImage g0_remembered g0_taped g0_deep g0_faultAt g0_steps g0_men g0_dogs g0_end f2 u.1 u.2.1 u.2.2)) A) args s 0 0 A) : ∀ (n : Nat) (g0_point : Int32) (g0_begin : Int32) (f1 : Nat → Int32) (x1 : Int32) (x2 : Int32), wpX11_readWall_17 post g0_end f2 n g0_point g0_begin f1 x1 x2 → AtW p l e rmX11_readWall s m args below meth c dC dI A Q 4 0 0 (ceX11_readWall cyI cyB cyJ cyZ a0 a1 a2 b0_image b0_before b0_taken b0_five b0_value b0_far b0_lead b0_walk b0_ends b0_manX b0_manY b0_dogX b0_dogY b0_row b0_round b0_farOne b0_leads b0_drags b0_from b0_near g0_thrown g0_hasImage g0_remembered g0_taped g0_deep g0_faultAt g0_steps g0_men g0_dogs g0_end f2 g0_point g0_begin f1) [(0, .ref a0), (1, .int x1), (2, .int x2)] 17 [] := by
  intro n
  induction n with
  | zero => intro g0_point g0_begin f1 x1 x2 hw; exact False.elim hw
  | succ n ih =>
    intro g0_point g0_begin f1 x1 x2 hw H locs hP hD hS ls hl
    have C1 := C0
    obtain ⟨hx, hb, hr, hml, hown, hts, hlocks⟩ := C1
    refine lv_iload_n hx hb dX11_readWall_17 rfl (lv_at hl 2 rfl) ?_
    refine lv_iconst (v := 4) hx hb dX11_readWall_18 (by decide) ?_
    refine lv_icmp_ge (tgt := 58) hx hb dX11_readWall_19 (by decide) (fun hc => ?_) (fun hc => ?_)
    · have hw := hw.1 hc
      refine lv_aload_n hx hb dX11_readWall_58 rfl (lv_at hl 0 rfl) ?_
      refine va_get (D := (dC, dI)) (ci := 11) (v := .ref a1) (C := RX11) (T := TX11) (N := 34) hx hb hts inX11_readWall_X11 hown hK hP 0 rfl rfl 1 (by decide) (hts (.fieldLink RX11 13 "LeadParkModel" "world" "[I") (List.mem_of_getElem? (i := 1) rfl)) (fun _ h9 => h9) rfl dX11_readWall_59 ?_
      refine lv_iconst (v := 1) hx hb dX11_readWall_62 (by decide) ?_
      refine lv_dup2_11 hx hb dX11_readWall_63 rfl rfl ?_
      obtain ⟨hi, hw⟩ := hw
      refine va_iald hx hb hK hP 1 0 rfl rfl hi dX11_readWall_64 ?_
      refine lv_iconst (v := 1) hx hb dX11_readWall_65 (by decide) ?_
      refine lv_iadd hx hb dX11_readWall_66 ?_
      obtain ⟨hi, hw⟩ := hw
      refine va_iast hx hb hK hP hD hS 1 0 rfl rfl hi dX11_readWall_67 (fun H locs hP hD hS => ?_)
      have hP : va_P (dC, dI) vwCl (ceX11_readWall cyI cyB cyJ cyZ a0 a1 a2 b0_image b0_before b0_taken b0_five b0_value b0_far b0_lead b0_walk b0_ends b0_manX b0_manY b0_dogX b0_dogY b0_row b0_round b0_farOne b0_leads b0_drags b0_from b0_near g0_thrown g0_hasImage g0_remembered g0_taped g0_deep g0_faultAt g0_steps g0_men g0_dogs g0_end f2 g0_point g0_begin (upd f1 (1 : Int32).toNatClampNeg ((f1 (1 : Int32).toNatClampNeg) + 1))) H := hP
      have hD : va_D A (ceX11_readWall cyI cyB cyJ cyZ a0 a1 a2 b0_image b0_before b0_taken b0_five b0_value b0_far b0_lead b0_walk b0_ends b0_manX b0_manY b0_dogX b0_dogY b0_row b0_round b0_farOne b0_leads b0_drags b0_from b0_near g0_thrown g0_hasImage g0_remembered g0_taped g0_deep g0_faultAt g0_steps g0_men g0_dogs g0_end f2 g0_point g0_begin (upd f1 (1 : Int32).toNatClampNeg ((f1 (1 : Int32).toNatClampNeg) + 1))) := hD
      refine lv_iconst (v := 1) hx hb dX11_readWall_68 (by decide) ?_
      rw [hQ]
      exact W.zret (v := 1) (ty := .boolean) hx hb hr rfl (fun t ht hW => ⟨⟨1, (g0_point, g0_begin, (upd f1 (1 : Int32).toNatClampNeg ((f1 (1 : Int32).toNatClampNeg) + 1))), rfl, hw, by rw [ht]; exact hP, va_K.moved hW.alike hK, hD⟩, hS.F ht⟩) hS.2.2 dX11_readWall_69
    · have hw := hw.2 hc
      refine lv_aload_n hx hb dX11_readWall_22 rfl (lv_at hl 0 rfl) ?_
      refine lv_iconst (v := 0) hx hb dX11_readWall_23 (by decide) ?_
      refine lv_sipush (v := 999) hx hb dX11_readWall_24 (by decide) ?_
      have hPc := hP.sub (ws' := (ceX11_number cyI cyB cyJ cyZ a0 a2 a1 b0_image b0_before b0_taken b0_five b0_value b0_far b0_lead b0_walk b0_ends b0_manX b0_manY b0_dogX b0_dogY b0_row b0_round b0_farOne b0_leads b0_drags b0_from b0_near g0_thrown g0_hasImage g0_remembered g0_taped g0_deep g0_faultAt g0_steps g0_men g0_dogs g0_end f2 g0_point g0_begin)) [0, 2] rfl
      have hDc := hD.sub (ws' := (ceX11_number cyI cyB cyJ cyZ a0 a2 a1 b0_image b0_before b0_taken b0_five b0_value b0_far b0_lead b0_walk b0_ends b0_manX b0_manY b0_dogX b0_dogY b0_row b0_round b0_farOne b0_leads b0_drags b0_from b0_near g0_thrown g0_hasImage g0_remembered g0_taped g0_deep g0_faultAt g0_steps g0_men g0_dogs g0_end f2 g0_point g0_begin)) [0, 2] (by decide) rfl
      have hFc := va_free (wc := (ceX11_number cyI cyB cyJ cyZ a0 a2 a1 b0_image b0_before b0_taken b0_five b0_value b0_far b0_lead b0_walk b0_ends b0_manX b0_manY b0_dogX b0_dogY b0_row b0_round b0_farOne b0_leads b0_drags b0_from b0_near g0_thrown g0_hasImage g0_remembered g0_taped g0_deep g0_faultAt g0_steps g0_men g0_dogs g0_end f2 g0_point g0_begin)) hD hS hA [0, 2] rfl
      refine va_calli (va_runV (As := [.int 0, .int 999]) (rest := []) ⟨hx, hb, hml, hown, hts⟩ (ctX11_number l dC dI cyI cyB cyJ cyZ _ a0 a2 a1 b0_image b0_before b0_taken b0_five b0_value b0_far b0_lead b0_walk b0_ends b0_manX b0_manY b0_dogX b0_dogY b0_row b0_round b0_farOne b0_leads b0_drags b0_from b0_near g0_thrown g0_hasImage g0_remembered g0_taped g0_deep g0_faultAt g0_steps g0_men g0_dogs g0_end f2 g0_point g0_begin 0 999 _ hw) (cwV 2 hts gX11_readWall_X11_number rfl rfl rfl (by decide +kernel) ⟨Nat.le_of_ble_eq_true rfl, Nat.le_of_ble_eq_true rfl⟩) ⟨wPre_blind, va_recv hK hPc (ci := 11) (q0 := 0) rfl rfl, fun U hU hW => wPre_of hPc hK hDc hN hU hW⟩ rfl rfl hl.1 rfl (lv_room (Nat.le_of_ble_eq_true rfl)) dX11_readWall_27 ⟨(Nat.zero_le _), (Nat.zero_le _)⟩) hS (fun q _ h => hFc q h) hFc (fun r2 u1 t H1 locs ht hvm hw hB hz1 hk1 hS => ?_)
      obtain ⟨hP1, hK1, hD1⟩ := hB
      rw [ht] at hP1
      obtain ⟨hP, hD⟩ := va_join (wr := pickW (ceX11_readWall cyI cyB cyJ cyZ a0 a1 a2 b0_image b0_before b0_taken b0_five b0_value b0_far b0_lead b0_walk b0_ends b0_manX b0_manY b0_dogX b0_dogY b0_row b0_round b0_farOne b0_leads b0_drags b0_from b0_near g0_thrown g0_hasImage g0_remembered g0_taped g0_deep g0_faultAt g0_steps g0_men g0_dogs g0_end f2 g0_point g0_begin f1) [1]) (w1 := (ceX11_number cyI cyB cyJ cyZ a0 a2 a1 b0_image b0_before b0_taken b0_five b0_value b0_far b0_lead b0_walk b0_ends b0_manX b0_manY b0_dogX b0_dogY b0_row b0_round b0_farOne b0_leads b0_drags b0_from b0_near g0_thrown g0_hasImage g0_remembered g0_taped g0_deep g0_faultAt g0_steps g0_men g0_dogs g0_end f2 u1.1 u1.2)) hP hD [0, 2] [1] rfl rfl (by decide) (by decide) hk1 hFc hP1 hD1
      have hP := hP.sub (ws' := (ceX11_readWall cyI cyB cyJ cyZ a0 a1 a2 b0_image b0_before b0_taken b0_five b0_value b0_far b0_lead b0_walk b0_ends b0_manX b0_manY b0_dogX b0_dogY b0_row b0_round b0_farOne b0_leads b0_drags b0_from b0_near g0_thrown g0_hasImage g0_remembered g0_taped g0_deep g0_faultAt g0_steps g0_men g0_dogs g0_end f2 u1.1 u1.2 f1)) [1, 0, 2] rfl
      have hD := hD.sub (ws' := (ceX11_readWall cyI cyB cyJ cyZ a0 a1 a2 b0_image b0_before b0_taken b0_five b0_value b0_far b0_lead b0_walk b0_ends b0_manX b0_manY b0_dogX b0_dogY b0_row b0_round b0_farOne b0_leads b0_drags b0_from b0_near g0_thrown g0_hasImage g0_remembered g0_taped g0_deep g0_faultAt g0_steps g0_men g0_dogs g0_end f2 u1.1 u1.2 f1)) [1, 0, 2] (by decide) rfl
      generalize H1 = H at hP hS ⊢
      refine lv_istore_n (lv' := [(3, .int r2), (0, .ref a0), (1, .int x1), (2, .int x2)]) hx hb dX11_readWall_30 rfl hl (by decide) rfl (fun ls hl => ?_)
      refine lv_iload_n hx hb dX11_readWall_31 rfl (lv_at hl 0 rfl) ?_
      refine lv_if_ge (tgt := 37) hx hb dX11_readWall_32 (by decide) (fun hc => ?_) (fun hc => ?_)
      · have hw := hw.1 hc
        refine lv_aload_n hx hb dX11_readWall_37 rfl (lv_at hl 1 rfl) ?_
        refine va_get (D := (dC, dI)) (ci := 11) (v := .ref a1) (C := RX11) (T := TX11) (N := 34) hx hb hts inX11_readWall_X11 hown hK hP 0 rfl rfl 1 (by decide) (hts (.fieldLink RX11 13 "LeadParkModel" "world" "[I") (List.mem_of_getElem? (i := 1) rfl)) (fun _ h9 => h9) rfl dX11_readWall_38 ?_
        refine lv_sipush (v := 746) hx hb dX11_readWall_41 (by decide) ?_
        refine lv_iconst (v := 4) hx hb dX11_readWall_44 (by decide) ?_
        refine lv_iload_n hx hb dX11_readWall_45 rfl (lv_at hl 2 rfl) ?_
        refine lv_imul hx hb dX11_readWall_46 ?_
        refine lv_iadd hx hb dX11_readWall_47 ?_
        refine lv_iload_n hx hb dX11_readWall_48 rfl (lv_at hl 3 rfl) ?_
        refine lv_iadd hx hb dX11_readWall_49 ?_
        refine lv_iload_n hx hb dX11_readWall_50 rfl (lv_at hl 0 rfl) ?_
        obtain ⟨hi, hw⟩ := hw
        refine va_iast hx hb hK hP hD hS 1 0 rfl rfl hi dX11_readWall_51 (fun H locs hP hD hS => ?_)
        have hP : va_P (dC, dI) vwCl (ceX11_readWall cyI cyB cyJ cyZ a0 a1 a2 b0_image b0_before b0_taken b0_five b0_value b0_far b0_lead b0_walk b0_ends b0_manX b0_manY b0_dogX b0_dogY b0_row b0_round b0_farOne b0_leads b0_drags b0_from b0_near g0_thrown g0_hasImage g0_remembered g0_taped g0_deep g0_faultAt g0_steps g0_men g0_dogs g0_end f2 u1.1 u1.2 (upd f1 ((746 + (4 * x1)) + x2).toNatClampNeg r2)) H := hP
        have hD : va_D A (ceX11_readWall cyI cyB cyJ cyZ a0 a1 a2 b0_image b0_before b0_taken b0_five b0_value b0_far b0_lead b0_walk b0_ends b0_manX b0_manY b0_dogX b0_dogY b0_row b0_round b0_farOne b0_leads b0_drags b0_from b0_near g0_thrown g0_hasImage g0_remembered g0_taped g0_deep g0_faultAt g0_steps g0_men g0_dogs g0_end f2 u1.1 u1.2 (upd f1 ((746 + (4 * x1)) + x2).toNatClampNeg r2)) := hD
        obtain ⟨v3, ev3⟩ : ∃ y : Int32, y = x2 + 1 := ⟨_, rfl⟩
        have hw := hw v3 ev3
        refine lv_iinc (v := v3) (lv' := [(2, .int v3), (3, .int r2), (0, .ref a0), (1, .int x1)]) hx hb dX11_readWall_52 hl (k := 3) rfl (by rw [ev3]; rfl) (by decide) rfl (fun ls hl => ?_)
        refine lv_goto (tgt := 17) hx hb dX11_readWall_55 (by decide) ?_
        exact ih u1.1 u1.2 (upd f1 ((746 + (4 * x1)) + x2).toNatClampNeg r2) x1 v3 hw H locs hP hD hS ls (lv_sub hl [2, 3, 0] rfl)
      · have hw := hw.2 hc
        refine lv_iconst (v := 0) hx hb dX11_readWall_35 (by decide) ?_
        rw [hQ]
        exact W.zret (v := 0) (ty := .boolean) hx hb hr rfl (fun t ht hW => ⟨⟨0, (u1.1, u1.2, f1), rfl, hw, by rw [ht]; exact hP, va_K.moved hW.alike hK, hD⟩, hS.F ht⟩) hS.2.2 dX11_readWall_36
set_option maxRecDepth 100000 in
set_option maxHeartbeats 4000000 in
theorem ctX11_readWall (l : Launch) (dC : Nat → ClassId) (dI : Nat → Nat → Nat) (cyI cyB cyJ cyZ : ClassId) (sz : Nat) (a0 a1 a2 b0_image b0_before b0_taken b0_five b0_value b0_far b0_lead b0_walk b0_ends b0_manX b0_manY b0_dogX b0_dogY b0_row b0_round b0_farOne b0_leads b0_drags b0_from b0_near : Nat) (g0_thrown : Int32) (g0_hasImage : Int32) (g0_remembered : Int32) (g0_taped : Int32) (g0_deep : Int32) (g0_faultAt : Int32) (g0_steps : Int32) (g0_men : Int32) (g0_dogs : Int32) (g0_end : Int32) (f2 : Nat → Int32) (g0_point : Int32) (g0_begin : Int32) (f1 : Nat → Int32) (post : Int32 → (Int32 × Int32 × (Nat → Int32)) → Prop) (hw : wpX11_readWall post g0_end f2 g0_point g0_begin f1 ) : Met l yX11_readWall wsX11_readWall rmX11_readWall (va_Pc [.ref a0] (wPre dC dI cyI cyB cyJ cyZ sz (ceX11_readWall cyI cyB cyJ cyZ a0 a1 a2 b0_image b0_before b0_taken b0_five b0_value b0_far b0_lead b0_walk b0_ends b0_manX b0_manY b0_dogX b0_dogY b0_row b0_round b0_farOne b0_leads b0_drags b0_from b0_near g0_thrown g0_hasImage g0_remembered g0_taped g0_deep g0_faultAt g0_steps g0_men g0_dogs g0_end f2 g0_point g0_begin f1))) (va_Qi post (fun u : Int32 × Int32 × (Nat → Int32) => wAt dC dI cyI cyB cyJ cyZ (va_A (ceX11_readWall cyI cyB cyJ cyZ a0 a1 a2 b0_image b0_before b0_taken b0_five b0_value b0_far b0_lead b0_walk b0_ends b0_manX b0_manY b0_dogX b0_dogY b0_row b0_round b0_farOne b0_leads b0_drags b0_from b0_near g0_thrown g0_hasImage g0_remembered g0_taped g0_deep g0_faultAt g0_steps g0_men g0_dogs g0_end f2 g0_point g0_begin f1) sz) (ceX11_readWall cyI cyB cyJ cyZ a0 a1 a2 b0_image b0_before b0_taken b0_five b0_value b0_far b0_lead b0_walk b0_ends b0_manX b0_manY b0_dogX b0_dogY b0_row b0_round b0_farOne b0_leads b0_drags b0_from b0_near g0_thrown g0_hasImage g0_remembered g0_taped g0_deep g0_faultAt g0_steps g0_men g0_dogs g0_end f2 u.1 u.2.1 u.2.2)) (va_A (ceX11_readWall cyI cyB cyJ cyZ a0 a1 a2 b0_image b0_before b0_taken b0_five b0_value b0_far b0_lead b0_walk b0_ends b0_manX b0_manY b0_dogX b0_dogY b0_row b0_round b0_farOne b0_leads b0_drags b0_from b0_near g0_thrown g0_hasImage g0_remembered g0_taped g0_deep g0_faultAt g0_steps g0_men g0_dogs g0_end f2 g0_point g0_begin f1) sz)) 0 0 (va_A (ceX11_readWall cyI cyB cyJ cyZ a0 a1 a2 b0_image b0_before b0_taken b0_five b0_value b0_far b0_lead b0_walk b0_ends b0_manX b0_manY b0_dogX b0_dogY b0_row b0_round b0_farOne b0_leads b0_drags b0_from b0_near g0_thrown g0_hasImage g0_remembered g0_taped g0_deep g0_faultAt g0_steps g0_men g0_dogs g0_end f2 g0_point g0_begin f1) sz) := by
  refine Met.ofW (cc := cX11_readWall) (maxL := 4) (ret := (some .boolean)) (by decide) rfl ?_
  intro p e s m args below meth c s₁ B hml hv
  obtain ⟨rfl, hsz, hP, hK, hD0, hN⟩ := hv
  have hx := B.exec
  have hb := B.bytes
  have hr := B.returns
  have hts := atoms_spec (ws := wsX11_readWall) B.pre
  have hown : s.vm.findClass RX11 = some m.cls := findClass_of_methodNamed B.named
  have hlocks := B.notSynchronized
  subst hsz
  have hD := hD0.self (sz := s.heap.size)
  generalize hAe : va_A (ceX11_readWall cyI cyB cyJ cyZ a0 a1 a2 b0_image b0_before b0_taken b0_five b0_value b0_far b0_lead b0_walk b0_ends b0_manX b0_manY b0_dogX b0_dogY b0_row b0_round b0_farOne b0_leads b0_drags b0_from b0_near g0_thrown g0_hasImage g0_remembered g0_taped g0_deep g0_faultAt g0_steps g0_men g0_dogs g0_end f2 g0_point g0_begin f1) s.heap.size = A at hD ⊢
  have hA : ∀ q : Nat, s.heap.size ≤ q → A q := fun q h => by rw [← hAe]; exact Or.inr h
  have hS : va_S A s.heap s.heap [] := va_S.rf
  have C0 : cxM p s m meth c _ wsX11_readWall RX11 cX11_readWall 4 (some .boolean) := ⟨hx, hb, hr, hml, hown, hts, hlocks⟩
  have hl := lv_entry ([.ref a0]) (n := 4) (Nat.le_of_ble_eq_true rfl)
  rw [lg_entry_eq]
  generalize (lg_sl ([.ref a0]) ++ List.replicate (4 - (lg_sl ([.ref a0])).length) Slot.unset).toArray = ls at hl ⊢
  have hl : lv_has ls 4 [(0, .ref a0)] := hl
  show W p l e rmX11_readWall s m _ below meth c _ _ _ _ _ _
  refine wq (fun Q hQ => ?_)
  refine lv_aload_n hx hb dX11_readWall_0 rfl (lv_at hl 0 rfl) ?_
  refine va_get (D := (dC, dI)) (ci := 11) (v := .ref a1) (C := RX11) (T := TX11) (N := 34) hx hb hts inX11_readWall_X11 hown hK hP 0 rfl rfl 1 (by decide) (hts (.fieldLink RX11 13 "LeadParkModel" "world" "[I") (List.mem_of_getElem? (i := 1) rfl)) (fun _ h9 => h9) rfl dX11_readWall_1 ?_
  refine lv_iconst (v := 1) hx hb dX11_readWall_4 (by decide) ?_
  obtain ⟨hi, hw⟩ := hw
  refine va_iald hx hb hK hP 1 0 rfl rfl hi dX11_readWall_5 ?_
  refine lv_topi (fun v1 ev1 => ?_)
  have hw := hw v1 ev1
  refine lv_istore_n (lv' := [(1, .int v1), (0, .ref a0)]) hx hb dX11_readWall_6 rfl hl (by decide) rfl (fun ls hl => ?_)
  refine lv_iload_n hx hb dX11_readWall_7 rfl (lv_at hl 0 rfl) ?_
  refine lv_bipush (v := 8) hx hb dX11_readWall_8 (by decide) ?_
  refine lv_icmp_ne (tgt := 15) hx hb dX11_readWall_10 (by decide) (fun hc => ?_) (fun hc => ?_)
  · have hw := hw.1 hc
    refine lv_iconst (v := 0) hx hb dX11_readWall_15 (by decide) ?_
    refine lv_istore_n (lv' := [(2, .int 0), (1, .int v1), (0, .ref a0)]) hx hb dX11_readWall_16 rfl hl (by decide) rfl (fun ls hl => ?_)
    obtain ⟨nn, hw⟩ := hw
    exact bX11_readWall_17 C0 hK hN hA hQ nn g0_point g0_begin f1 v1 0 hw _ _ hP hD hS ls (lv_sub hl [2, 1, 0] rfl)
  · have hw := hw.2 hc
    refine lv_iconst (v := 0) hx hb dX11_readWall_13 (by decide) ?_
    rw [hQ]
    exact W.zret (v := 0) (ty := .boolean) hx hb hr rfl (fun t ht hW => ⟨⟨0, (g0_point, g0_begin, f1), rfl, hw, by rw [ht]; exact hP, va_K.moved hW.alike hK, hD⟩, hS.F ht⟩) hS.2.2 dX11_readWall_14
/-! LeadParkModel.readParkLine ()Z -/
abbrev ceX11_readParkLine (cyI cyB cyJ cyZ : ClassId) (a0 a1 a2 b0_image b0_before b0_taken b0_five b0_value b0_far b0_lead b0_walk b0_ends b0_manX b0_manY b0_dogX b0_dogY b0_row b0_round b0_farOne b0_leads b0_drags b0_from b0_near : Nat) (g0_thrown : Int32) (g0_hasImage : Int32) (g0_remembered : Int32) (g0_taped : Int32) (g0_deep : Int32) (g0_faultAt : Int32) (g0_steps : Int32) (g0_men : Int32) (g0_dogs : Int32) (g0_end : Int32) (f1 : Nat → Int32) (g0_point : Int32) (g0_begin : Int32) (f2 : Nat → Int32) : va_W := [(a0, .inr (11, [.int g0_thrown, .ref a2, .ref b0_image, .ref b0_before, .int g0_hasImage, .ref b0_taken, .int g0_remembered, .ref a1, .int g0_taped, .int g0_point, .int g0_end, .int g0_begin, .int g0_deep, .int g0_faultAt, .ref b0_five, .int g0_steps, .ref b0_value, .ref b0_far, .int g0_men, .int g0_dogs, .ref b0_lead, .ref b0_walk, .ref b0_ends, .ref b0_manX, .ref b0_manY, .ref b0_dogX, .ref b0_dogY, .ref b0_row, .ref b0_round, .ref b0_farOne, .ref b0_leads, .ref b0_drags, .ref b0_from, .ref b0_near])), (a1, .inl (cyB, 400, .inl f1)), (a2, .inl (cyI, 2508, .inl f2))]

abbrev rmX11_readParkLine : Room := { frames := 6, cells := 0, slots := 0, locals := 133 }
def wpX11_readParkLine (post : Int32 → (Int32 × Int32 × (Nat → Int32)) → Prop) (g0_end : Int32) (f1 : Nat → Int32) (g0_point : Int32) (g0_begin : Int32) (f2 : Nat → Int32) : Prop :=
  wpX11_isWord [119, 97, 121] (fun (r2 : Int32) (u1 : Unit) =>
   (r2 = 0 →
    wpX11_isWord [119, 97, 108, 108] (fun (r4 : Int32) (u3 : Unit) =>
     (r4 = 0 →
      wpX11_isWord [109, 111, 114, 101] (fun (r6 : Int32) (u5 : Unit) =>
       (¬ r6 = 0 →
        wpX11_ways (fun (r8 : Int32) (u7 : Unit) =>
         wpX11_number (fun (r10 : Int32) (u9 : Int32 × Int32) =>
          (r10 < 0 →
           post 0 (u9.1, u9.2, f2)) ∧
          (¬ r10 < 0 →
           wpX11_readCorners (fun (r12 : Int32) (u11 : Int32 × Int32 × (Nat → Int32)) =>
            (r12 = 0 →
             post 0 (u11.1, u11.2.1, u11.2.2)) ∧
            (¬ r12 = 0 →
             post 1 (u11.1, u11.2.1, u11.2.2))) g0_end f1 u9.1 u9.2 f2 r10)) g0_end f1 g0_point g0_begin 0 (r8 - 1)) f2) ∧
       (r6 = 0 →
        post 0 (g0_point, g0_begin, f2))) g0_point g0_begin f1) ∧
     (¬ r4 = 0 →
      wpX11_readWall (fun (r14 : Int32) (u13 : Int32 × Int32 × (Nat → Int32)) =>
       (r14 = 0 ∨ r14 = 1) ∧ post r14 (u13.1, u13.2.1, u13.2.2)) g0_end f1 g0_point g0_begin f2)) g0_point g0_begin f1) ∧
   (¬ r2 = 0 →
    wpX11_readWay (fun (r16 : Int32) (u15 : Int32 × Int32 × (Nat → Int32)) =>
     (r16 = 0 ∨ r16 = 1) ∧ post r16 (u15.1, u15.2.1, u15.2.2)) g0_end f1 g0_point g0_begin f2)) g0_point g0_begin f1
set_option maxRecDepth 100000 in
set_option maxHeartbeats 4000000 in
theorem ctX11_readParkLine (l : Launch) (dC : Nat → ClassId) (dI : Nat → Nat → Nat) (cyI cyB cyJ cyZ : ClassId) (sz : Nat) (a0 a1 a2 b0_image b0_before b0_taken b0_five b0_value b0_far b0_lead b0_walk b0_ends b0_manX b0_manY b0_dogX b0_dogY b0_row b0_round b0_farOne b0_leads b0_drags b0_from b0_near : Nat) (g0_thrown : Int32) (g0_hasImage : Int32) (g0_remembered : Int32) (g0_taped : Int32) (g0_deep : Int32) (g0_faultAt : Int32) (g0_steps : Int32) (g0_men : Int32) (g0_dogs : Int32) (g0_end : Int32) (f1 : Nat → Int32) (g0_point : Int32) (g0_begin : Int32) (f2 : Nat → Int32) (post : Int32 → (Int32 × Int32 × (Nat → Int32)) → Prop) (adS : Nat → Nat) (hw : wpX11_readParkLine post g0_end f1 g0_point g0_begin f2 ) : Met l yX11_readParkLine wsX11_readParkLine rmX11_readParkLine (va_Pc [.ref a0] (wPreX dC dI cyI cyB cyJ cyZ sz (ceX11_readParkLine cyI cyB cyJ cyZ a0 a1 a2 b0_image b0_before b0_taken b0_five b0_value b0_far b0_lead b0_walk b0_ends b0_manX b0_manY b0_dogX b0_dogY b0_row b0_round b0_farOne b0_leads b0_drags b0_from b0_near g0_thrown g0_hasImage g0_remembered g0_taped g0_deep g0_faultAt g0_steps g0_men g0_dogs g0_end f1 g0_point g0_begin f2) (txA adS))) (va_Qi post (fun u : Int32 × Int32 × (Nat → Int32) => wAt dC dI cyI cyB cyJ cyZ (va_A (ceX11_readParkLine cyI cyB cyJ cyZ a0 a1 a2 b0_image b0_before b0_taken b0_five b0_value b0_far b0_lead b0_walk b0_ends b0_manX b0_manY b0_dogX b0_dogY b0_row b0_round b0_farOne b0_leads b0_drags b0_from b0_near g0_thrown g0_hasImage g0_remembered g0_taped g0_deep g0_faultAt g0_steps g0_men g0_dogs g0_end f1 g0_point g0_begin f2) sz) (ceX11_readParkLine cyI cyB cyJ cyZ a0 a1 a2 b0_image b0_before b0_taken b0_five b0_value b0_far b0_lead b0_walk b0_ends b0_manX b0_manY b0_dogX b0_dogY b0_row b0_round b0_farOne b0_leads b0_drags b0_from b0_near g0_thrown g0_hasImage g0_remembered g0_taped g0_deep g0_faultAt g0_steps g0_men g0_dogs g0_end f1 u.1 u.2.1 u.2.2)) (va_A (ceX11_readParkLine cyI cyB cyJ cyZ a0 a1 a2 b0_image b0_before b0_taken b0_five b0_value b0_far b0_lead b0_walk b0_ends b0_manX b0_manY b0_dogX b0_dogY b0_row b0_round b0_farOne b0_leads b0_drags b0_from b0_near g0_thrown g0_hasImage g0_remembered g0_taped g0_deep g0_faultAt g0_steps g0_men g0_dogs g0_end f1 g0_point g0_begin f2) sz)) 0 0 (va_A (ceX11_readParkLine cyI cyB cyJ cyZ a0 a1 a2 b0_image b0_before b0_taken b0_five b0_value b0_far b0_lead b0_walk b0_ends b0_manX b0_manY b0_dogX b0_dogY b0_row b0_round b0_farOne b0_leads b0_drags b0_from b0_near g0_thrown g0_hasImage g0_remembered g0_taped g0_deep g0_faultAt g0_steps g0_men g0_dogs g0_end f1 g0_point g0_begin f2) sz) := by
  refine Met.ofW (cc := cX11_readParkLine) (maxL := 2) (ret := (some .boolean)) (by decide) rfl ?_
  intro p e s m args below meth c s₁ B hml hv
  obtain ⟨rfl, ⟨hsz, hP, hK, hD0, hN⟩, hXs⟩ := hv
  have hx := B.exec
  have hb := B.bytes
  have hr := B.returns
  have hts := atoms_spec (ws := wsX11_readParkLine) B.pre
  have hown : s.vm.findClass RX11 = some m.cls := findClass_of_methodNamed B.named
  have hlocks := B.notSynchronized
  subst hsz
  have hD := hD0.self (sz := s.heap.size)
  generalize hAe : va_A (ceX11_readParkLine cyI cyB cyJ cyZ a0 a1 a2 b0_image b0_before b0_taken b0_five b0_value b0_far b0_lead b0_walk b0_ends b0_manX b0_manY b0_dogX b0_dogY b0_row b0_round b0_farOne b0_leads b0_drags b0_from b0_near g0_thrown g0_hasImage g0_remembered g0_taped g0_deep g0_faultAt g0_steps g0_men g0_dogs g0_end f1 g0_point g0_begin f2) s.heap.size = A at hD hXs ⊢
  have hA : ∀ q : Nat, s.heap.size ≤ q → A q := fun q h => by rw [← hAe]; exact Or.inr h
  have hS : va_S A s.heap s.heap [] := va_S.rf
  have C0 : cxM p s m meth c _ wsX11_readParkLine RX11 cX11_readParkLine 2 (some .boolean) := ⟨hx, hb, hr, hml, hown, hts, hlocks⟩
  have hl := lv_entry ([.ref a0]) (n := 2) (Nat.le_of_ble_eq_true rfl)
  rw [lg_entry_eq]
  generalize (lg_sl ([.ref a0]) ++ List.replicate (2 - (lg_sl ([.ref a0])).length) Slot.unset).toArray = ls at hl ⊢
  have hl : lv_has ls 2 [(0, .ref a0)] := hl
  show W p l e rmX11_readParkLine s m _ below meth c _ _ _ _ _ _
  refine wq (fun Q hQ => ?_)
  refine lv_aload_n hx hb dX11_readParkLine_0 rfl (lv_at hl 0 rfl) ?_
  refine va_ldcS hx hb hown (hXs.2 15 _ rfl).1 dX11_readParkLine_1 ?_
  have hPc := hP.sub (ws' := (ceX11_isWord cyI cyB cyJ cyZ a0 a1 a2 b0_image b0_before b0_taken b0_five b0_value b0_far b0_lead b0_walk b0_ends b0_manX b0_manY b0_dogX b0_dogY b0_row b0_round b0_farOne b0_leads b0_drags b0_from b0_near g0_thrown g0_hasImage g0_remembered g0_taped g0_end g0_deep g0_faultAt g0_steps g0_men g0_dogs g0_point g0_begin f1)) [0, 1] rfl
  have hDc := hD.sub (ws' := (ceX11_isWord cyI cyB cyJ cyZ a0 a1 a2 b0_image b0_before b0_taken b0_five b0_value b0_far b0_lead b0_walk b0_ends b0_manX b0_manY b0_dogX b0_dogY b0_row b0_round b0_farOne b0_leads b0_drags b0_from b0_near g0_thrown g0_hasImage g0_remembered g0_taped g0_end g0_deep g0_faultAt g0_steps g0_men g0_dogs g0_point g0_begin f1)) [0, 1] (by decide) rfl
  have hFc := va_free (wc := (ceX11_isWord cyI cyB cyJ cyZ a0 a1 a2 b0_image b0_before b0_taken b0_five b0_value b0_far b0_lead b0_walk b0_ends b0_manX b0_manY b0_dogX b0_dogY b0_row b0_round b0_farOne b0_leads b0_drags b0_from b0_near g0_thrown g0_hasImage g0_remembered g0_taped g0_end g0_deep g0_faultAt g0_steps g0_men g0_dogs g0_point g0_begin f1)) hD hS hA [0, 1] rfl
  refine va_calli (va_runV (As := [.ref (adS 15)]) (rest := []) ⟨hx, hb, hml, hown, hts⟩ (ctX11_isWord l dC dI cyI cyB cyJ cyZ _ a0 a1 a2 b0_image b0_before b0_taken b0_five b0_value b0_far b0_lead b0_walk b0_ends b0_manX b0_manY b0_dogX b0_dogY b0_row b0_round b0_farOne b0_leads b0_drags b0_from b0_near g0_thrown g0_hasImage g0_remembered g0_taped g0_end g0_deep g0_faultAt g0_steps g0_men g0_dogs g0_point g0_begin f1 _ [119, 97, 121] (adS 15) hw) (cwV 1 hts gX11_readParkLine_X11_isWord rfl rfl rfl (by decide +kernel) ⟨Nat.le_of_ble_eq_true rfl, Nat.le_of_ble_eq_true rfl⟩) ⟨wPreX_blind (xOk_txS [119, 97, 121] (adS 15)), va_recv hK hPc (ci := 11) (q0 := 0) rfl rfl, fun U hU hW => wPreX_of (xOk_txS [119, 97, 121] (adS 15)) hPc hK hDc hN ⟨hXs.1, (hXs.2 15 _ rfl).2⟩ hS hFc hU hW⟩ rfl rfl hl.1 rfl (lv_room (Nat.le_of_ble_eq_true rfl)) dX11_readParkLine_3 ⟨(Nat.zero_le _), (Nat.zero_le _)⟩) hS (fun q _ h => hFc q h) hFc (fun r2 u1 t H1 locs ht hvm hw hB hz1 hk1 hS => ?_)
  obtain ⟨hP1, hK1, hD1⟩ := hB
  rw [ht] at hP1
  obtain ⟨hP, hD⟩ := va_join (wr := pickW (ceX11_readParkLine cyI cyB cyJ cyZ a0 a1 a2 b0_image b0_before b0_taken b0_five b0_value b0_far b0_lead b0_walk b0_ends b0_manX b0_manY b0_dogX b0_dogY b0_row b0_round b0_farOne b0_leads b0_drags b0_from b0_near g0_thrown g0_hasImage g0_remembered g0_taped g0_deep g0_faultAt g0_steps g0_men g0_dogs g0_end f1 g0_point g0_begin f2) [2]) (w1 := (ceX11_isWord cyI cyB cyJ cyZ a0 a1 a2 b0_image b0_before b0_taken b0_five b0_value b0_far b0_lead b0_walk b0_ends b0_manX b0_manY b0_dogX b0_dogY b0_row b0_round b0_farOne b0_leads b0_drags b0_from b0_near g0_thrown g0_hasImage g0_remembered g0_taped g0_end g0_deep g0_faultAt g0_steps g0_men g0_dogs g0_point g0_begin f1)) hP hD [0, 1] [2] rfl rfl (by decide) (by decide) hk1 hFc hP1 hD1
  have hP := hP.sub (ws' := (ceX11_readParkLine cyI cyB cyJ cyZ a0 a1 a2 b0_image b0_before b0_taken b0_five b0_value b0_far b0_lead b0_walk b0_ends b0_manX b0_manY b0_dogX b0_dogY b0_row b0_round b0_farOne b0_leads b0_drags b0_from b0_near g0_thrown g0_hasImage g0_remembered g0_taped g0_deep g0_faultAt g0_steps g0_men g0_dogs g0_end f1 g0_point g0_begin f2)) [1, 2, 0] rfl
  have hD := hD.sub (ws' := (ceX11_readParkLine cyI cyB cyJ cyZ a0 a1 a2 b0_image b0_before b0_taken b0_five b0_value b0_far b0_lead b0_walk b0_ends b0_manX b0_manY b0_dogX b0_dogY b0_row b0_round b0_farOne b0_leads b0_drags b0_from b0_near g0_thrown g0_hasImage g0_remembered g0_taped g0_deep g0_faultAt g0_steps g0_men g0_dogs g0_end f1 g0_point g0_begin f2)) [1, 2, 0] (by decide) rfl
  generalize H1 = H at hP hS ⊢
  refine lv_if_eq (tgt := 14) hx hb dX11_readParkLine_6 (by decide) (fun hc => ?_) (fun hc => ?_)
  · have hw := hw.1 hc
    refine lv_aload_n hx hb dX11_readParkLine_14 rfl (lv_at hl 0 rfl) ?_
    refine va_ldcS hx hb hown (hXs.2 16 _ rfl).1 dX11_readParkLine_15 ?_
    have hPc := hP.sub (ws' := (ceX11_isWord cyI cyB cyJ cyZ a0 a1 a2 b0_image b0_before b0_taken b0_five b0_value b0_far b0_lead b0_walk b0_ends b0_manX b0_manY b0_dogX b0_dogY b0_row b0_round b0_farOne b0_leads b0_drags b0_from b0_near g0_thrown g0_hasImage g0_remembered g0_taped g0_end g0_deep g0_faultAt g0_steps g0_men g0_dogs g0_point g0_begin f1)) [0, 1] rfl
    have hDc := hD.sub (ws' := (ceX11_isWord cyI cyB cyJ cyZ a0 a1 a2 b0_image b0_before b0_taken b0_five b0_value b0_far b0_lead b0_walk b0_ends b0_manX b0_manY b0_dogX b0_dogY b0_row b0_round b0_farOne b0_leads b0_drags b0_from b0_near g0_thrown g0_hasImage g0_remembered g0_taped g0_end g0_deep g0_faultAt g0_steps g0_men g0_dogs g0_point g0_begin f1)) [0, 1] (by decide) rfl
    have hFc := va_free (wc := (ceX11_isWord cyI cyB cyJ cyZ a0 a1 a2 b0_image b0_before b0_taken b0_five b0_value b0_far b0_lead b0_walk b0_ends b0_manX b0_manY b0_dogX b0_dogY b0_row b0_round b0_farOne b0_leads b0_drags b0_from b0_near g0_thrown g0_hasImage g0_remembered g0_taped g0_end g0_deep g0_faultAt g0_steps g0_men g0_dogs g0_point g0_begin f1)) hD hS hA [0, 1] rfl
    refine va_calli (va_runV (As := [.ref (adS 16)]) (rest := []) ⟨hx, hb, hml, hown, hts⟩ (ctX11_isWord l dC dI cyI cyB cyJ cyZ _ a0 a1 a2 b0_image b0_before b0_taken b0_five b0_value b0_far b0_lead b0_walk b0_ends b0_manX b0_manY b0_dogX b0_dogY b0_row b0_round b0_farOne b0_leads b0_drags b0_from b0_near g0_thrown g0_hasImage g0_remembered g0_taped g0_end g0_deep g0_faultAt g0_steps g0_men g0_dogs g0_point g0_begin f1 _ [119, 97, 108, 108] (adS 16) hw) (cwV 1 hts gX11_readParkLine_X11_isWord rfl rfl rfl (by decide +kernel) ⟨Nat.le_of_ble_eq_true rfl, Nat.le_of_ble_eq_true rfl⟩) ⟨wPreX_blind (xOk_txS [119, 97, 108, 108] (adS 16)), va_recv hK hPc (ci := 11) (q0 := 0) rfl rfl, fun U hU hW => wPreX_of (xOk_txS [119, 97, 108, 108] (adS 16)) hPc hK hDc hN ⟨hXs.1, (hXs.2 16 _ rfl).2⟩ hS hFc hU hW⟩ rfl rfl hl.1 rfl (lv_room (Nat.le_of_ble_eq_true rfl)) dX11_readParkLine_17 ⟨(Nat.zero_le _), (Nat.zero_le _)⟩) hS (fun q _ h => hFc q h) hFc (fun r4 u3 t H1 locs ht hvm hw hB hz1 hk1 hS => ?_)
    obtain ⟨hP1, hK1, hD1⟩ := hB
    rw [ht] at hP1
    obtain ⟨hP, hD⟩ := va_join (wr := pickW (ceX11_readParkLine cyI cyB cyJ cyZ a0 a1 a2 b0_image b0_before b0_taken b0_five b0_value b0_far b0_lead b0_walk b0_ends b0_manX b0_manY b0_dogX b0_dogY b0_row b0_round b0_farOne b0_leads b0_drags b0_from b0_near g0_thrown g0_hasImage g0_remembered g0_taped g0_deep g0_faultAt g0_steps g0_men g0_dogs g0_end f1 g0_point g0_begin f2) [2]) (w1 := (ceX11_isWord cyI cyB cyJ cyZ a0 a1 a2 b0_image b0_before b0_taken b0_five b0_value b0_far b0_lead b0_walk b0_ends b0_manX b0_manY b0_dogX b0_dogY b0_row b0_round b0_farOne b0_leads b0_drags b0_from b0_near g0_thrown g0_hasImage g0_remembered g0_taped g0_end g0_deep g0_faultAt g0_steps g0_men g0_dogs g0_point g0_begin f1)) hP hD [0, 1] [2] rfl rfl (by decide) (by decide) hk1 hFc hP1 hD1
    have hP := hP.sub (ws' := (ceX11_readParkLine cyI cyB cyJ cyZ a0 a1 a2 b0_image b0_before b0_taken b0_five b0_value b0_far b0_lead b0_walk b0_ends b0_manX b0_manY b0_dogX b0_dogY b0_row b0_round b0_farOne b0_leads b0_drags b0_from b0_near g0_thrown g0_hasImage g0_remembered g0_taped g0_deep g0_faultAt g0_steps g0_men g0_dogs g0_end f1 g0_point g0_begin f2)) [1, 2, 0] rfl
    have hD := hD.sub (ws' := (ceX11_readParkLine cyI cyB cyJ cyZ a0 a1 a2 b0_image b0_before b0_taken b0_five b0_value b0_far b0_lead b0_walk b0_ends b0_manX b0_manY b0_dogX b0_dogY b0_row b0_round b0_farOne b0_leads b0_drags b0_from b0_near g0_thrown g0_hasImage g0_remembered g0_taped g0_deep g0_faultAt g0_steps g0_men g0_dogs g0_end f1 g0_point g0_begin f2)) [1, 2, 0] (by decide) rfl
    generalize H1 = H at hP hS ⊢
    refine lv_if_eq (tgt := 28) hx hb dX11_readParkLine_20 (by decide) (fun hc => ?_) (fun hc => ?_)
    · have hw := hw.1 hc
      refine lv_aload_n hx hb dX11_readParkLine_28 rfl (lv_at hl 0 rfl) ?_
      refine va_ldcS hx hb hown (hXs.2 17 _ rfl).1 dX11_readParkLine_29 ?_
      have hPc := hP.sub (ws' := (ceX11_isWord cyI cyB cyJ cyZ a0 a1 a2 b0_image b0_before b0_taken b0_five b0_value b0_far b0_lead b0_walk b0_ends b0_manX b0_manY b0_dogX b0_dogY b0_row b0_round b0_farOne b0_leads b0_drags b0_from b0_near g0_thrown g0_hasImage g0_remembered g0_taped g0_end g0_deep g0_faultAt g0_steps g0_men g0_dogs g0_point g0_begin f1)) [0, 1] rfl
      have hDc := hD.sub (ws' := (ceX11_isWord cyI cyB cyJ cyZ a0 a1 a2 b0_image b0_before b0_taken b0_five b0_value b0_far b0_lead b0_walk b0_ends b0_manX b0_manY b0_dogX b0_dogY b0_row b0_round b0_farOne b0_leads b0_drags b0_from b0_near g0_thrown g0_hasImage g0_remembered g0_taped g0_end g0_deep g0_faultAt g0_steps g0_men g0_dogs g0_point g0_begin f1)) [0, 1] (by decide) rfl
      have hFc := va_free (wc := (ceX11_isWord cyI cyB cyJ cyZ a0 a1 a2 b0_image b0_before b0_taken b0_five b0_value b0_far b0_lead b0_walk b0_ends b0_manX b0_manY b0_dogX b0_dogY b0_row b0_round b0_farOne b0_leads b0_drags b0_from b0_near g0_thrown g0_hasImage g0_remembered g0_taped g0_end g0_deep g0_faultAt g0_steps g0_men g0_dogs g0_point g0_begin f1)) hD hS hA [0, 1] rfl
      refine va_calli (va_runV (As := [.ref (adS 17)]) (rest := []) ⟨hx, hb, hml, hown, hts⟩ (ctX11_isWord l dC dI cyI cyB cyJ cyZ _ a0 a1 a2 b0_image b0_before b0_taken b0_five b0_value b0_far b0_lead b0_walk b0_ends b0_manX b0_manY b0_dogX b0_dogY b0_row b0_round b0_farOne b0_leads b0_drags b0_from b0_near g0_thrown g0_hasImage g0_remembered g0_taped g0_end g0_deep g0_faultAt g0_steps g0_men g0_dogs g0_point g0_begin f1 _ [109, 111, 114, 101] (adS 17) hw) (cwV 1 hts gX11_readParkLine_X11_isWord rfl rfl rfl (by decide +kernel) ⟨Nat.le_of_ble_eq_true rfl, Nat.le_of_ble_eq_true rfl⟩) ⟨wPreX_blind (xOk_txS [109, 111, 114, 101] (adS 17)), va_recv hK hPc (ci := 11) (q0 := 0) rfl rfl, fun U hU hW => wPreX_of (xOk_txS [109, 111, 114, 101] (adS 17)) hPc hK hDc hN ⟨hXs.1, (hXs.2 17 _ rfl).2⟩ hS hFc hU hW⟩ rfl rfl hl.1 rfl (lv_room (Nat.le_of_ble_eq_true rfl)) dX11_readParkLine_31 ⟨(Nat.zero_le _), (Nat.zero_le _)⟩) hS (fun q _ h => hFc q h) hFc (fun r6 u5 t H1 locs ht hvm hw hB hz1 hk1 hS => ?_)
      obtain ⟨hP1, hK1, hD1⟩ := hB
      rw [ht] at hP1
      obtain ⟨hP, hD⟩ := va_join (wr := pickW (ceX11_readParkLine cyI cyB cyJ cyZ a0 a1 a2 b0_image b0_before b0_taken b0_five b0_value b0_far b0_lead b0_walk b0_ends b0_manX b0_manY b0_dogX b0_dogY b0_row b0_round b0_farOne b0_leads b0_drags b0_from b0_near g0_thrown g0_hasImage g0_remembered g0_taped g0_deep g0_faultAt g0_steps g0_men g0_dogs g0_end f1 g0_point g0_begin f2) [2]) (w1 := (ceX11_isWord cyI cyB cyJ cyZ a0 a1 a2 b0_image b0_before b0_taken b0_five b0_value b0_far b0_lead b0_walk b0_ends b0_manX b0_manY b0_dogX b0_dogY b0_row b0_round b0_farOne b0_leads b0_drags b0_from b0_near g0_thrown g0_hasImage g0_remembered g0_taped g0_end g0_deep g0_faultAt g0_steps g0_men g0_dogs g0_point g0_begin f1)) hP hD [0, 1] [2] rfl rfl (by decide) (by decide) hk1 hFc hP1 hD1
      have hP := hP.sub (ws' := (ceX11_readParkLine cyI cyB cyJ cyZ a0 a1 a2 b0_image b0_before b0_taken b0_five b0_value b0_far b0_lead b0_walk b0_ends b0_manX b0_manY b0_dogX b0_dogY b0_row b0_round b0_farOne b0_leads b0_drags b0_from b0_near g0_thrown g0_hasImage g0_remembered g0_taped g0_deep g0_faultAt g0_steps g0_men g0_dogs g0_end f1 g0_point g0_begin f2)) [1, 2, 0] rfl
      have hD := hD.sub (ws' := (ceX11_readParkLine cyI cyB cyJ cyZ a0 a1 a2 b0_image b0_before b0_taken b0_five b0_value b0_far b0_lead b0_walk b0_ends b0_manX b0_manY b0_dogX b0_dogY b0_row b0_round b0_farOne b0_leads b0_drags b0_from b0_near g0_thrown g0_hasImage g0_remembered g0_taped g0_deep g0_faultAt g0_steps g0_men g0_dogs g0_end f1 g0_point g0_begin f2)) [1, 2, 0] (by decide) rfl
      generalize H1 = H at hP hS ⊢
      refine lv_if_ne (tgt := 39) hx hb dX11_readParkLine_34 (by decide) (fun hc => ?_) (fun hc => ?_)
      · have hw := hw.1 hc
        refine lv_aload_n hx hb dX11_readParkLine_39 rfl (lv_at hl 0 rfl) ?_
        refine lv_iconst (v := 0) hx hb dX11_readParkLine_40 (by decide) ?_
        refine lv_aload_n hx hb dX11_readParkLine_41 rfl (lv_at hl 0 rfl) ?_
        have hPc := hP.sub (ws' := (ceX11_ways cyI cyB cyJ cyZ a0 a2 b0_image b0_before b0_taken a1 b0_five b0_value b0_far b0_lead b0_walk b0_ends b0_manX b0_manY b0_dogX b0_dogY b0_row b0_round b0_farOne b0_leads b0_drags b0_from b0_near g0_thrown g0_hasImage g0_remembered g0_taped g0_point g0_end g0_begin g0_deep g0_faultAt g0_steps g0_men g0_dogs f2)) [0, 2] rfl
        have hDc := hD.sub (ws' := (ceX11_ways cyI cyB cyJ cyZ a0 a2 b0_image b0_before b0_taken a1 b0_five b0_value b0_far b0_lead b0_walk b0_ends b0_manX b0_manY b0_dogX b0_dogY b0_row b0_round b0_farOne b0_leads b0_drags b0_from b0_near g0_thrown g0_hasImage g0_remembered g0_taped g0_point g0_end g0_begin g0_deep g0_faultAt g0_steps g0_men g0_dogs f2)) [0, 2] (by decide) rfl
        have hFc := va_free (wc := (ceX11_ways cyI cyB cyJ cyZ a0 a2 b0_image b0_before b0_taken a1 b0_five b0_value b0_far b0_lead b0_walk b0_ends b0_manX b0_manY b0_dogX b0_dogY b0_row b0_round b0_farOne b0_leads b0_drags b0_from b0_near g0_thrown g0_hasImage g0_remembered g0_taped g0_point g0_end g0_begin g0_deep g0_faultAt g0_steps g0_men g0_dogs f2)) hD hS hA [0, 2] rfl
        refine va_calli (va_runV (As := []) (rest := [.int 0, .ref a0]) ⟨hx, hb, hml, hown, hts⟩ (ctX11_ways l dC dI cyI cyB cyJ cyZ _ a0 a2 b0_image b0_before b0_taken a1 b0_five b0_value b0_far b0_lead b0_walk b0_ends b0_manX b0_manY b0_dogX b0_dogY b0_row b0_round b0_farOne b0_leads b0_drags b0_from b0_near g0_thrown g0_hasImage g0_remembered g0_taped g0_point g0_end g0_begin g0_deep g0_faultAt g0_steps g0_men g0_dogs f2 _ hw) (cwV 0 hts gX11_readParkLine_X11_ways rfl rfl rfl (by decide +kernel) ⟨Nat.le_of_ble_eq_true rfl, Nat.le_of_ble_eq_true rfl⟩) ⟨wPre_blind, va_recv hK hPc (ci := 11) (q0 := 0) rfl rfl, fun U hU hW => wPre_of hPc hK hDc hN hU hW⟩ rfl rfl hl.1 rfl (lv_room (Nat.le_of_ble_eq_true rfl)) dX11_readParkLine_42 ⟨(Nat.zero_le _), (Nat.zero_le _)⟩) hS (fun q _ h => hFc q h) hFc (fun r8 u7 t H1 locs ht hvm hw hB hz1 hk1 hS => ?_)
        obtain ⟨hP1, hK1, hD1⟩ := hB
        rw [ht] at hP1
        obtain ⟨hP, hD⟩ := va_join (wr := pickW (ceX11_readParkLine cyI cyB cyJ cyZ a0 a1 a2 b0_image b0_before b0_taken b0_five b0_value b0_far b0_lead b0_walk b0_ends b0_manX b0_manY b0_dogX b0_dogY b0_row b0_round b0_farOne b0_leads b0_drags b0_from b0_near g0_thrown g0_hasImage g0_remembered g0_taped g0_deep g0_faultAt g0_steps g0_men g0_dogs g0_end f1 g0_point g0_begin f2) [1]) (w1 := (ceX11_ways cyI cyB cyJ cyZ a0 a2 b0_image b0_before b0_taken a1 b0_five b0_value b0_far b0_lead b0_walk b0_ends b0_manX b0_manY b0_dogX b0_dogY b0_row b0_round b0_farOne b0_leads b0_drags b0_from b0_near g0_thrown g0_hasImage g0_remembered g0_taped g0_point g0_end g0_begin g0_deep g0_faultAt g0_steps g0_men g0_dogs f2)) hP hD [0, 2] [1] rfl rfl (by decide) (by decide) hk1 hFc hP1 hD1
        have hP := hP.sub (ws' := (ceX11_readParkLine cyI cyB cyJ cyZ a0 a1 a2 b0_image b0_before b0_taken b0_five b0_value b0_far b0_lead b0_walk b0_ends b0_manX b0_manY b0_dogX b0_dogY b0_row b0_round b0_farOne b0_leads b0_drags b0_from b0_near g0_thrown g0_hasImage g0_remembered g0_taped g0_deep g0_faultAt g0_steps g0_men g0_dogs g0_end f1 g0_point g0_begin f2)) [1, 0, 2] rfl
        have hD := hD.sub (ws' := (ceX11_readParkLine cyI cyB cyJ cyZ a0 a1 a2 b0_image b0_before b0_taken b0_five b0_value b0_far b0_lead b0_walk b0_ends b0_manX b0_manY b0_dogX b0_dogY b0_row b0_round b0_farOne b0_leads b0_drags b0_from b0_near g0_thrown g0_hasImage g0_remembered g0_taped g0_deep g0_faultAt g0_steps g0_men g0_dogs g0_end f1 g0_point g0_begin f2)) [1, 0, 2] (by decide) rfl
        generalize H1 = H at hP hS ⊢
        refine lv_iconst (v := 1) hx hb dX11_readParkLine_45 (by decide) ?_
        refine lv_isub hx hb dX11_readParkLine_46 ?_
        have hPc := hP.sub (ws' := (ceX11_number cyI cyB cyJ cyZ a0 a1 a2 b0_image b0_before b0_taken b0_five b0_value b0_far b0_lead b0_walk b0_ends b0_manX b0_manY b0_dogX b0_dogY b0_row b0_round b0_farOne b0_leads b0_drags b0_from b0_near g0_thrown g0_hasImage g0_remembered g0_taped g0_deep g0_faultAt g0_steps g0_men g0_dogs g0_end f1 g0_point g0_begin)) [0, 1] rfl
        have hDc := hD.sub (ws' := (ceX11_number cyI cyB cyJ cyZ a0 a1 a2 b0_image b0_before b0_taken b0_five b0_value b0_far b0_lead b0_walk b0_ends b0_manX b0_manY b0_dogX b0_dogY b0_row b0_round b0_farOne b0_leads b0_drags b0_from b0_near g0_thrown g0_hasImage g0_remembered g0_taped g0_deep g0_faultAt g0_steps g0_men g0_dogs g0_end f1 g0_point g0_begin)) [0, 1] (by decide) rfl
        have hFc := va_free (wc := (ceX11_number cyI cyB cyJ cyZ a0 a1 a2 b0_image b0_before b0_taken b0_five b0_value b0_far b0_lead b0_walk b0_ends b0_manX b0_manY b0_dogX b0_dogY b0_row b0_round b0_farOne b0_leads b0_drags b0_from b0_near g0_thrown g0_hasImage g0_remembered g0_taped g0_deep g0_faultAt g0_steps g0_men g0_dogs g0_end f1 g0_point g0_begin)) hD hS hA [0, 1] rfl
        refine va_calli (va_runV (As := [.int 0, .int (r8 - 1)]) (rest := []) ⟨hx, hb, hml, hown, hts⟩ (ctX11_number l dC dI cyI cyB cyJ cyZ _ a0 a1 a2 b0_image b0_before b0_taken b0_five b0_value b0_far b0_lead b0_walk b0_ends b0_manX b0_manY b0_dogX b0_dogY b0_row b0_round b0_farOne b0_leads b0_drags b0_from b0_near g0_thrown g0_hasImage g0_remembered g0_taped g0_deep g0_faultAt g0_steps g0_men g0_dogs g0_end f1 g0_point g0_begin 0 (r8 - 1) _ hw) (cwV 2 hts gX11_readParkLine_X11_number rfl rfl rfl (by decide +kernel) ⟨Nat.le_of_ble_eq_true rfl, Nat.le_of_ble_eq_true rfl⟩) ⟨wPre_blind, va_recv hK hPc (ci := 11) (q0 := 0) rfl rfl, fun U hU hW => wPre_of hPc hK hDc hN hU hW⟩ rfl rfl hl.1 rfl (lv_room (Nat.le_of_ble_eq_true rfl)) dX11_readParkLine_47 ⟨(Nat.zero_le _), (Nat.zero_le _)⟩) hS (fun q _ h => hFc q h) hFc (fun r10 u9 t H1 locs ht hvm hw hB hz1 hk1 hS => ?_)
        obtain ⟨hP1, hK1, hD1⟩ := hB
        rw [ht] at hP1
        obtain ⟨hP, hD⟩ := va_join (wr := pickW (ceX11_readParkLine cyI cyB cyJ cyZ a0 a1 a2 b0_image b0_before b0_taken b0_five b0_value b0_far b0_lead b0_walk b0_ends b0_manX b0_manY b0_dogX b0_dogY b0_row b0_round b0_farOne b0_leads b0_drags b0_from b0_near g0_thrown g0_hasImage g0_remembered g0_taped g0_deep g0_faultAt g0_steps g0_men g0_dogs g0_end f1 g0_point g0_begin f2) [2]) (w1 := (ceX11_number cyI cyB cyJ cyZ a0 a1 a2 b0_image b0_before b0_taken b0_five b0_value b0_far b0_lead b0_walk b0_ends b0_manX b0_manY b0_dogX b0_dogY b0_row b0_round b0_farOne b0_leads b0_drags b0_from b0_near g0_thrown g0_hasImage g0_remembered g0_taped g0_deep g0_faultAt g0_steps g0_men g0_dogs g0_end f1 u9.1 u9.2)) hP hD [0, 1] [2] rfl rfl (by decide) (by decide) hk1 hFc hP1 hD1
        have hP := hP.sub (ws' := (ceX11_readParkLine cyI cyB cyJ cyZ a0 a1 a2 b0_image b0_before b0_taken b0_five b0_value b0_far b0_lead b0_walk b0_ends b0_manX b0_manY b0_dogX b0_dogY b0_row b0_round b0_farOne b0_leads b0_drags b0_from b0_near g0_thrown g0_hasImage g0_remembered g0_taped g0_deep g0_faultAt g0_steps g0_men g0_dogs g0_end f1 u9.1 u9.2 f2)) [1, 2, 0] rfl
        have hD := hD.sub (ws' := (ceX11_readParkLine cyI cyB cyJ cyZ a0 a1 a2 b0_image b0_before b0_taken b0_five b0_value b0_far b0_lead b0_walk b0_ends b0_manX b0_manY b0_dogX b0_dogY b0_row b0_round b0_farOne b0_leads b0_drags b0_from b0_near g0_thrown g0_hasImage g0_remembered g0_taped g0_deep g0_faultAt g0_steps g0_men g0_dogs g0_end f1 u9.1 u9.2 f2)) [1, 2, 0] (by decide) rfl
        generalize H1 = H at hP hS ⊢
        refine lv_istore_n (lv' := [(1, .int r10), (0, .ref a0)]) hx hb dX11_readParkLine_50 rfl hl (by decide) rfl (fun ls hl => ?_)
        refine lv_iload_n hx hb dX11_readParkLine_51 rfl (lv_at hl 0 rfl) ?_
        refine lv_if_lt (tgt := 67) hx hb dX11_readParkLine_52 (by decide) (fun hc => ?_) (fun hc => ?_)
        · have hw := hw.1 hc
          refine lv_iconst (v := 0) hx hb dX11_readParkLine_67 (by decide) ?_
          rw [hQ]
          exact W.zret (v := 0) (ty := .boolean) hx hb hr rfl (fun t ht hW => ⟨⟨0, (u9.1, u9.2, f2), rfl, hw, by rw [ht]; exact hP, va_K.moved hW.alike hK, hD⟩, hS.F ht⟩) hS.2.2 dX11_readParkLine_68
        · have hw := hw.2 hc
          refine lv_aload_n hx hb dX11_readParkLine_55 rfl (lv_at hl 1 rfl) ?_
          refine lv_iload_n hx hb dX11_readParkLine_56 rfl (lv_at hl 0 rfl) ?_
          have hPc := hP.sub (ws' := (ceX11_readCorners cyI cyB cyJ cyZ a0 a1 a2 b0_image b0_before b0_taken b0_five b0_value b0_far b0_lead b0_walk b0_ends b0_manX b0_manY b0_dogX b0_dogY b0_row b0_round b0_farOne b0_leads b0_drags b0_from b0_near g0_thrown g0_hasImage g0_remembered g0_taped g0_deep g0_faultAt g0_steps g0_men g0_dogs g0_end f1 u9.1 u9.2 f2)) [0, 1, 2] rfl
          have hDc := hD.sub (ws' := (ceX11_readCorners cyI cyB cyJ cyZ a0 a1 a2 b0_image b0_before b0_taken b0_five b0_value b0_far b0_lead b0_walk b0_ends b0_manX b0_manY b0_dogX b0_dogY b0_row b0_round b0_farOne b0_leads b0_drags b0_from b0_near g0_thrown g0_hasImage g0_remembered g0_taped g0_deep g0_faultAt g0_steps g0_men g0_dogs g0_end f1 u9.1 u9.2 f2)) [0, 1, 2] (by decide) rfl
          have hFc := va_free (wc := (ceX11_readCorners cyI cyB cyJ cyZ a0 a1 a2 b0_image b0_before b0_taken b0_five b0_value b0_far b0_lead b0_walk b0_ends b0_manX b0_manY b0_dogX b0_dogY b0_row b0_round b0_farOne b0_leads b0_drags b0_from b0_near g0_thrown g0_hasImage g0_remembered g0_taped g0_deep g0_faultAt g0_steps g0_men g0_dogs g0_end f1 u9.1 u9.2 f2)) hD hS hA [0, 1, 2] rfl
          refine va_calli (va_runV (As := [.int r10]) (rest := []) ⟨hx, hb, hml, hown, hts⟩ (ctX11_readCorners l dC dI cyI cyB cyJ cyZ _ a0 a1 a2 b0_image b0_before b0_taken b0_five b0_value b0_far b0_lead b0_walk b0_ends b0_manX b0_manY b0_dogX b0_dogY b0_row b0_round b0_farOne b0_leads b0_drags b0_from b0_near g0_thrown g0_hasImage g0_remembered g0_taped g0_deep g0_faultAt g0_steps g0_men g0_dogs g0_end f1 u9.1 u9.2 f2 r10 _ hw) (cwV 1 hts gX11_readParkLine_X11_readCorners rfl rfl rfl (by decide +kernel) ⟨Nat.le_of_ble_eq_true rfl, Nat.le_of_ble_eq_true rfl⟩) ⟨wPre_blind, va_recv hK hPc (ci := 11) (q0 := 0) rfl rfl, fun U hU hW => wPre_of hPc hK hDc hN hU hW⟩ rfl rfl hl.1 rfl (lv_room (Nat.le_of_ble_eq_true rfl)) dX11_readParkLine_57 ⟨(Nat.zero_le _), (Nat.zero_le _)⟩) hS (fun q _ h => hFc q h) hFc (fun r12 u11 t H1 locs ht hvm hw hB hz1 hk1 hS => ?_)
          obtain ⟨hP1, hK1, hD1⟩ := hB
          rw [ht] at hP1
          obtain ⟨hP, hD⟩ := va_join (wr := pickW (ceX11_readParkLine cyI cyB cyJ cyZ a0 a1 a2 b0_image b0_before b0_taken b0_five b0_value b0_far b0_lead b0_walk b0_ends b0_manX b0_manY b0_dogX b0_dogY b0_row b0_round b0_farOne b0_leads b0_drags b0_from b0_near g0_thrown g0_hasImage g0_remembered g0_taped g0_deep g0_faultAt g0_steps g0_men g0_dogs g0_end f1 u9.1 u9.2 f2) []) (w1 := (ceX11_readCorners cyI cyB cyJ cyZ a0 a1 a2 b0_image b0_before b0_taken b0_five b0_value b0_far b0_lead b0_walk b0_ends b0_manX b0_manY b0_dogX b0_dogY b0_row b0_round b0_farOne b0_leads b0_drags b0_from b0_near g0_thrown g0_hasImage g0_remembered g0_taped g0_deep g0_faultAt g0_steps g0_men g0_dogs g0_end f1 u11.1 u11.2.1 u11.2.2)) hP hD [0, 1, 2] [] rfl rfl (by decide) (by decide) hk1 hFc hP1 hD1
          have hP := hP.sub (ws' := (ceX11_readParkLine cyI cyB cyJ cyZ a0 a1 a2 b0_image b0_before b0_taken b0_five b0_value b0_far b0_lead b0_walk b0_ends b0_manX b0_manY b0_dogX b0_dogY b0_row b0_round b0_farOne b0_leads b0_drags b0_from b0_near g0_thrown g0_hasImage g0_remembered g0_taped g0_deep g0_faultAt g0_steps g0_men g0_dogs g0_end f1 u11.1 u11.2.1 u11.2.2)) [0, 1, 2] rfl
          have hD := hD.sub (ws' := (ceX11_readParkLine cyI cyB cyJ cyZ a0 a1 a2 b0_image b0_before b0_taken b0_five b0_value b0_far b0_lead b0_walk b0_ends b0_manX b0_manY b0_dogX b0_dogY b0_row b0_round b0_farOne b0_leads b0_drags b0_from b0_near g0_thrown g0_hasImage g0_remembered g0_taped g0_deep g0_faultAt g0_steps g0_men g0_dogs g0_end f1 u11.1 u11.2.1 u11.2.2)) [0, 1, 2] (by decide) rfl
          generalize H1 = H at hP hS ⊢
          refine lv_if_eq (tgt := 67) hx hb dX11_readParkLine_60 (by decide) (fun hc => ?_) (fun hc => ?_)
          · have hw := hw.1 hc
            refine lv_iconst (v := 0) hx hb dX11_readParkLine_67 (by decide) ?_
            rw [hQ]
            exact W.zret (v := 0) (ty := .boolean) hx hb hr rfl (fun t ht hW => ⟨⟨0, (u11.1, u11.2.1, u11.2.2), rfl, hw, by rw [ht]; exact hP, va_K.moved hW.alike hK, hD⟩, hS.F ht⟩) hS.2.2 dX11_readParkLine_68
          · have hw := hw.2 hc
            refine lv_iconst (v := 1) hx hb dX11_readParkLine_63 (by decide) ?_
            refine lv_goto (tgt := 68) hx hb dX11_readParkLine_64 (by decide) ?_
            rw [hQ]
            exact W.zret (v := 1) (ty := .boolean) hx hb hr rfl (fun t ht hW => ⟨⟨1, (u11.1, u11.2.1, u11.2.2), rfl, hw, by rw [ht]; exact hP, va_K.moved hW.alike hK, hD⟩, hS.F ht⟩) hS.2.2 dX11_readParkLine_68
      · have hw := hw.2 hc
        refine lv_iconst (v := 0) hx hb dX11_readParkLine_37 (by decide) ?_
        rw [hQ]
        exact W.zret (v := 0) (ty := .boolean) hx hb hr rfl (fun t ht hW => ⟨⟨0, (g0_point, g0_begin, f2), rfl, hw, by rw [ht]; exact hP, va_K.moved hW.alike hK, hD⟩, hS.F ht⟩) hS.2.2 dX11_readParkLine_38
    · have hw := hw.2 hc
      refine lv_aload_n hx hb dX11_readParkLine_23 rfl (lv_at hl 0 rfl) ?_
      have hPc := hP.sub (ws' := (ceX11_readWall cyI cyB cyJ cyZ a0 a2 a1 b0_image b0_before b0_taken b0_five b0_value b0_far b0_lead b0_walk b0_ends b0_manX b0_manY b0_dogX b0_dogY b0_row b0_round b0_farOne b0_leads b0_drags b0_from b0_near g0_thrown g0_hasImage g0_remembered g0_taped g0_deep g0_faultAt g0_steps g0_men g0_dogs g0_end f1 g0_point g0_begin f2)) [0, 2, 1] rfl
      have hDc := hD.sub (ws' := (ceX11_readWall cyI cyB cyJ cyZ a0 a2 a1 b0_image b0_before b0_taken b0_five b0_value b0_far b0_lead b0_walk b0_ends b0_manX b0_manY b0_dogX b0_dogY b0_row b0_round b0_farOne b0_leads b0_drags b0_from b0_near g0_thrown g0_hasImage g0_remembered g0_taped g0_deep g0_faultAt g0_steps g0_men g0_dogs g0_end f1 g0_point g0_begin f2)) [0, 2, 1] (by decide) rfl
      have hFc := va_free (wc := (ceX11_readWall cyI cyB cyJ cyZ a0 a2 a1 b0_image b0_before b0_taken b0_five b0_value b0_far b0_lead b0_walk b0_ends b0_manX b0_manY b0_dogX b0_dogY b0_row b0_round b0_farOne b0_leads b0_drags b0_from b0_near g0_thrown g0_hasImage g0_remembered g0_taped g0_deep g0_faultAt g0_steps g0_men g0_dogs g0_end f1 g0_point g0_begin f2)) hD hS hA [0, 2, 1] rfl
      refine va_calli (va_runV (As := []) (rest := []) ⟨hx, hb, hml, hown, hts⟩ (ctX11_readWall l dC dI cyI cyB cyJ cyZ _ a0 a2 a1 b0_image b0_before b0_taken b0_five b0_value b0_far b0_lead b0_walk b0_ends b0_manX b0_manY b0_dogX b0_dogY b0_row b0_round b0_farOne b0_leads b0_drags b0_from b0_near g0_thrown g0_hasImage g0_remembered g0_taped g0_deep g0_faultAt g0_steps g0_men g0_dogs g0_end f1 g0_point g0_begin f2 _ hw) (cwV 0 hts gX11_readParkLine_X11_readWall rfl rfl rfl (by decide +kernel) ⟨Nat.le_of_ble_eq_true rfl, Nat.le_of_ble_eq_true rfl⟩) ⟨wPre_blind, va_recv hK hPc (ci := 11) (q0 := 0) rfl rfl, fun U hU hW => wPre_of hPc hK hDc hN hU hW⟩ rfl rfl hl.1 rfl (lv_room (Nat.le_of_ble_eq_true rfl)) dX11_readParkLine_24 ⟨(Nat.zero_le _), (Nat.zero_le _)⟩) hS (fun q _ h => hFc q h) hFc (fun r14 u13 t H1 locs ht hvm hw hB hz1 hk1 hS => ?_)
      obtain ⟨hP1, hK1, hD1⟩ := hB
      rw [ht] at hP1
      obtain ⟨hP, hD⟩ := va_join (wr := pickW (ceX11_readParkLine cyI cyB cyJ cyZ a0 a1 a2 b0_image b0_before b0_taken b0_five b0_value b0_far b0_lead b0_walk b0_ends b0_manX b0_manY b0_dogX b0_dogY b0_row b0_round b0_farOne b0_leads b0_drags b0_from b0_near g0_thrown g0_hasImage g0_remembered g0_taped g0_deep g0_faultAt g0_steps g0_men g0_dogs g0_end f1 g0_point g0_begin f2) []) (w1 := (ceX11_readWall cyI cyB cyJ cyZ a0 a2 a1 b0_image b0_before b0_taken b0_five b0_value b0_far b0_lead b0_walk b0_ends b0_manX b0_manY b0_dogX b0_dogY b0_row b0_round b0_farOne b0_leads b0_drags b0_from b0_near g0_thrown g0_hasImage g0_remembered g0_taped g0_deep g0_faultAt g0_steps g0_men g0_dogs g0_end f1 u13.1 u13.2.1 u13.2.2)) hP hD [0, 2, 1] [] rfl rfl (by decide) (by decide) hk1 hFc hP1 hD1
      have hP := hP.sub (ws' := (ceX11_readParkLine cyI cyB cyJ cyZ a0 a1 a2 b0_image b0_before b0_taken b0_five b0_value b0_far b0_lead b0_walk b0_ends b0_manX b0_manY b0_dogX b0_dogY b0_row b0_round b0_farOne b0_leads b0_drags b0_from b0_near g0_thrown g0_hasImage g0_remembered g0_taped g0_deep g0_faultAt g0_steps g0_men g0_dogs g0_end f1 u13.1 u13.2.1 u13.2.2)) [0, 2, 1] rfl
      have hD := hD.sub (ws' := (ceX11_readParkLine cyI cyB cyJ cyZ a0 a1 a2 b0_image b0_before b0_taken b0_five b0_value b0_far b0_lead b0_walk b0_ends b0_manX b0_manY b0_dogX b0_dogY b0_row b0_round b0_farOne b0_leads b0_drags b0_from b0_near g0_thrown g0_hasImage g0_remembered g0_taped g0_deep g0_faultAt g0_steps g0_men g0_dogs g0_end f1 u13.1 u13.2.1 u13.2.2)) [0, 2, 1] (by decide) rfl
      generalize H1 = H at hP hS ⊢
      rw [hQ]
      obtain ⟨hz, hw⟩ := hw
      exact W.zret (v := r14) (ty := .boolean) hx hb hr (zb_n hz) (fun t ht hW => ⟨⟨r14, (u13.1, u13.2.1, u13.2.2), rfl, hw, by rw [ht]; exact hP, va_K.moved hW.alike hK, hD⟩, hS.F ht⟩) hS.2.2 dX11_readParkLine_27
  · have hw := hw.2 hc
    refine lv_aload_n hx hb dX11_readParkLine_9 rfl (lv_at hl 0 rfl) ?_
    have hPc := hP.sub (ws' := (ceX11_readWay cyI cyB cyJ cyZ a0 a2 a1 b0_image b0_before b0_taken b0_five b0_value b0_far b0_lead b0_walk b0_ends b0_manX b0_manY b0_dogX b0_dogY b0_row b0_round b0_farOne b0_leads b0_drags b0_from b0_near g0_thrown g0_hasImage g0_remembered g0_taped g0_deep g0_faultAt g0_steps g0_men g0_dogs g0_end f1 g0_point g0_begin f2)) [0, 2, 1] rfl
    have hDc := hD.sub (ws' := (ceX11_readWay cyI cyB cyJ cyZ a0 a2 a1 b0_image b0_before b0_taken b0_five b0_value b0_far b0_lead b0_walk b0_ends b0_manX b0_manY b0_dogX b0_dogY b0_row b0_round b0_farOne b0_leads b0_drags b0_from b0_near g0_thrown g0_hasImage g0_remembered g0_taped g0_deep g0_faultAt g0_steps g0_men g0_dogs g0_end f1 g0_point g0_begin f2)) [0, 2, 1] (by decide) rfl
    have hFc := va_free (wc := (ceX11_readWay cyI cyB cyJ cyZ a0 a2 a1 b0_image b0_before b0_taken b0_five b0_value b0_far b0_lead b0_walk b0_ends b0_manX b0_manY b0_dogX b0_dogY b0_row b0_round b0_farOne b0_leads b0_drags b0_from b0_near g0_thrown g0_hasImage g0_remembered g0_taped g0_deep g0_faultAt g0_steps g0_men g0_dogs g0_end f1 g0_point g0_begin f2)) hD hS hA [0, 2, 1] rfl
    refine va_calli (va_runV (As := []) (rest := []) ⟨hx, hb, hml, hown, hts⟩ (ctX11_readWay l dC dI cyI cyB cyJ cyZ _ a0 a2 a1 b0_image b0_before b0_taken b0_five b0_value b0_far b0_lead b0_walk b0_ends b0_manX b0_manY b0_dogX b0_dogY b0_row b0_round b0_farOne b0_leads b0_drags b0_from b0_near g0_thrown g0_hasImage g0_remembered g0_taped g0_deep g0_faultAt g0_steps g0_men g0_dogs g0_end f1 g0_point g0_begin f2 _ hw) (cwV 0 hts gX11_readParkLine_X11_readWay rfl rfl rfl (by decide +kernel) ⟨Nat.le_of_ble_eq_true rfl, Nat.le_of_ble_eq_true rfl⟩) ⟨wPre_blind, va_recv hK hPc (ci := 11) (q0 := 0) rfl rfl, fun U hU hW => wPre_of hPc hK hDc hN hU hW⟩ rfl rfl hl.1 rfl (lv_room (Nat.le_of_ble_eq_true rfl)) dX11_readParkLine_10 ⟨(Nat.zero_le _), (Nat.zero_le _)⟩) hS (fun q _ h => hFc q h) hFc (fun r16 u15 t H1 locs ht hvm hw hB hz1 hk1 hS => ?_)
    obtain ⟨hP1, hK1, hD1⟩ := hB
    rw [ht] at hP1
    obtain ⟨hP, hD⟩ := va_join (wr := pickW (ceX11_readParkLine cyI cyB cyJ cyZ a0 a1 a2 b0_image b0_before b0_taken b0_five b0_value b0_far b0_lead b0_walk b0_ends b0_manX b0_manY b0_dogX b0_dogY b0_row b0_round b0_farOne b0_leads b0_drags b0_from b0_near g0_thrown g0_hasImage g0_remembered g0_taped g0_deep g0_faultAt g0_steps g0_men g0_dogs g0_end f1 g0_point g0_begin f2) []) (w1 := (ceX11_readWay cyI cyB cyJ cyZ a0 a2 a1 b0_image b0_before b0_taken b0_five b0_value b0_far b0_lead b0_walk b0_ends b0_manX b0_manY b0_dogX b0_dogY b0_row b0_round b0_farOne b0_leads b0_drags b0_from b0_near g0_thrown g0_hasImage g0_remembered g0_taped g0_deep g0_faultAt g0_steps g0_men g0_dogs g0_end f1 u15.1 u15.2.1 u15.2.2)) hP hD [0, 2, 1] [] rfl rfl (by decide) (by decide) hk1 hFc hP1 hD1
    have hP := hP.sub (ws' := (ceX11_readParkLine cyI cyB cyJ cyZ a0 a1 a2 b0_image b0_before b0_taken b0_five b0_value b0_far b0_lead b0_walk b0_ends b0_manX b0_manY b0_dogX b0_dogY b0_row b0_round b0_farOne b0_leads b0_drags b0_from b0_near g0_thrown g0_hasImage g0_remembered g0_taped g0_deep g0_faultAt g0_steps g0_men g0_dogs g0_end f1 u15.1 u15.2.1 u15.2.2)) [0, 2, 1] rfl
    have hD := hD.sub (ws' := (ceX11_readParkLine cyI cyB cyJ cyZ a0 a1 a2 b0_image b0_before b0_taken b0_five b0_value b0_far b0_lead b0_walk b0_ends b0_manX b0_manY b0_dogX b0_dogY b0_row b0_round b0_farOne b0_leads b0_drags b0_from b0_near g0_thrown g0_hasImage g0_remembered g0_taped g0_deep g0_faultAt g0_steps g0_men g0_dogs g0_end f1 u15.1 u15.2.1 u15.2.2)) [0, 2, 1] (by decide) rfl
    generalize H1 = H at hP hS ⊢
    rw [hQ]
    obtain ⟨hz, hw⟩ := hw
    exact W.zret (v := r16) (ty := .boolean) hx hb hr (zb_n hz) (fun t ht hW => ⟨⟨r16, (u15.1, u15.2.1, u15.2.2), rfl, hw, by rw [ht]; exact hP, va_K.moved hW.alike hK, hD⟩, hS.F ht⟩) hS.2.2 dX11_readParkLine_13
/-! LeadParkModel.emits (II)V -/
abbrev ceX11_emits (cyI cyB cyJ cyZ : ClassId) (a0 a1 b0_image b0_before b0_taken b0_tape b0_five b0_value b0_far b0_lead b0_walk b0_ends b0_manX b0_manY b0_dogX b0_dogY b0_row b0_round b0_farOne b0_leads b0_drags b0_from b0_near : Nat) (g0_thrown : Int32) (g0_hasImage : Int32) (g0_remembered : Int32) (g0_taped : Int32) (g0_point : Int32) (g0_end : Int32) (g0_begin : Int32) (g0_deep : Int32) (g0_faultAt : Int32) (g0_men : Int32) (g0_dogs : Int32) (g0_steps : Int32) (f1 : Nat → Int32) : va_W := [(a0, .inr (11, [.int g0_thrown, .ref a1, .ref b0_image, .ref b0_before, .int g0_hasImage, .ref b0_taken, .int g0_remembered, .ref b0_tape, .int g0_taped, .int g0_point, .int g0_end, .int g0_begin, .int g0_deep, .int g0_faultAt, .ref b0_five, .int g0_steps, .ref b0_value, .ref b0_far, .int g0_men, .int g0_dogs, .ref b0_lead, .ref b0_walk, .ref b0_ends, .ref b0_manX, .ref b0_manY, .ref b0_dogX, .ref b0_dogY, .ref b0_row, .ref b0_round, .ref b0_farOne, .ref b0_leads, .ref b0_drags, .ref b0_from, .ref b0_near])), (a1, .inl (cyI, 2508, .inl f1))]

theorem inX11_emits_X11 : ∀ w ∈ wsX110, w ∈ wsX11_emits := fun _ h => List.mem_cons_of_mem _ (List.mem_append_right _ h)
abbrev rmX11_emits : Room := { frames := 0, cells := 0, slots := 0, locals := 0 }
def wpX11_emits (post : (Int32 × (Nat → Int32)) → Prop) (g0_steps : Int32) (f1 : Nat → Int32) (p0 : Int32) (p1 : Int32) : Prop :=
  vp_in (1708 + (2 * g0_steps)) 2508 ∧
  vp_in ((1708 + (2 * g0_steps)) + 1) 2508 ∧
  ∀ v1 : Int32, v1 = g0_steps + 1 →
  post (v1, (upd (upd f1 (1708 + (2 * g0_steps)).toNatClampNeg p0) ((1708 + (2 * g0_steps)) + 1).toNatClampNeg p1))
set_option maxRecDepth 100000 in
set_option maxHeartbeats 4000000 in
theorem ctX11_emits (l : Launch) (dC : Nat → ClassId) (dI : Nat → Nat → Nat) (cyI cyB cyJ cyZ : ClassId) (sz : Nat) (a0 a1 b0_image b0_before b0_taken b0_tape b0_five b0_value b0_far b0_lead b0_walk b0_ends b0_manX b0_manY b0_dogX b0_dogY b0_row b0_round b0_farOne b0_leads b0_drags b0_from b0_near : Nat) (g0_thrown : Int32) (g0_hasImage : Int32) (g0_remembered : Int32) (g0_taped : Int32) (g0_point : Int32) (g0_end : Int32) (g0_begin : Int32) (g0_deep : Int32) (g0_faultAt : Int32) (g0_men : Int32) (g0_dogs : Int32) (g0_steps : Int32) (f1 : Nat → Int32) (p0 : Int32) (p1 : Int32) (post : (Int32 × (Nat → Int32)) → Prop) (hw : wpX11_emits post g0_steps f1 p0 p1) : Met l yX11_emits wsX11_emits rmX11_emits (va_Pc [.ref a0, .int p0, .int p1] (wPre dC dI cyI cyB cyJ cyZ sz (ceX11_emits cyI cyB cyJ cyZ a0 a1 b0_image b0_before b0_taken b0_tape b0_five b0_value b0_far b0_lead b0_walk b0_ends b0_manX b0_manY b0_dogX b0_dogY b0_row b0_round b0_farOne b0_leads b0_drags b0_from b0_near g0_thrown g0_hasImage g0_remembered g0_taped g0_point g0_end g0_begin g0_deep g0_faultAt g0_men g0_dogs g0_steps f1))) (va_Qv post (fun u : Int32 × (Nat → Int32) => wAt dC dI cyI cyB cyJ cyZ (va_A (ceX11_emits cyI cyB cyJ cyZ a0 a1 b0_image b0_before b0_taken b0_tape b0_five b0_value b0_far b0_lead b0_walk b0_ends b0_manX b0_manY b0_dogX b0_dogY b0_row b0_round b0_farOne b0_leads b0_drags b0_from b0_near g0_thrown g0_hasImage g0_remembered g0_taped g0_point g0_end g0_begin g0_deep g0_faultAt g0_men g0_dogs g0_steps f1) sz) (ceX11_emits cyI cyB cyJ cyZ a0 a1 b0_image b0_before b0_taken b0_tape b0_five b0_value b0_far b0_lead b0_walk b0_ends b0_manX b0_manY b0_dogX b0_dogY b0_row b0_round b0_farOne b0_leads b0_drags b0_from b0_near g0_thrown g0_hasImage g0_remembered g0_taped g0_point g0_end g0_begin g0_deep g0_faultAt g0_men g0_dogs u.1 u.2)) (va_A (ceX11_emits cyI cyB cyJ cyZ a0 a1 b0_image b0_before b0_taken b0_tape b0_five b0_value b0_far b0_lead b0_walk b0_ends b0_manX b0_manY b0_dogX b0_dogY b0_row b0_round b0_farOne b0_leads b0_drags b0_from b0_near g0_thrown g0_hasImage g0_remembered g0_taped g0_point g0_end g0_begin g0_deep g0_faultAt g0_men g0_dogs g0_steps f1) sz)) 0 0 (va_A (ceX11_emits cyI cyB cyJ cyZ a0 a1 b0_image b0_before b0_taken b0_tape b0_five b0_value b0_far b0_lead b0_walk b0_ends b0_manX b0_manY b0_dogX b0_dogY b0_row b0_round b0_farOne b0_leads b0_drags b0_from b0_near g0_thrown g0_hasImage g0_remembered g0_taped g0_point g0_end g0_begin g0_deep g0_faultAt g0_men g0_dogs g0_steps f1) sz) := by
  refine Met.ofW (cc := cX11_emits) (maxL := 3) (ret := none) (by decide) rfl ?_
  intro p e s m args below meth c s₁ B hml hv
  obtain ⟨rfl, hsz, hP, hK, hD0, hN⟩ := hv
  have hx := B.exec
  have hb := B.bytes
  have hr := B.returns
  have hts := atoms_spec (ws := wsX11_emits) B.pre
  have hown : s.vm.findClass RX11 = some m.cls := findClass_of_methodNamed B.named
  have hlocks := B.notSynchronized
  subst hsz
  have hD := hD0.self (sz := s.heap.size)
  generalize hAe : va_A (ceX11_emits cyI cyB cyJ cyZ a0 a1 b0_image b0_before b0_taken b0_tape b0_five b0_value b0_far b0_lead b0_walk b0_ends b0_manX b0_manY b0_dogX b0_dogY b0_row b0_round b0_farOne b0_leads b0_drags b0_from b0_near g0_thrown g0_hasImage g0_remembered g0_taped g0_point g0_end g0_begin g0_deep g0_faultAt g0_men g0_dogs g0_steps f1) s.heap.size = A at hD ⊢
  have hA : ∀ q : Nat, s.heap.size ≤ q → A q := fun q h => by rw [← hAe]; exact Or.inr h
  have hS : va_S A s.heap s.heap [] := va_S.rf
  have C0 : cxM p s m meth c _ wsX11_emits RX11 cX11_emits 3 none := ⟨hx, hb, hr, hml, hown, hts, hlocks⟩
  have hl := lv_entry ([.ref a0, .int p0, .int p1]) (n := 3) (Nat.le_of_ble_eq_true rfl)
  rw [lg_entry_eq]
  generalize (lg_sl ([.ref a0, .int p0, .int p1]) ++ List.replicate (3 - (lg_sl ([.ref a0, .int p0, .int p1])).length) Slot.unset).toArray = ls at hl ⊢
  have hl : lv_has ls 3 [(0, .ref a0), (1, .int p0), (2, .int p1)] := hl
  show W p l e rmX11_emits s m _ below meth c _ _ _ _ _ _
  refine wq (fun Q hQ => ?_)
  refine lv_aload_n hx hb dX11_emits_0 rfl (lv_at hl 0 rfl) ?_
  refine va_get (D := (dC, dI)) (ci := 11) (v := .ref a1) (C := RX11) (T := TX11) (N := 34) hx hb hts inX11_emits_X11 hown hK hP 0 rfl rfl 1 (by decide) (hts (.fieldLink RX11 13 "LeadParkModel" "world" "[I") (List.mem_of_getElem? (i := 1) rfl)) (fun _ h9 => h9) rfl dX11_emits_1 ?_
  refine lv_sipush (v := 1708) hx hb dX11_emits_4 (by decide) ?_
  refine lv_iconst (v := 2) hx hb dX11_emits_7 (by decide) ?_
  refine lv_aload_n hx hb dX11_emits_8 rfl (lv_at hl 0 rfl) ?_
  refine va_get (D := (dC, dI)) (ci := 11) (v := .int g0_steps) (C := RX11) (T := TX11) (N := 34) hx hb hts inX11_emits_X11 hown hK hP 0 rfl rfl 15 (by decide) (hts (.fieldLink RX11 168 "LeadParkModel" "steps" "I") (List.mem_of_getElem? (i := 2) rfl)) (fun _ h9 => h9) rfl dX11_emits_9 ?_
  refine lv_imul hx hb dX11_emits_12 ?_
  refine lv_iadd hx hb dX11_emits_13 ?_
  refine lv_iload_n hx hb dX11_emits_14 rfl (lv_at hl 1 rfl) ?_
  obtain ⟨hi, hw⟩ := hw
  refine va_iast hx hb hK hP hD hS 1 0 rfl rfl hi dX11_emits_15 (fun H locs hP hD hS => ?_)
  have hP : va_P (dC, dI) vwCl (ceX11_emits cyI cyB cyJ cyZ a0 a1 b0_image b0_before b0_taken b0_tape b0_five b0_value b0_far b0_lead b0_walk b0_ends b0_manX b0_manY b0_dogX b0_dogY b0_row b0_round b0_farOne b0_leads b0_drags b0_from b0_near g0_thrown g0_hasImage g0_remembered g0_taped g0_point g0_end g0_begin g0_deep g0_faultAt g0_men g0_dogs g0_steps (upd f1 (1708 + (2 * g0_steps)).toNatClampNeg p0)) H := hP
  have hD : va_D A (ceX11_emits cyI cyB cyJ cyZ a0 a1 b0_image b0_before b0_taken b0_tape b0_five b0_value b0_far b0_lead b0_walk b0_ends b0_manX b0_manY b0_dogX b0_dogY b0_row b0_round b0_farOne b0_leads b0_drags b0_from b0_near g0_thrown g0_hasImage g0_remembered g0_taped g0_point g0_end g0_begin g0_deep g0_faultAt g0_men g0_dogs g0_steps (upd f1 (1708 + (2 * g0_steps)).toNatClampNeg p0)) := hD
  refine lv_aload_n hx hb dX11_emits_16 rfl (lv_at hl 0 rfl) ?_
  refine va_get (D := (dC, dI)) (ci := 11) (v := .ref a1) (C := RX11) (T := TX11) (N := 34) hx hb hts inX11_emits_X11 hown hK hP 0 rfl rfl 1 (by decide) (hts (.fieldLink RX11 13 "LeadParkModel" "world" "[I") (List.mem_of_getElem? (i := 1) rfl)) (fun _ h9 => h9) rfl dX11_emits_17 ?_
  refine lv_sipush (v := 1708) hx hb dX11_emits_20 (by decide) ?_
  refine lv_iconst (v := 2) hx hb dX11_emits_23 (by decide) ?_
  refine lv_aload_n hx hb dX11_emits_24 rfl (lv_at hl 0 rfl) ?_
  refine va_get (D := (dC, dI)) (ci := 11) (v := .int g0_steps) (C := RX11) (T := TX11) (N := 34) hx hb hts inX11_emits_X11 hown hK hP 0 rfl rfl 15 (by decide) (hts (.fieldLink RX11 168 "LeadParkModel" "steps" "I") (List.mem_of_getElem? (i := 2) rfl)) (fun _ h9 => h9) rfl dX11_emits_25 ?_
  refine lv_imul hx hb dX11_emits_28 ?_
  refine lv_iadd hx hb dX11_emits_29 ?_
  refine lv_iconst (v := 1) hx hb dX11_emits_30 (by decide) ?_
  refine lv_iadd hx hb dX11_emits_31 ?_
  refine lv_iload_n hx hb dX11_emits_32 rfl (lv_at hl 2 rfl) ?_
  obtain ⟨hi, hw⟩ := hw
  refine va_iast hx hb hK hP hD hS 1 0 rfl rfl hi dX11_emits_33 (fun H locs hP hD hS => ?_)
  have hP : va_P (dC, dI) vwCl (ceX11_emits cyI cyB cyJ cyZ a0 a1 b0_image b0_before b0_taken b0_tape b0_five b0_value b0_far b0_lead b0_walk b0_ends b0_manX b0_manY b0_dogX b0_dogY b0_row b0_round b0_farOne b0_leads b0_drags b0_from b0_near g0_thrown g0_hasImage g0_remembered g0_taped g0_point g0_end g0_begin g0_deep g0_faultAt g0_men g0_dogs g0_steps (upd (upd f1 (1708 + (2 * g0_steps)).toNatClampNeg p0) ((1708 + (2 * g0_steps)) + 1).toNatClampNeg p1)) H := hP
  have hD : va_D A (ceX11_emits cyI cyB cyJ cyZ a0 a1 b0_image b0_before b0_taken b0_tape b0_five b0_value b0_far b0_lead b0_walk b0_ends b0_manX b0_manY b0_dogX b0_dogY b0_row b0_round b0_farOne b0_leads b0_drags b0_from b0_near g0_thrown g0_hasImage g0_remembered g0_taped g0_point g0_end g0_begin g0_deep g0_faultAt g0_men g0_dogs g0_steps (upd (upd f1 (1708 + (2 * g0_steps)).toNatClampNeg p0) ((1708 + (2 * g0_steps)) + 1).toNatClampNeg p1)) := hD
  refine lv_aload_n hx hb dX11_emits_34 rfl (lv_at hl 0 rfl) ?_
  refine lv_dup hx hb dX11_emits_35 rfl ?_
  refine va_get (D := (dC, dI)) (ci := 11) (v := .int g0_steps) (C := RX11) (T := TX11) (N := 34) hx hb hts inX11_emits_X11 hown hK hP 0 rfl rfl 15 (by decide) (hts (.fieldLink RX11 168 "LeadParkModel" "steps" "I") (List.mem_of_getElem? (i := 2) rfl)) (fun _ h9 => h9) rfl dX11_emits_36 ?_
  refine lv_iconst (v := 1) hx hb dX11_emits_39 (by decide) ?_
  refine lv_iadd hx hb dX11_emits_40 ?_
  refine lv_topi (fun v1 ev1 => ?_)
  have hw := hw v1 ev1
  refine va_put (D := (dC, dI)) (ci := 11) (v := .int v1) (ty := .int) (C := RX11) (T := TX11) (N := 34) hx hb hts inX11_emits_X11 tyX11 tyX11_ok nmX11 hown hK hP hD hS 0 rfl rfl 15 (by decide) (hts (.fieldLink RX11 168 "LeadParkModel" "steps" "I") (List.mem_of_getElem? (i := 2) rfl)) (fun _ h9 => h9) rfl (by decide +kernel) rfl rfl (Nat.le_of_ble_eq_true rfl) dX11_emits_41 (fun H locs hP hD hS => ?_)
  have hP : va_P (dC, dI) vwCl (ceX11_emits cyI cyB cyJ cyZ a0 a1 b0_image b0_before b0_taken b0_tape b0_five b0_value b0_far b0_lead b0_walk b0_ends b0_manX b0_manY b0_dogX b0_dogY b0_row b0_round b0_farOne b0_leads b0_drags b0_from b0_near g0_thrown g0_hasImage g0_remembered g0_taped g0_point g0_end g0_begin g0_deep g0_faultAt g0_men g0_dogs v1 (upd (upd f1 (1708 + (2 * g0_steps)).toNatClampNeg p0) ((1708 + (2 * g0_steps)) + 1).toNatClampNeg p1)) H := hP
  have hD : va_D A (ceX11_emits cyI cyB cyJ cyZ a0 a1 b0_image b0_before b0_taken b0_tape b0_five b0_value b0_far b0_lead b0_walk b0_ends b0_manX b0_manY b0_dogX b0_dogY b0_row b0_round b0_farOne b0_leads b0_drags b0_from b0_near g0_thrown g0_hasImage g0_remembered g0_taped g0_point g0_end g0_begin g0_deep g0_faultAt g0_men g0_dogs v1 (upd (upd f1 (1708 + (2 * g0_steps)).toNatClampNeg p0) ((1708 + (2 * g0_steps)) + 1).toNatClampNeg p1)) := hD
  rw [hQ]
  exact W.vret hx hb hr (fun t ht hW => ⟨⟨(v1, (upd (upd f1 (1708 + (2 * g0_steps)).toNatClampNeg p0) ((1708 + (2 * g0_steps)) + 1).toNatClampNeg p1)), rfl, hw, by rw [ht]; exact hP, va_K.moved hW.alike hK, hD⟩, hS.F ht⟩) hS.2.2 dX11_emits_44
