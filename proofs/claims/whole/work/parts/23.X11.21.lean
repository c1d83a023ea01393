/-! LeadParkModel.begin (III)Z -/
abbrev ceX11_begin (cyI cyB cyJ cyZ : ClassId) (a0 a1 a2 b0_image b0_before b0_taken b0_tape b0_five b0_far b0_lead b0_walk b0_ends b0_manX b0_manY b0_dogX b0_dogY b0_row b0_round b0_farOne b0_leads b0_drags b0_from b0_near : Nat) (g0_hasImage : Int32) (g0_taped : Int32) (g0_point : Int32) (g0_end : Int32) (g0_begin : Int32) (g0_deep : Int32) (g0_faultAt : Int32) (g0_steps : Int32) (g0_men : Int32) (g0_dogs : Int32) (g0_thrown : Int32) (g0_remembered : Int32) (f1 : Nat → Int32) (f2 : Nat → Int32) : va_W := [(a0, .inr (11, [.int g0_thrown, .ref a1, .ref b0_image, .ref b0_before, .int g0_hasImage, .ref b0_taken, .int g0_remembered, .ref b0_tape, .int g0_taped, .int g0_point, .int g0_end, .int g0_begin, .int g0_deep, .int g0_faultAt, .ref b0_five, .int g0_steps, .ref a2, .ref b0_far, .int g0_men, .int g0_dogs, .ref b0_lead, .ref b0_walk, .ref b0_ends, .ref b0_manX, .ref b0_manY, .ref b0_dogX, .ref b0_dogY, .ref b0_row, .ref b0_round, .ref b0_farOne, .ref b0_leads, .ref b0_drags, .ref b0_from, .ref b0_near])), (a1, .inl (cyI, 2508, .inl f1)), (a2, .inl (cyI, 400, .inl f2))]

theorem inX11_begin_X11 : ∀ w ∈ wsX110, w ∈ wsX11_begin := fun _ h => List.mem_cons_of_mem _ (List.mem_append_right _ h)
abbrev rmX11_begin : Room := { frames := 5, cells := 0, slots := 0, locals := 142 }
def wpX11_begin_44 (post : Int32 → (Int32 × Int32 × (Nat → Int32) × (Nat → Int32)) → Prop) (g0_thrown : Int32) (g0_remembered : Int32) (f1 : Nat → Int32) (f2 : Nat → Int32) (x1 : Int32) (x2 : Int32) (x3 : Int32) (s1 : Int32) : Prop :=
  wpX11_throwsIf (fun (r2 : Int32) (u1 : Int32) =>
   (r2 = 0 →
    wpX11_isShut (fun (r4 : Int32) (u3 : (Nat → Int32)) =>
     (¬ r4 = 0 →
      post 0 (u1, g0_remembered, f1, u3)) ∧
     (r4 = 0 →
      wpX11_farAt (fun (r6 : Int32) (u5 : Unit) =>
       (r6 ≤ x3 →
        vp_in 6 2508 ∧
        vp_in 7 2508 ∧
        vp_in 8 2508 ∧
        vp_in 9 2508 ∧
        vp_in 10 2508 ∧
        vp_in 11 2508 ∧
        vp_in 12 2508 ∧
        wpX11_farAt (fun (r8 : Int32) (u7 : Unit) =>
         vp_in 13 2508 ∧
         post 1 (u1, 0, (upd (upd (upd (upd (upd (upd (upd (upd f1 (6 : Int32).toNatClampNeg 1) (7 : Int32).toNatClampNeg x1) (8 : Int32).toNatClampNeg x2) (9 : Int32).toNatClampNeg x3) (10 : Int32).toNatClampNeg 0) (11 : Int32).toNatClampNeg 0) (12 : Int32).toNatClampNeg 0) (13 : Int32).toNatClampNeg r8), u3)) (upd (upd (upd (upd (upd (upd (upd f1 (6 : Int32).toNatClampNeg 1) (7 : Int32).toNatClampNeg x1) (8 : Int32).toNatClampNeg x2) (9 : Int32).toNatClampNeg x3) (10 : Int32).toNatClampNeg 0) (11 : Int32).toNatClampNeg 0) (12 : Int32).toNatClampNeg 0) x1 0 x2 0) ∧
       (¬ r6 ≤ x3 →
        post 0 (u1, g0_remembered, f1, u3))) f1 x1 0 x2 0)) f1 f2 x1 0 x2 0) ∧
   (¬ r2 = 0 →
    post 0 (u1, g0_remembered, f1, f2))) g0_thrown s1 2
def wpX11_begin_27 (post : Int32 → (Int32 × Int32 × (Nat → Int32) × (Nat → Int32)) → Prop) (g0_thrown : Int32) (g0_remembered : Int32) (f1 : Nat → Int32) (f2 : Nat → Int32) (x1 : Int32) (x2 : Int32) (x3 : Int32) (s1 : Int32) : Prop :=
  wpX11_throwsIf (fun (r2 : Int32) (u1 : Int32) =>
   (¬ r2 = 0 →
    post 0 (u1, g0_remembered, f1, f2)) ∧
   (r2 = 0 →
    (0 ≤ x3 →
     wpX11_begin_44 post u1 g0_remembered f1 f2 x1 x2 x3 0) ∧
    (¬ 0 ≤ x3 →
     wpX11_begin_44 post u1 g0_remembered f1 f2 x1 x2 x3 1))) g0_thrown s1 1
def wpX11_begin_22 (post : Int32 → (Int32 × Int32 × (Nat → Int32) × (Nat → Int32)) → Prop) (g0_thrown : Int32) (g0_remembered : Int32) (f1 : Nat → Int32) (f2 : Nat → Int32) (x1 : Int32) (x2 : Int32) (x3 : Int32) : Prop :=
  wpX11_begin_27 post g0_thrown g0_remembered f1 f2 x1 x2 x3 1
def wpX11_begin (post : Int32 → (Int32 × Int32 × (Nat → Int32) × (Nat → Int32)) → Prop) (g0_thrown : Int32) (g0_remembered : Int32) (f1 : Nat → Int32) (f2 : Nat → Int32) (p0 : Int32) (p1 : Int32) (p2 : Int32) : Prop :=
  wpX11_noWay (fun (r2 : Int32) (u1 : Unit) =>
   (¬ r2 = 0 →
    wpX11_begin_22 post 0 g0_remembered f1 f2 p0 p1 p2) ∧
   (r2 = 0 →
    wpX11_noWay (fun (r4 : Int32) (u3 : Unit) =>
     (r4 = 0 →
      wpX11_begin_27 post 0 g0_remembered f1 f2 p0 p1 p2 0) ∧
     (¬ r4 = 0 →
      wpX11_begin_22 post 0 g0_remembered f1 f2 p0 p1 p2)) f1 p1)) f1 p0
set_option maxRecDepth 100000 in
set_option maxHeartbeats 4000000 in
theorem bX11_begin_44 {p : Program} {l : Launch} {e : Env} {s : State} {m : MethodId} {args : Array Value} {below : List Frame} {meth : Method} {c : Code} {dC : Nat → ClassId} {dI : Nat → Nat → Nat} {cyI cyB cyJ cyZ : ClassId} {A : Nat → Prop} {a0 a1 a2 b0_image b0_before b0_taken b0_tape b0_five b0_far b0_lead b0_walk b0_ends b0_manX b0_manY b0_dogX b0_dogY b0_row b0_round b0_farOne b0_leads b0_drags b0_from b0_near : Nat} {g0_hasImage : Int32} {g0_taped : Int32} {g0_point : Int32} {g0_end : Int32} {g0_begin : Int32} {g0_deep : Int32} {g0_faultAt : Int32} {g0_steps : Int32} {g0_men : Int32} {g0_dogs : Int32} (C0 : cxM p s m meth c args wsX11_begin RX11 cX11_begin 4 (some .boolean)) (hK : va_K (dC, dI) vwCl (tyA cyI cyB cyJ cyZ) s) (hN : nwA s) (hA : ∀ q : Nat, s.heap.size ≤ q → A q) {post : Int32 → (Int32 × Int32 × (Nat → Int32) × (Nat → Int32)) → Prop} {Q : State → Prop} (hQ : Q = MQ below (va_Qi post (fun u : Int32 × Int32 × (Nat → Int32) × (Nat → Int32) => wAt dC dI cyI cyB cyJ cyZ A (ceX11_begin cyI cyB cyJ cyZ a0 a1 a2 b0_image b0_before b0_taken b0_tape b0_five b0_far b0_lead b0_walk b0_ends b0_manX b0_manY b0_dogX b0_dogY b0_row b0_round b0_farOne b0_leads b0_drags b0_from b0_near g0_hasImage g0_taped g0_point g0_end g0_begin g0_deep g0_faultAt g0_steps g0_men g0_dogs u.1 u.2.1 u.2.2.1 u.2.2.2)) A) args s 0 0 A) : ∀ (g0_thrown : Int32) (g0_remembered : Int32) (f1 : Nat → Int32) (f2 : Nat → Int32) (x1 : Int32) (x2 : Int32) (x3 : Int32) (s1 : Int32), wpX11_begin_44 post g0_thrown g0_remembered f1 f2 x1 x2 x3 s1 → AtW p l e rmX11_begin s m args below meth c dC dI A Q 4 0 0 (ceX11_begin cyI cyB cyJ cyZ a0 a1 a2 b0_image b0_before b0_taken b0_tape b0_five b0_far b0_lead b0_walk b0_ends b0_manX b0_manY b0_dogX b0_dogY b0_row b0_round b0_farOne b0_leads b0_drags b0_from b0_near g0_hasImage g0_taped g0_point g0_end g0_begin g0_deep g0_faultAt g0_steps g0_men g0_dogs g0_thrown g0_remembered f1 f2) [(0, .ref a0), (1, .int x1), (2, .int x2), (3, .int x3)] 44 [.int s1, .ref a0] := by
  intro g0_thrown g0_remembered f1 f2 x1 x2 x3 s1 hw H locs hP hD hS ls hl
  have C1 := C0
  obtain ⟨hx, hb, hr, hml, hown, hts, hlocks⟩ := C1
  refine lv_iconst (v := 2) hx hb dX11_begin_44 (by decide) ?_
  have hPc := hP.sub (ws' := (ceX11_throwsIf cyI cyB cyJ cyZ a0 a1 b0_image b0_before b0_taken b0_tape b0_five a2 b0_far b0_lead b0_walk b0_ends b0_manX b0_manY b0_dogX b0_dogY b0_row b0_round b0_farOne b0_leads b0_drags b0_from b0_near g0_hasImage g0_remembered g0_taped g0_point g0_end g0_begin g0_deep g0_faultAt g0_steps g0_men g0_dogs g0_thrown)) [0] rfl
  have hDc := hD.sub (ws' := (ceX11_throwsIf cyI cyB cyJ cyZ a0 a1 b0_image b0_before b0_taken b0_tape b0_five a2 b0_far b0_lead b0_walk b0_ends b0_manX b0_manY b0_dogX b0_dogY b0_row b0_round b0_farOne b0_leads b0_drags b0_from b0_near g0_hasImage g0_remembered g0_taped g0_point g0_end g0_begin g0_deep g0_faultAt g0_steps g0_men g0_dogs g0_thrown)) [0] (by decide) rfl
  have hFc := va_free (wc := (ceX11_throwsIf cyI cyB cyJ cyZ a0 a1 b0_image b0_before b0_taken b0_tape b0_five a2 b0_far b0_lead b0_walk b0_ends b0_manX b0_manY b0_dogX b0_dogY b0_row b0_round b0_farOne b0_leads b0_drags b0_from b0_near g0_hasImage g0_remembered g0_taped g0_point g0_end g0_begin g0_deep g0_faultAt g0_steps g0_men g0_dogs g0_thrown)) hD hS hA [0] rfl
  refine va_calli (va_runV (As := [.int s1, .int 2]) (rest := []) ⟨hx, hb, hml, hown, hts⟩ (ctX11_throwsIf l dC dI cyI cyB cyJ cyZ _ a0 a1 b0_image b0_before b0_taken b0_tape b0_five a2 b0_far b0_lead b0_walk b0_ends b0_manX b0_manY b0_dogX b0_dogY b0_row b0_round b0_farOne b0_leads b0_drags b0_from b0_near g0_hasImage g0_remembered g0_taped g0_point g0_end g0_begin g0_deep g0_faultAt g0_steps g0_men g0_dogs g0_thrown s1 2 _ hw) (cwV 2 hts gX11_begin_X11_throwsIf rfl rfl rfl (by decide +kernel) ⟨Nat.le_of_ble_eq_true rfl, Nat.le_of_ble_eq_true rfl⟩) ⟨wPre_blind, va_recv hK hPc (ci := 11) (q0 := 0) rfl rfl, fun U hU hW => wPre_of hPc hK hDc hN hU hW⟩ rfl rfl hl.1 rfl (lv_room (Nat.le_of_ble_eq_true rfl)) dX11_begin_45 ⟨(Nat.zero_le _), (Nat.zero_le _)⟩) hS (fun q _ h => hFc q h) hFc (fun r2 u1 t H1 locs ht hvm hw hB hz1 hk1 hS => ?_)
  obtain ⟨hP1, hK1, hD1⟩ := hB
  rw [ht] at hP1
  obtain ⟨hP, hD⟩ := va_join (wr := pickW (ceX11_begin cyI cyB cyJ cyZ a0 a1 a2 b0_image b0_before b0_taken b0_tape b0_five b0_far b0_lead b0_walk b0_ends b0_manX b0_manY b0_dogX b0_dogY b0_row b0_round b0_farOne b0_leads b0_drags b0_from b0_near g0_hasImage g0_taped g0_point g0_end g0_begin g0_deep g0_faultAt g0_steps g0_men g0_dogs g0_thrown g0_remembered f1 f2) [1, 2]) (w1 := (ceX11_throwsIf cyI cyB cyJ cyZ a0 a1 b0_image b0_before b0_taken b0_tape b0_five a2 b0_far b0_lead b0_walk b0_ends b0_manX b0_manY b0_dogX b0_dogY b0_row b0_round b0_farOne b0_leads b0_drags b0_from b0_near g0_hasImage g0_remembered g0_taped g0_point g0_end g0_begin g0_deep g0_faultAt g0_steps g0_men g0_dogs u1)) hP hD [0] [1, 2] rfl rfl (by decide) (by decide) hk1 hFc hP1 hD1
  have hP := hP.sub (ws' := (ceX11_begin cyI cyB cyJ cyZ a0 a1 a2 b0_image b0_before b0_taken b0_tape b0_five b0_far b0_lead b0_walk b0_ends b0_manX b0_manY b0_dogX b0_dogY b0_row b0_round b0_farOne b0_leads b0_drags b0_from b0_near g0_hasImage g0_taped g0_point g0_end g0_begin g0_deep g0_faultAt g0_steps g0_men g0_dogs u1 g0_remembered f1 f2)) [2, 0, 1] rfl
  have hD := hD.sub (ws' := (ceX11_begin cyI cyB cyJ cyZ a0 a1 a2 b0_image b0_before b0_taken b0_tape b0_five b0_far b0_lead b0_walk b0_ends b0_manX b0_manY b0_dogX b0_dogY b0_row b0_round b0_farOne b0_leads b0_drags b0_from b0_near g0_hasImage g0_taped g0_point g0_end g0_begin g0_deep g0_faultAt g0_steps g0_men g0_dogs u1 g0_remembered f1 f2)) [2, 0, 1] (by decide) rfl
  generalize H1 = H at hP hS ⊢
  refine lv_if_eq (tgt := 53) hx hb dX11_begin_48 (by decide) (fun hc => ?_) (fun hc => ?_)
  · have hw := hw.1 hc
    refine lv_aload_n hx hb dX11_begin_53 rfl (lv_at hl 0 rfl) ?_
    refine lv_iload_n hx hb dX11_begin_54 rfl (lv_at hl 1 rfl) ?_
    refine lv_iconst (v := 0) hx hb dX11_begin_55 (by decide) ?_
    refine lv_iload_n hx hb dX11_begin_56 rfl (lv_at hl 2 rfl) ?_
    refine lv_iconst (v := 0) hx hb dX11_begin_57 (by decide) ?_
    have hPc := hP.sub (ws' := (ceX11_isShut cyI cyB cyJ cyZ a0 a1 a2 b0_image b0_before b0_taken b0_tape b0_five b0_far b0_lead b0_walk b0_ends b0_manX b0_manY b0_dogX b0_dogY b0_row b0_round b0_farOne b0_leads b0_drags b0_from b0_near u1 g0_hasImage g0_remembered g0_taped g0_point g0_end g0_begin g0_deep g0_faultAt g0_steps g0_men g0_dogs f1 f2)) [0, 1, 2] rfl
    have hDc := hD.sub (ws' := (ceX11_isShut cyI cyB cyJ cyZ a0 a1 a2 b0_image b0_before b0_taken b0_tape b0_five b0_far b0_lead b0_walk b0_ends b0_manX b0_manY b0_dogX b0_dogY b0_row b0_round b0_farOne b0_leads b0_drags b0_from b0_near u1 g0_hasImage g0_remembered g0_taped g0_point g0_end g0_begin g0_deep g0_faultAt g0_steps g0_men g0_dogs f1 f2)) [0, 1, 2] (by decide) rfl
    have hFc := va_free (wc := (ceX11_isShut cyI cyB cyJ cyZ a0 a1 a2 b0_image b0_before b0_taken b0_tape b0_five b0_far b0_lead b0_walk b0_ends b0_manX b0_manY b0_dogX b0_dogY b0_row b0_round b0_farOne b0_leads b0_drags b0_from b0_near u1 g0_hasImage g0_remembered g0_taped g0_point g0_end g0_begin g0_deep g0_faultAt g0_steps g0_men g0_dogs f1 f2)) hD hS hA [0, 1, 2] rfl
    refine va_calli (va_runV (As := [.int x1, .int 0, .int x2, .int 0]) (rest := []) ⟨hx, hb, hml, hown, hts⟩ (ctX11_isShut l dC dI cyI cyB cyJ cyZ _ a0 a1 a2 b0_image b0_before b0_taken b0_tape b0_five b0_far b0_lead b0_walk b0_ends b0_manX b0_manY b0_dogX b0_dogY b0_row b0_round b0_farOne b0_leads b0_drags b0_from b0_near u1 g0_hasImage g0_remembered g0_taped g0_point g0_end g0_begin g0_deep g0_faultAt g0_steps g0_men g0_dogs f1 f2 x1 0 x2 0 _ hw) (cwV 4 hts gX11_begin_X11_isShut rfl rfl rfl (by decide +kernel) ⟨Nat.le_of_ble_eq_true rfl, Nat.le_of_ble_eq_true rfl⟩) ⟨wPre_blind, va_recv hK hPc (ci := 11) (q0 := 0) rfl rfl, fun U hU hW => wPre_of hPc hK hDc hN hU hW⟩ rfl rfl hl.1 rfl (lv_room (Nat.le_of_ble_eq_true rfl)) dX11_begin_58 ⟨(Nat.zero_le _), (Nat.zero_le _)⟩) hS (fun q _ h => hFc q h) hFc (fun r4 u3 t H1 locs ht hvm hw hB hz1 hk1 hS => ?_)
    obtain ⟨hP1, hK1, hD1⟩ := hB
    rw [ht] at hP1
    obtain ⟨hP, hD⟩ := va_join (wr := pickW (ceX11_begin cyI cyB cyJ cyZ a0 a1 a2 b0_image b0_before b0_taken b0_tape b0_five b0_far b0_lead b0_walk b0_ends b0_manX b0_manY b0_dogX b0_dogY b0_row b0_round b0_farOne b0_leads b0_drags b0_from b0_near g0_hasImage g0_taped g0_point g0_end g0_begin g0_deep g0_faultAt g0_steps g0_men g0_dogs u1 g0_remembered f1 f2) []) (w1 := (ceX11_isShut cyI cyB cyJ cyZ a0 a1 a2 b0_image b0_before b0_taken b0_tape b0_five b0_far b0_lead b0_walk b0_ends b0_manX b0_manY b0_dogX b0_dogY b0_row b0_round b0_farOne b0_leads b0_drags b0_from b0_near u1 g0_hasImage g0_remembered g0_taped g0_point g0_end g0_begin g0_deep g0_faultAt g0_steps g0_men g0_dogs f1 u3)) hP hD [0, 1, 2] [] rfl rfl (by decide) (by decide) hk1 hFc hP1 hD1
    have hP := hP.sub (ws' := (ceX11_begin cyI cyB cyJ cyZ a0 a1 a2 b0_image b0_before b0_taken b0_tape b0_five b0_far b0_lead b0_walk b0_ends b0_manX b0_manY b0_dogX b0_dogY b0_row b0_round b0_farOne b0_leads b0_drags b0_from b0_near g0_hasImage g0_taped g0_point g0_end g0_begin g0_deep g0_faultAt g0_steps g0_men g0_dogs u1 g0_remembered f1 u3)) [0, 1, 2] rfl
    have hD := hD.sub (ws' := (ceX11_begin cyI cyB cyJ cyZ a0 a1 a2 b0_image b0_before b0_taken b0_tape b0_five b0_far b0_lead b0_walk b0_ends b0_manX b0_manY b0_dogX b0_dogY b0_row b0_round b0_farOne b0_leads b0_drags b0_from b0_near g0_hasImage g0_taped g0_point g0_end g0_begin g0_deep g0_faultAt g0_steps g0_men g0_dogs u1 g0_remembered f1 u3)) [0, 1, 2] (by decide) rfl
    generalize H1 = H at hP hS ⊢
    refine lv_if_ne (tgt := 76) hx hb dX11_begin_61 (by decide) (fun hc => ?_) (fun hc => ?_)
    · have hw := hw.1 hc
      refine lv_iconst (v := 0) hx hb dX11_begin_76 (by decide) ?_
      rw [hQ]
      exact W.zret (v := 0) (ty := .boolean) hx hb hr rfl (fun t ht hW => ⟨⟨0, (u1, g0_remembered, f1, u3), rfl, hw, by rw [ht]; exact hP, va_K.moved hW.alike hK, hD⟩, hS.F ht⟩) hS.2.2 dX11_begin_77
    · have hw := hw.2 hc
      refine lv_aload_n hx hb dX11_begin_64 rfl (lv_at hl 0 rfl) ?_
      refine lv_iload_n hx hb dX11_begin_65 rfl (lv_at hl 1 rfl) ?_
      refine lv_iconst (v := 0) hx hb dX11_begin_66 (by decide) ?_
      refine lv_iload_n hx hb dX11_begin_67 rfl (lv_at hl 2 rfl) ?_
      refine lv_iconst (v := 0) hx hb dX11_begin_68 (by decide) ?_
      have hPc := hP.sub (ws' := (ceX11_farAt cyI cyB cyJ cyZ a0 a1 b0_image b0_before b0_taken b0_tape b0_five a2 b0_far b0_lead b0_walk b0_ends b0_manX b0_manY b0_dogX b0_dogY b0_row b0_round b0_farOne b0_leads b0_drags b0_from b0_near u1 g0_hasImage g0_remembered g0_taped g0_point g0_end g0_begin g0_deep g0_faultAt g0_steps g0_men g0_dogs f1)) [0, 1] rfl
      have hDc := hD.sub (ws' := (ceX11_farAt cyI cyB cyJ cyZ a0 a1 b0_image b0_before b0_taken b0_tape b0_five a2 b0_far b0_lead b0_walk b0_ends b0_manX b0_manY b0_dogX b0_dogY b0_row b0_round b0_farOne b0_leads b0_drags b0_from b0_near u1 g0_hasImage g0_remembered g0_taped g0_point g0_end g0_begin g0_deep g0_faultAt g0_steps g0_men g0_dogs f1)) [0, 1] (by decide) rfl
      have hFc := va_free (wc := (ceX11_farAt cyI cyB cyJ cyZ a0 a1 b0_image b0_before b0_taken b0_tape b0_five a2 b0_far b0_lead b0_walk b0_ends b0_manX b0_manY b0_dogX b0_dogY b0_row b0_round b0_farOne b0_leads b0_drags b0_from b0_near u1 g0_hasImage g0_remembered g0_taped g0_point g0_end g0_begin g0_deep g0_faultAt g0_steps g0_men g0_dogs f1)) hD hS hA [0, 1] rfl
      refine va_calli (va_runV (As := [.int x1, .int 0, .int x2, .int 0]) (rest := []) ⟨hx, hb, hml, hown, hts⟩ (ctX11_farAt l dC dI cyI cyB cyJ cyZ _ a0 a1 b0_image b0_before b0_taken b0_tape b0_five a2 b0_far b0_lead b0_walk b0_ends b0_manX b0_manY b0_dogX b0_dogY b0_row b0_round b0_farOne b0_leads b0_drags b0_from b0_near u1 g0_hasImage g0_remembered g0_taped g0_point g0_end g0_begin g0_deep g0_faultAt g0_steps g0_men g0_dogs f1 x1 0 x2 0 _ hw) (cwV 4 hts gX11_begin_X11_farAt rfl rfl rfl (by decide +kernel) ⟨Nat.le_of_ble_eq_true rfl, Nat.le_of_ble_eq_true rfl⟩) ⟨wPre_blind, va_recv hK hPc (ci := 11) (q0 := 0) rfl rfl, fun U hU hW => wPre_of hPc hK hDc hN hU hW⟩ rfl rfl hl.1 rfl (lv_room (Nat.le_of_ble_eq_true rfl)) dX11_begin_69 ⟨(Nat.zero_le _), (Nat.zero_le _)⟩) hS (fun q _ h => hFc q h) hFc (fun r6 u5 t H1 locs ht hvm hw hB hz1 hk1 hS => ?_)
      obtain ⟨hP1, hK1, hD1⟩ := hB
      rw [ht] at hP1
      obtain ⟨hP, hD⟩ := va_join (wr := pickW (ceX11_begin cyI cyB cyJ cyZ a0 a1 a2 b0_image b0_before b0_taken b0_tape b0_five b0_far b0_lead b0_walk b0_ends b0_manX b0_manY b0_dogX b0_dogY b0_row b0_round b0_farOne b0_leads b0_drags b0_from b0_near g0_hasImage g0_taped g0_point g0_end g0_begin g0_deep g0_faultAt g0_steps g0_men g0_dogs u1 g0_remembered f1 u3) [2]) (w1 := (ceX11_farAt cyI cyB cyJ cyZ a0 a1 b0_image b0_before b0_taken b0_tape b0_five a2 b0_far b0_lead b0_walk b0_ends b0_manX b0_manY b0_dogX b0_dogY b0_row b0_round b0_farOne b0_leads b0_drags b0_from b0_near u1 g0_hasImage g0_remembered g0_taped g0_point g0_end g0_begin g0_deep g0_faultAt g0_steps g0_men g0_dogs f1)) hP hD [0, 1] [2] rfl rfl (by decide) (by decide) hk1 hFc hP1 hD1
      have hP := hP.sub (ws' := (ceX11_begin cyI cyB cyJ cyZ a0 a1 a2 b0_image b0_before b0_taken b0_tape b0_five b0_far b0_lead b0_walk b0_ends b0_manX b0_manY b0_dogX b0_dogY b0_row b0_round b0_farOne b0_leads b0_drags b0_from b0_near g0_hasImage g0_taped g0_point g0_end g0_begin g0_deep g0_faultAt g0_steps g0_men g0_dogs u1 g0_remembered f1 u3)) [1, 2, 0] rfl
      have hD := hD.sub (ws' := (ceX11_begin cyI cyB cyJ cyZ a0 a1 a2 b0_image b0_before b0_taken b0_tape b0_five b0_far b0_lead b0_walk b0_ends b0_manX b0_manY b0_dogX b0_dogY b0_row b0_round b0_farOne b0_leads b0_drags b0_from b0_near g0_hasImage g0_taped g0_point g0_end g0_begin g0_deep g0_faultAt g0_steps g0_men g0_dogs u1 g0_remembered f1 u3)) [1, 2, 0] (by decide) rfl
      generalize H1 = H at hP hS ⊢
      refine lv_iload_n hx hb dX11_begin_72 rfl (lv_at hl 3 rfl) ?_
      refine lv_icmp_le (tgt := 78) hx hb dX11_begin_73 (by decide) (fun hc => ?_) (fun hc => ?_)
      · have hw := hw.1 hc
        refine lv_aload_n hx hb dX11_begin_78 rfl (lv_at hl 0 rfl) ?_
        refine va_get (D := (dC, dI)) (ci := 11) (v := .ref a1) (C := RX11) (T := TX11) (N := 34) hx hb hts inX11_begin_X11 hown hK hP 0 rfl rfl 1 (by decide) (hts (.fieldLink RX11 13 "LeadParkModel" "world" "[I") (List.mem_of_getElem? (i := 2) rfl)) (fun _ h9 => h9) rfl dX11_begin_79 ?_
        refine lv_bipush (v := 6) hx hb dX11_begin_82 (by decide) ?_
        refine lv_iconst (v := 1) hx hb dX11_begin_84 (by decide) ?_
        obtain ⟨hi, hw⟩ := hw
        refine va_iast hx hb hK hP hD hS 1 0 rfl rfl hi dX11_begin_85 (fun H locs hP hD hS => ?_)
        have hP : va_P (dC, dI) vwCl (ceX11_begin cyI cyB cyJ cyZ a0 a1 a2 b0_image b0_before b0_taken b0_tape b0_five b0_far b0_lead b0_walk b0_ends b0_manX b0_manY b0_dogX b0_dogY b0_row b0_round b0_farOne b0_leads b0_drags b0_from b0_near g0_hasImage g0_taped g0_point g0_end g0_begin g0_deep g0_faultAt g0_steps g0_men g0_dogs u1 g0_remembered (upd f1 (6 : Int32).toNatClampNeg 1) u3) H := hP
        have hD : va_D A (ceX11_begin cyI cyB cyJ cyZ a0 a1 a2 b0_image b0_before b0_taken b0_tape b0_five b0_far b0_lead b0_walk b0_ends b0_manX b0_manY b0_dogX b0_dogY b0_row b0_round b0_farOne b0_leads b0_drags b0_from b0_near g0_hasImage g0_taped g0_point g0_end g0_begin g0_deep g0_faultAt g0_steps g0_men g0_dogs u1 g0_remembered (upd f1 (6 : Int32).toNatClampNeg 1) u3) := hD
        refine lv_aload_n hx hb dX11_begin_86 rfl (lv_at hl 0 rfl) ?_
        refine va_get (D := (dC, dI)) (ci := 11) (v := .ref a1) (C := RX11) (T := TX11) (N := 34) hx hb hts inX11_begin_X11 hown hK hP 0 rfl rfl 1 (by decide) (hts (.fieldLink RX11 13 "LeadParkModel" "world" "[I") (List.mem_of_getElem? (i := 2) rfl)) (fun _ h9 => h9) rfl dX11_begin_87 ?_
        refine lv_bipush (v := 7) hx hb dX11_begin_90 (by decide) ?_
        refine lv_iload_n hx hb dX11_begin_92 rfl (lv_at hl 1 rfl) ?_
        obtain ⟨hi, hw⟩ := hw
        refine va_iast hx hb hK hP hD hS 1 0 rfl rfl hi dX11_begin_93 (fun H locs hP hD hS => ?_)
        have hP : va_P (dC, dI) vwCl (ceX11_begin cyI cyB cyJ cyZ a0 a1 a2 b0_image b0_before b0_taken b0_tape b0_five b0_far b0_lead b0_walk b0_ends b0_manX b0_manY b0_dogX b0_dogY b0_row b0_round b0_farOne b0_leads b0_drags b0_from b0_near g0_hasImage g0_taped g0_point g0_end g0_begin g0_deep g0_faultAt g0_steps g0_men g0_dogs u1 g0_remembered (upd (upd f1 (6 : Int32).toNatClampNeg 1) (7 : Int32).toNatClampNeg x1) u3) H := hP
        have hD : va_D A (ceX11_begin cyI cyB cyJ cyZ a0 a1 a2 b0_image b0_before b0_taken b0_tape b0_five b0_far b0_lead b0_walk b0_ends b0_manX b0_manY b0_dogX b0_dogY b0_row b0_round b0_farOne b0_leads b0_drags b0_from b0_near g0_hasImage g0_taped g0_point g0_end g0_begin g0_deep g0_faultAt g0_steps g0_men g0_dogs u1 g0_remembered (upd (upd f1 (6 : Int32).toNatClampNeg 1) (7 : Int32).toNatClampNeg x1) u3) := hD
        refine lv_aload_n hx hb dX11_begin_94 rfl (lv_at hl 0 rfl) ?_
        refine va_get (D := (dC, dI)) (ci := 11) (v := .ref a1) (C := RX11) (T := TX11) (N := 34) hx hb hts inX11_begin_X11 hown hK hP 0 rfl rfl 1 (by decide) (hts (.fieldLink RX11 13 "LeadParkModel" "world" "[I") (List.mem_of_getElem? (i := 2) rfl)) (fun _ h9 => h9) rfl dX11_begin_95 ?_
        refine lv_bipush (v := 8) hx hb dX11_begin_98 (by decide) ?_
        refine lv_iload_n hx hb dX11_begin_100 rfl (lv_at hl 2 rfl) ?_
        obtain ⟨hi, hw⟩ := hw
        refine va_iast hx hb hK hP hD hS 1 0 rfl rfl hi dX11_begin_101 (fun H locs hP hD hS => ?_)
        have hP : va_P (dC, dI) vwCl (ceX11_begin cyI cyB cyJ cyZ a0 a1 a2 b0_image b0_before b0_taken b0_tape b0_five b0_far b0_lead b0_walk b0_ends b0_manX b0_manY b0_dogX b0_dogY b0_row b0_round b0_farOne b0_leads b0_drags b0_from b0_near g0_hasImage g0_taped g0_point g0_end g0_begin g0_deep g0_faultAt g0_steps g0_men g0_dogs u1 g0_remembered (upd (upd (upd f1 (6 : Int32).toNatClampNeg 1) (7 : Int32).toNatClampNeg x1) (8 : Int32).toNatClampNeg x2) u3) H := hP
        have hD : va_D A (ceX11_begin cyI cyB cyJ cyZ a0 a1 a2 b0_image b0_before b0_taken b0_tape b0_five b0_far b0_lead b0_walk b0_ends b0_manX b0_manY b0_dogX b0_dogY b0_row b0_round b0_farOne b0_leads b0_drags b0_from b0_near g0_hasImage g0_taped g0_point g0_end g0_begin g0_deep g0_faultAt g0_steps g0_men g0_dogs u1 g0_remembered (upd (upd (upd f1 (6 : Int32).toNatClampNeg 1) (7 : Int32).toNatClampNeg x1) (8 : Int32).toNatClampNeg x2) u3) := hD
        refine lv_aload_n hx hb dX11_begin_102 rfl (lv_at hl 0 rfl) ?_
        refine va_get (D := (dC, dI)) (ci := 11) (v := .ref a1) (C := RX11) (T := TX11) (N := 34) hx hb hts inX11_begin_X11 hown hK hP 0 rfl rfl 1 (by decide) (hts (.fieldLink RX11 13 "LeadParkModel" "world" "[I") (List.mem_of_getElem? (i := 2) rfl)) (fun _ h9 => h9) rfl dX11_begin_103 ?_
        refine lv_bipush (v := 9) hx hb dX11_begin_106 (by decide) ?_
        refine lv_iload_n hx hb dX11_begin_108 rfl (lv_at hl 3 rfl) ?_
        obtain ⟨hi, hw⟩ := hw
        refine va_iast hx hb hK hP hD hS 1 0 rfl rfl hi dX11_begin_109 (fun H locs hP hD hS => ?_)
        have hP : va_P (dC, dI) vwCl (ceX11_begin cyI cyB cyJ cyZ a0 a1 a2 b0_image b0_before b0_taken b0_tape b0_five b0_far b0_lead b0_walk b0_ends b0_manX b0_manY b0_dogX b0_dogY b0_row b0_round b0_farOne b0_leads b0_drags b0_from b0_near g0_hasImage g0_taped g0_point g0_end g0_begin g0_deep g0_faultAt g0_steps g0_men g0_dogs u1 g0_remembered (upd (upd (upd (upd f1 (6 : Int32).toNatClampNeg 1) (7 : Int32).toNatClampNeg x1) (8 : Int32).toNatClampNeg x2) (9 : Int32).toNatClampNeg x3) u3) H := hP
        have hD : va_D A (ceX11_begin cyI cyB cyJ cyZ a0 a1 a2 b0_image b0_before b0_taken b0_tape b0_five b0_far b0_lead b0_walk b0_ends b0_manX b0_manY b0_dogX b0_dogY b0_row b0_round b0_farOne b0_leads b0_drags b0_from b0_near g0_hasImage g0_taped g0_point g0_end g0_begin g0_deep g0_faultAt g0_steps g0_men g0_dogs u1 g0_remembered (upd (upd (upd (upd f1 (6 : Int32).toNatClampNeg 1) (7 : Int32).toNatClampNeg x1) (8 : Int32).toNatClampNeg x2) (9 : Int32).toNatClampNeg x3) u3) := hD
        refine lv_aload_n hx hb dX11_begin_110 rfl (lv_at hl 0 rfl) ?_
        refine va_get (D := (dC, dI)) (ci := 11) (v := .ref a1) (C := RX11) (T := TX11) (N := 34) hx hb hts inX11_begin_X11 hown hK hP 0 rfl rfl 1 (by decide) (hts (.fieldLink RX11 13 "LeadParkModel" "world" "[I") (List.mem_of_getElem? (i := 2) rfl)) (fun _ h9 => h9) rfl dX11_begin_111 ?_
        refine lv_bipush (v := 10) hx hb dX11_begin_114 (by decide) ?_
        refine lv_iconst (v := 0) hx hb dX11_begin_116 (by decide) ?_
        obtain ⟨hi, hw⟩ := hw
        refine va_iast hx hb hK hP hD hS 1 0 rfl rfl hi dX11_begin_117 (fun H locs hP hD hS => ?_)
        have hP : va_P (dC, dI) vwCl (ceX11_begin cyI cyB cyJ cyZ a0 a1 a2 b0_image b0_before b0_taken b0_tape b0_five b0_far b0_lead b0_walk b0_ends b0_manX b0_manY b0_dogX b0_dogY b0_row b0_round b0_farOne b0_leads b0_drags b0_from b0_near g0_hasImage g0_taped g0_point g0_end g0_begin g0_deep g0_faultAt g0_steps g0_men g0_dogs u1 g0_remembered (upd (upd (upd (upd (upd f1 (6 : Int32).toNatClampNeg 1) (7 : Int32).toNatClampNeg x1) (8 : Int32).toNatClampNeg x2) (9 : Int32).toNatClampNeg x3) (10 : Int32).toNatClampNeg 0) u3) H := hP
        have hD : va_D A (ceX11_begin cyI cyB cyJ cyZ a0 a1 a2 b0_image b0_before b0_taken b0_tape b0_five b0_far b0_lead b0_walk b0_ends b0_manX b0_manY b0_dogX b0_dogY b0_row b0_round b0_farOne b0_leads b0_drags b0_from b0_near g0_hasImage g0_taped g0_point g0_end g0_begin g0_deep g0_faultAt g0_steps g0_men g0_dogs u1 g0_remembered (upd (upd (upd (upd (upd f1 (6 : Int32).toNatClampNeg 1) (7 : Int32).toNatClampNeg x1) (8 : Int32).toNatClampNeg x2) (9 : Int32).toNatClampNeg x3) (10 : Int32).toNatClampNeg 0) u3) := hD
        refine lv_aload_n hx hb dX11_begin_118 rfl (lv_at hl 0 rfl) ?_
        refine va_get (D := (dC, dI)) (ci := 11) (v := .ref a1) (C := RX11) (T := TX11) (N := 34) hx hb hts inX11_begin_X11 hown hK hP 0 rfl rfl 1 (by decide) (hts (.fieldLink RX11 13 "LeadParkModel" "world" "[I") (List.mem_of_getElem? (i := 2) rfl)) (fun _ h9 => h9) rfl dX11_begin_119 ?_
        refine lv_bipush (v := 11) hx hb dX11_begin_122 (by decide) ?_
        refine lv_iconst (v := 0) hx hb dX11_begin_124 (by decide) ?_
        obtain ⟨hi, hw⟩ := hw
        refine va_iast hx hb hK hP hD hS 1 0 rfl rfl hi dX11_begin_125 (fun H locs hP hD hS => ?_)
        have hP : va_P (dC, dI) vwCl (ceX11_begin cyI cyB cyJ cyZ a0 a1 a2 b0_image b0_before b0_taken b0_tape b0_five b0_far b0_lead b0_walk b0_ends b0_manX b0_manY b0_dogX b0_dogY b0_row b0_round b0_farOne b0_leads b0_drags b0_from b0_near g0_hasImage g0_taped g0_point g0_end g0_begin g0_deep g0_faultAt g0_steps g0_men g0_dogs u1 g0_remembered (upd (upd (upd (upd (upd (upd f1 (6 : Int32).toNatClampNeg 1) (7 : Int32).toNatClampNeg x1) (8 : Int32).toNatClampNeg x2) (9 : Int32).toNatClampNeg x3) (10 : Int32).toNatClampNeg 0) (11 : Int32).toNatClampNeg 0) u3) H := hP
        have hD : va_D A (ceX11_begin cyI cyB cyJ cyZ a0 a1 a2 b0_image b0_before b0_taken b0_tape b0_five b0_far b0_lead b0_walk b0_ends b0_manX b0_manY b0_dogX b0_dogY b0_row b0_round b0_farOne b0_leads b0_drags b0_from b0_near g0_hasImage g0_taped g0_point g0_end g0_begin g0_deep g0_faultAt g0_steps g0_men g0_dogs u1 g0_remembered (upd (upd (upd (upd (upd (upd f1 (6 : Int32).toNatClampNeg 1) (7 : Int32).toNatClampNeg x1) (8 : Int32).toNatClampNeg x2) (9 : Int32).toNatClampNeg x3) (10 : Int32).toNatClampNeg 0) (11 : Int32).toNatClampNeg 0) u3) := hD
        refine lv_aload_n hx hb dX11_begin_126 rfl (lv_at hl 0 rfl) ?_
        refine va_get (D := (dC, dI)) (ci := 11) (v := .ref a1) (C := RX11) (T := TX11) (N := 34) hx hb hts inX11_begin_X11 hown hK hP 0 rfl rfl 1 (by decide) (hts (.fieldLink RX11 13 "LeadParkModel" "world" "[I") (List.mem_of_getElem? (i := 2) rfl)) (fun _ h9 => h9) rfl dX11_begin_127 ?_
        refine lv_bipush (v := 12) hx hb dX11_begin_130 (by decide) ?_
        refine lv_iconst (v := 0) hx hb dX11_begin_132 (by decide) ?_
        obtain ⟨hi, hw⟩ := hw
        refine va_iast hx hb hK hP hD hS 1 0 rfl rfl hi dX11_begin_133 (fun H locs hP hD hS => ?_)
        have hP : va_P (dC, dI) vwCl (ceX11_begin cyI cyB cyJ cyZ a0 a1 a2 b0_image b0_before b0_taken b0_tape b0_five b0_far b0_lead b0_walk b0_ends b0_manX b0_manY b0_dogX b0_dogY b0_row b0_round b0_farOne b0_leads b0_drags b0_from b0_near g0_hasImage g0_taped g0_point g0_end g0_begin g0_deep g0_faultAt g0_steps g0_men g0_dogs u1 g0_remembered (upd (upd (upd (upd (upd (upd (upd f1 (6 : Int32).toNatClampNeg 1) (7 : Int32).toNatClampNeg x1) (8 : Int32).toNatClampNeg x2) (9 : Int32).toNatClampNeg x3) (10 : Int32).toNatClampNeg 0) (11 : Int32).toNatClampNeg 0) (12 : Int32).toNatClampNeg 0) u3) H := hP
        have hD : va_D A (ceX11_begin cyI cyB cyJ cyZ a0 a1 a2 b0_image b0_before b0_taken b0_tape b0_five b0_far b0_lead b0_walk b0_ends b0_manX b0_manY b0_dogX b0_dogY b0_row b0_round b0_farOne b0_leads b0_drags b0_from b0_near g0_hasImage g0_taped g0_point g0_end g0_begin g0_deep g0_faultAt g0_steps g0_men g0_dogs u1 g0_remembered (upd (upd (upd (upd (upd (upd (upd f1 (6 : Int32).toNatClampNeg 1) (7 : Int32).toNatClampNeg x1) (8 : Int32).toNatClampNeg x2) (9 : Int32).toNatClampNeg x3) (10 : Int32).toNatClampNeg 0) (11 : Int32).toNatClampNeg 0) (12 : Int32).toNatClampNeg 0) u3) := hD
        refine lv_aload_n hx hb dX11_begin_134 rfl (lv_at hl 0 rfl) ?_
        refine va_get (D := (dC, dI)) (ci := 11) (v := .ref a1) (C := RX11) (T := TX11) (N := 34) hx hb hts inX11_begin_X11 hown hK hP 0 rfl rfl 1 (by decide) (hts (.fieldLink RX11 13 "LeadParkModel" "world" "[I") (List.mem_of_getElem? (i := 2) rfl)) (fun _ h9 => h9) rfl dX11_begin_135 ?_
        refine lv_bipush (v := 13) hx hb dX11_begin_138 (by decide) ?_
        refine lv_aload_n hx hb dX11_begin_140 rfl (lv_at hl 0 rfl) ?_
        refine lv_iload_n hx hb dX11_begin_141 rfl (lv_at hl 1 rfl) ?_
        refine lv_iconst (v := 0) hx hb dX11_begin_142 (by decide) ?_
        refine lv_iload_n hx hb dX11_begin_143 rfl (lv_at hl 2 rfl) ?_
        refine lv_iconst (v := 0) hx hb dX11_begin_144 (by decide) ?_
        have hPc := hP.sub (ws' := (ceX11_farAt cyI cyB cyJ cyZ a0 a1 b0_image b0_before b0_taken b0_tape b0_five a2 b0_far b0_lead b0_walk b0_ends b0_manX b0_manY b0_dogX b0_dogY b0_row b0_round b0_farOne b0_leads b0_drags b0_from b0_near u1 g0_hasImage g0_remembered g0_taped g0_point g0_end g0_begin g0_deep g0_faultAt g0_steps g0_men g0_dogs (upd (upd (upd (upd (upd (upd (upd f1 (6 : Int32).toNatClampNeg 1) (7 : Int32).toNatClampNeg x1) (8 : Int32).toNatClampNeg x2) (9 : Int32).toNatClampNeg x3) (10 : Int32).toNatClampNeg 0) (11 : Int32).toNatClampNeg 0) (12 : Int32).toNatClampNeg 0))) [0, 1] rfl
        have hDc := hD.sub (ws' := (ceX11_farAt cyI cyB cyJ cyZ a0 a1 b0_image b0_before b0_taken b0_tape b0_five a2 b0_far b0_lead b0_walk b0_ends b0_manX b0_manY b0_dogX b0_dogY b0_row b0_round b0_farOne b0_leads b0_drags b0_from b0_near u1 g0_hasImage g0_remembered g0_taped g0_point g0_end g0_begin g0_deep g0_faultAt g0_steps g0_men g0_dogs (upd (upd (upd (upd (upd (upd (upd f1 (6 : Int32).toNatClampNeg 1) (7 : Int32).toNatClampNeg x1) (8 : Int32).toNatClampNeg x2) (9 : Int32).toNatClampNeg x3) (10 : Int32).toNatClampNeg 0) (11 : Int32).toNatClampNeg 0) (12 : Int32).toNatClampNeg 0))) [0, 1] (by decide) rfl
        have hFc := va_free (wc := (ceX11_farAt cyI cyB cyJ cyZ a0 a1 b0_image b0_before b0_taken b0_tape b0_five a2 b0_far b0_lead b0_walk b0_ends b0_manX b0_manY b0_dogX b0_dogY b0_row b0_round b0_farOne b0_leads b0_drags b0_from b0_near u1 g0_hasImage g0_remembered g0_taped g0_point g0_end g0_begin g0_deep g0_faultAt g0_steps g0_men g0_dogs (upd (upd (upd (upd (upd (upd (upd f1 (6 : Int32).toNatClampNeg 1) (7 : Int32).toNatClampNeg x1) (8 : Int32).toNatClampNeg x2) (9 : Int32).toNatClampNeg x3) (10 : Int32).toNatClampNeg 0) (11 : Int32).toNatClampNeg 0) (12 : Int32).toNatClampNeg 0))) hD hS hA [0, 1] rfl
        refine va_calli (va_runV (As := [.int x1, .int 0, .int x2, .int 0]) (rest := [.int 13, .ref a1]) ⟨hx, hb, hml, hown, hts⟩ (ctX11_farAt l dC dI cyI cyB cyJ cyZ _ a0 a1 b0_image b0_before b0_taken b0_tape b0_five a2 b0_far b0_lead b0_walk b0_ends b0_manX b0_manY b0_dogX b0_dogY b0_row b0_round b0_farOne b0_leads b0_drags b0_from b0_near u1 g0_hasImage g0_remembered g0_taped g0_point g0_end g0_begin g0_deep g0_faultAt g0_steps g0_men g0_dogs (upd (upd (upd (upd (upd (upd (upd f1 (6 : Int32).toNatClampNeg 1) (7 : Int32).toNatClampNeg x1) (8 : Int32).toNatClampNeg x2) (9 : Int32).toNatClampNeg x3) (10 : Int32).toNatClampNeg 0) (11 : Int32).toNatClampNeg 0) (12 : Int32).toNatClampNeg 0) x1 0 x2 0 _ hw) (cwV 4 hts gX11_begin_X11_farAt rfl rfl rfl (by decide +kernel) ⟨Nat.le_of_ble_eq_true rfl, Nat.le_of_ble_eq_true rfl⟩) ⟨wPre_blind, va_recv hK hPc (ci := 11) (q0 := 0) rfl rfl, fun U hU hW => wPre_of hPc hK hDc hN hU hW⟩ rfl rfl hl.1 rfl (lv_room (Nat.le_of_ble_eq_true rfl)) dX11_begin_145 ⟨(Nat.zero_le _), (Nat.zero_le _)⟩) hS (fun q _ h => hFc q h) hFc (fun r8 u7 t H1 locs ht hvm hw hB hz1 hk1 hS => ?_)
        obtain ⟨hP1, hK1, hD1⟩ := hB
        rw [ht] at hP1
        obtain ⟨hP, hD⟩ := va_join (wr := pickW (ceX11_begin cyI cyB cyJ cyZ a0 a1 a2 b0_image b0_before b0_taken b0_tape b0_five b0_far b0_lead b0_walk b0_ends b0_manX b0_manY b0_dogX b0_dogY b0_row b0_round b0_farOne b0_leads b0_drags b0_from b0_near g0_hasImage g0_taped g0_point g0_end g0_begin g0_deep g0_faultAt g0_steps g0_men g0_dogs u1 g0_remembered (upd (upd (upd (upd (upd (upd (upd f1 (6 : Int32).toNatClampNeg 1) (7 : Int32).toNatClampNeg x1) (8 : Int32).toNatClampNeg x2) (9 : Int32).toNatClampNeg x3) (10 : Int32).toNatClampNeg 0) (11 : Int32).toNatClampNeg 0) (12 : Int32).toNatClampNeg 0) u3) [2]) (w1 := (ceX11_farAt cyI cyB cyJ cyZ a0 a1 b0_image b0_before b0_taken b0_tape b0_five a2 b0_far b0_lead b0_walk b0_ends b0_manX b0_manY b0_dogX b0_dogY b0_row b0_round b0_farOne b0_leads b0_drags b0_from b0_near u1 g0_hasImage g0_remembered g0_taped g0_point g0_end g0_begin g0_deep g0_faultAt g0_steps g0_men g0_dogs (upd (upd (upd (upd (upd (upd (upd f1 (6 : Int32).toNatClampNeg 1) (7 : Int32).toNatClampNeg x1) (8 : Int32).toNatClampNeg x2) (9 : Int32).toNatClampNeg x3) (10 : Int32).toNatClampNeg 0) (11 : Int32).toNatClampNeg 0) (12 : Int32).toNatClampNeg 0))) hP hD [0, 1] [2] rfl rfl (by decide) (by decide) hk1 hFc hP1 hD1
        have hP := hP.sub (ws' := (ceX11_begin cyI cyB cyJ cyZ a0 a1 a2 b0_image b0_before b0_taken b0_tape b0_five b0_far b0_lead b0_walk b0_ends b0_manX b0_manY b0_dogX b0_dogY b0_row b0_round b0_farOne b0_leads b0_drags b0_from b0_near g0_hasImage g0_taped g0_point g0_end g0_begin g0_deep g0_faultAt g0_steps g0_men g0_dogs u1 g0_remembered (upd (upd (upd (upd (upd (upd (upd f1 (6 : Int32).toNatClampNeg 1) (7 : Int32).toNatClampNeg x1) (8 : Int32).toNatClampNeg x2) (9 : Int32).toNatClampNeg x3) (10 : Int32).toNatClampNeg 0) (11 : Int32).toNatClampNeg 0) (12 : Int32).toNatClampNeg 0) u3)) [1, 2, 0] rfl
        have hD := hD.sub (ws' := (ceX11_begin cyI cyB cyJ cyZ a0 a1 a2 b0_image b0_before b0_taken b0_tape b0_five b0_far b0_lead b0_walk b0_ends b0_manX b0_manY b0_dogX b0_dogY b0_row b0_round b0_farOne b0_leads b0_drags b0_from b0_near g0_hasImage g0_taped g0_point g0_end g0_begin g0_deep g0_faultAt g0_steps g0_men g0_dogs u1 g0_remembered (upd (upd (upd (upd (upd (upd (upd f1 (6 : Int32).toNatClampNeg 1) (7 : Int32).toNatClampNeg x1) (8 : Int32).toNatClampNeg x2) (9 : Int32).toNatClampNeg x3) (10 : Int32).toNatClampNeg 0) (11 : Int32).toNatClampNeg 0) (12 : Int32).toNatClampNeg 0) u3)) [1, 2, 0] (by decide) rfl
        generalize H1 = H at hP hS ⊢
        obtain ⟨hi, hw⟩ := hw
        refine va_iast hx hb hK hP hD hS 1 0 rfl rfl hi dX11_begin_148 (fun H locs hP hD hS => ?_)
        have hP : va_P (dC, dI) vwCl (ceX11_begin cyI cyB cyJ cyZ a0 a1 a2 b0_image b0_before b0_taken b0_tape b0_five b0_far b0_lead b0_walk b0_ends b0_manX b0_manY b0_dogX b0_dogY b0_row b0_round b0_farOne b0_leads b0_drags b0_from b0_near g0_hasImage g0_taped g0_point g0_end g0_begin g0_deep g0_faultAt g0_steps g0_men g0_dogs u1 g0_remembered (upd (upd (upd (upd (upd (upd (upd (upd f1 (6 : Int32).toNatClampNeg 1) (7 : Int32).toNatClampNeg x1) (8 : Int32).toNatClampNeg x2) (9 : Int32).toNatClampNeg x3) (10 : Int32).toNatClampNeg 0) (11 : Int32).toNatClampNeg 0) (12 : Int32).toNatClampNeg 0) (13 : Int32).toNatClampNeg r8) u3) H := hP
        have hD : va_D A (ceX11_begin cyI cyB cyJ cyZ a0 a1 a2 b0_image b0_before b0_taken b0_tape b0_five b0_far b0_lead b0_walk b0_ends b0_manX b0_manY b0_dogX b0_dogY b0_row b0_round b0_farOne b0_leads b0_drags b0_from b0_near g0_hasImage g0_taped g0_point g0_end g0_begin g0_deep g0_faultAt g0_steps g0_men g0_dogs u1 g0_remembered (upd (upd (upd (upd (upd (upd (upd (upd f1 (6 : Int32).toNatClampNeg 1) (7 : Int32).toNatClampNeg x1) (8 : Int32).toNatClampNeg x2) (9 : Int32).toNatClampNeg x3) (10 : Int32).toNatClampNeg 0) (11 : Int32).toNatClampNeg 0) (12 : Int32).toNatClampNeg 0) (13 : Int32).toNatClampNeg r8) u3) := hD
        refine lv_aload_n hx hb dX11_begin_149 rfl (lv_at hl 0 rfl) ?_
        refine lv_iconst (v := 0) hx hb dX11_begin_150 (by decide) ?_
        refine va_put (D := (dC, dI)) (ci := 11) (v := .int 0) (ty := .int) (C := RX11) (T := TX11) (N := 34) hx hb hts inX11_begin_X11 tyX11 tyX11_ok nmX11 hown hK hP hD hS 0 rfl rfl 6 (by decide) (hts (.fieldLink RX11 90 "LeadParkModel" "remembered" "I") (List.mem_of_getElem? (i := 3) rfl)) (fun _ h9 => h9) rfl (by decide +kernel) rfl rfl (Nat.le_of_ble_eq_true rfl) dX11_begin_151 (fun H locs hP hD hS => ?_)
        have hP : va_P (dC, dI) vwCl (ceX11_begin cyI cyB cyJ cyZ a0 a1 a2 b0_image b0_before b0_taken b0_tape b0_five b0_far b0_lead b0_walk b0_ends b0_manX b0_manY b0_dogX b0_dogY b0_row b0_round b0_farOne b0_leads b0_drags b0_from b0_near g0_hasImage g0_taped g0_point g0_end g0_begin g0_deep g0_faultAt g0_steps g0_men g0_dogs u1 0 (upd (upd (upd (upd (upd (upd (upd (upd f1 (6 : Int32).toNatClampNeg 1) (7 : Int32).toNatClampNeg x1) (8 : Int32).toNatClampNeg x2) (9 : Int32).toNatClampNeg x3) (10 : Int32).toNatClampNeg 0) (11 : Int32).toNatClampNeg 0) (12 : Int32).toNatClampNeg 0) (13 : Int32).toNatClampNeg r8) u3) H := hP
        have hD : va_D A (ceX11_begin cyI cyB cyJ cyZ a0 a1 a2 b0_image b0_before b0_taken b0_tape b0_five b0_far b0_lead b0_walk b0_ends b0_manX b0_manY b0_dogX b0_dogY b0_row b0_round b0_farOne b0_leads b0_drags b0_from b0_near g0_hasImage g0_taped g0_point g0_end g0_begin g0_deep g0_faultAt g0_steps g0_men g0_dogs u1 0 (upd (upd (upd (upd (upd (upd (upd (upd f1 (6 : Int32).toNatClampNeg 1) (7 : Int32).toNatClampNeg x1) (8 : Int32).toNatClampNeg x2) (9 : Int32).toNatClampNeg x3) (10 : Int32).toNatClampNeg 0) (11 : Int32).toNatClampNeg 0) (12 : Int32).toNatClampNeg 0) (13 : Int32).toNatClampNeg r8) u3) := hD
        refine lv_iconst (v := 1) hx hb dX11_begin_154 (by decide) ?_
        rw [hQ]
        exact W.zret (v := 1) (ty := .boolean) hx hb hr rfl (fun t ht hW => ⟨⟨1, (u1, 0, (upd (upd (upd (upd (upd (upd (upd (upd f1 (6 : Int32).toNatClampNeg 1) (7 : Int32).toNatClampNeg x1) (8 : Int32).toNatClampNeg x2) (9 : Int32).toNatClampNeg x3) (10 : Int32).toNatClampNeg 0) (11 : Int32).toNatClampNeg 0) (12 : Int32).toNatClampNeg 0) (13 : Int32).toNatClampNeg r8), u3), rfl, hw, by rw [ht]; exact hP, va_K.moved hW.alike hK, hD⟩, hS.F ht⟩) hS.2.2 dX11_begin_155
      · have hw := hw.2 hc
        refine lv_iconst (v := 0) hx hb dX11_begin_76 (by decide) ?_
        rw [hQ]
        exact W.zret (v := 0) (ty := .boolean) hx hb hr rfl (fun t ht hW => ⟨⟨0, (u1, g0_remembered, f1, u3), rfl, hw, by rw [ht]; exact hP, va_K.moved hW.alike hK, hD⟩, hS.F ht⟩) hS.2.2 dX11_begin_77
  · have hw := hw.2 hc
    refine lv_iconst (v := 0) hx hb dX11_begin_51 (by decide) ?_
    rw [hQ]
    exact W.zret (v := 0) (ty := .boolean) hx hb hr rfl (fun t ht hW => ⟨⟨0, (u1, g0_remembered, f1, f2), rfl, hw, by rw [ht]; exact hP, va_K.moved hW.alike hK, hD⟩, hS.F ht⟩) hS.2.2 dX11_begin_52
set_option maxRecDepth 100000 in
set_option maxHeartbeats 4000000 in
theorem bX11_begin_27 {p : Program} {l : Launch} {e : Env} {s : State} {m : MethodId} {args : Array Value} {below : List Frame} {meth : Method} {c : Code} {dC : Nat → ClassId} {dI : Nat → Nat → Nat} {cyI cyB cyJ cyZ : ClassId} {A : Nat → Prop} {a0 a1 a2 b0_image b0_before b0_taken b0_tape b0_five b0_far b0_lead b0_walk b0_ends b0_manX b0_manY b0_dogX b0_dogY b0_row b0_round b0_farOne b0_leads b0_drags b0_from b0_near : Nat} {g0_hasImage : Int32} {g0_taped : Int32} {g0_point : Int32} {g0_end : Int32} {g0_begin : Int32} {g0_deep : Int32} {g0_faultAt : Int32} {g0_steps : Int32} {g0_men : Int32} {g0_dogs : Int32} (C0 : cxM p s m meth c args wsX11_begin RX11 cX11_begin 4 (some .boolean)) (hK : va_K (dC, dI) vwCl (tyA cyI cyB cyJ cyZ) s) (hN : nwA s) (hA : ∀ q : Nat, s.heap.size ≤ q → A q) {post : Int32 → (Int32 × Int32 × (Nat → Int32) × (Nat → Int32)) → Prop} {Q : State → Prop} (hQ : Q = MQ below (va_Qi post (fun u : Int32 × Int32 × (Nat → Int32) × (Nat → Int32) => wAt dC dI cyI cyB cyJ cyZ A (ceX11_begin cyI cyB cyJ cyZ a0 a1 a2 b0_image b0_before b0_taken b0_tape b0_five b0_far b0_lead b0_walk b0_ends b0_manX b0_manY b0_dogX b0_dogY b0_row b0_round b0_farOne b0_leads b0_drags b0_from b0_near g0_hasImage g0_taped g0_point g0_end g0_begin g0_deep g0_faultAt g0_steps g0_men g0_dogs u.1 u.2.1 u.2.2.1 u.2.2.2)) A) args s 0 0 A) : ∀ (g0_thrown : Int32) (g0_remembered : Int32) (f1 : Nat → Int32) (f2 : Nat → Int32) (x1 : Int32) (x2 : Int32) (x3 : Int32) (s1 : Int32), wpX11_begin_27 post g0_thrown g0_remembered f1 f2 x1 x2 x3 s1 → AtW p l e rmX11_begin s m args below meth c dC dI A Q 4 0 0 (ceX11_begin cyI cyB cyJ cyZ a0 a1 a2 b0_image b0_before b0_taken b0_tape b0_five b0_far b0_lead b0_walk b0_ends b0_manX b0_manY b0_dogX b0_dogY b0_row b0_round b0_farOne b0_leads b0_drags b0_from b0_near g0_hasImage g0_taped g0_point g0_end g0_begin g0_deep g0_faultAt g0_steps g0_men g0_dogs g0_thrown g0_remembered f1 f2) [(0, .ref a0), (1, .int x1), (2, .int x2), (3, .int x3)] 27 [.int s1, .ref a0] := by
  intro g0_thrown g0_remembered f1 f2 x1 x2 x3 s1 hw H locs hP hD hS ls hl
  have C1 := C0
  obtain ⟨hx, hb, hr, hml, hown, hts, hlocks⟩ := C1
  refine lv_iconst (v := 1) hx hb dX11_begin_27 (by decide) ?_
  have hPc := hP.sub (ws' := (ceX11_throwsIf cyI cyB cyJ cyZ a0 a1 b0_image b0_before b0_taken b0_tape b0_five a2 b0_far b0_lead b0_walk b0_ends b0_manX b0_manY b0_dogX b0_dogY b0_row b0_round b0_farOne b0_leads b0_drags b0_from b0_near g0_hasImage g0_remembered g0_taped g0_point g0_end g0_begin g0_deep g0_faultAt g0_steps g0_men g0_dogs g0_thrown)) [0] rfl
  have hDc := hD.sub (ws' := (ceX11_throwsIf cyI cyB cyJ cyZ a0 a1 b0_image b0_before b0_taken b0_tape b0_five a2 b0_far b0_lead b0_walk b0_ends b0_manX b0_manY b0_dogX b0_dogY b0_row b0_round b0_farOne b0_leads b0_drags b0_from b0_near g0_hasImage g0_remembered g0_taped g0_point g0_end g0_begin g0_deep g0_faultAt g0_steps g0_men g0_dogs g0_thrown)) [0] (by decide) rfl
  have hFc := va_free (wc := (ceX11_throwsIf cyI cyB cyJ cyZ a0 a1 b0_image b0_before b0_taken b0_tape b0_five a2 b0_far b0_lead b0_walk b0_ends b0_manX b0_manY b0_dogX b0_dogY b0_row b0_round b0_farOne b0_leads b0_drags b0_from b0_near g0_hasImage g0_remembered g0_taped g0_point g0_end g0_begin g0_deep g0_faultAt g0_steps g0_men g0_dogs g0_thrown)) hD hS hA [0] rfl
  refine va_calli (va_runV (As := [.int s1, .int 1]) (rest := []) ⟨hx, hb, hml, hown, hts⟩ (ctX11_throwsIf l dC dI cyI cyB cyJ cyZ _ a0 a1 b0_image b0_before b0_taken b0_tape b0_five a2 b0_far b0_lead b0_walk b0_ends b0_manX b0_manY b0_dogX b0_dogY b0_row b0_round b0_farOne b0_leads b0_drags b0_from b0_near g0_hasImage g0_remembered g0_taped g0_point g0_end g0_begin g0_deep g0_faultAt g0_steps g0_men g0_dogs g0_thrown s1 1 _ hw) (cwV 2 hts gX11_begin_X11_throwsIf rfl rfl rfl (by decide +kernel) ⟨Nat.le_of_ble_eq_true rfl, Nat.le_of_ble_eq_true rfl⟩) ⟨wPre_blind, va_recv hK hPc (ci := 11) (q0 := 0) rfl rfl, fun U hU hW => wPre_of hPc hK hDc hN hU hW⟩ rfl rfl hl.1 rfl (lv_room (Nat.le_of_ble_eq_true rfl)) dX11_begin_28 ⟨(Nat.zero_le _), (Nat.zero_le _)⟩) hS (fun q _ h => hFc q h) hFc (fun r2 u1 t H1 locs ht hvm hw hB hz1 hk1 hS => ?_)
  obtain ⟨hP1, hK1, hD1⟩ := hB
  rw [ht] at hP1
  obtain ⟨hP, hD⟩ := va_join (wr := pickW (ceX11_begin cyI cyB cyJ cyZ a0 a1 a2 b0_image b0_before b0_taken b0_tape b0_five b0_far b0_lead b0_walk b0_ends b0_manX b0_manY b0_dogX b0_dogY b0_row b0_round b0_farOne b0_leads b0_drags b0_from b0_near g0_hasImage g0_taped g0_point g0_end g0_begin g0_deep g0_faultAt g0_steps g0_men g0_dogs g0_thrown g0_remembered f1 f2) [1, 2]) (w1 := (ceX11_throwsIf cyI cyB cyJ cyZ a0 a1 b0_image b0_before b0_taken b0_tape b0_five a2 b0_far b0_lead b0_walk b0_ends b0_manX b0_manY b0_dogX b0_dogY b0_row b0_round b0_farOne b0_leads b0_drags b0_from b0_near g0_hasImage g0_remembered g0_taped g0_point g0_end g0_begin g0_deep g0_faultAt g0_steps g0_men g0_dogs u1)) hP hD [0] [1, 2] rfl rfl (by decide) (by decide) hk1 hFc hP1 hD1
  have hP := hP.sub (ws' := (ceX11_begin cyI cyB cyJ cyZ a0 a1 a2 b0_image b0_before b0_taken b0_tape b0_five b0_far b0_lead b0_walk b0_ends b0_manX b0_manY b0_dogX b0_dogY b0_row b0_round b0_farOne b0_leads b0_drags b0_from b0_near g0_hasImage g0_taped g0_point g0_end g0_begin g0_deep g0_faultAt g0_steps g0_men g0_dogs u1 g0_remembered f1 f2)) [2, 0, 1] rfl
  have hD := hD.sub (ws' := (ceX11_begin cyI cyB cyJ cyZ a0 a1 a2 b0_image b0_before b0_taken b0_tape b0_five b0_far b0_lead b0_walk b0_ends b0_manX b0_manY b0_dogX b0_dogY b0_row b0_round b0_farOne b0_leads b0_drags b0_from b0_near g0_hasImage g0_taped g0_point g0_end g0_begin g0_deep g0_faultAt g0_steps g0_men g0_dogs u1 g0_remembered f1 f2)) [2, 0, 1] (by decide) rfl
  generalize H1 = H at hP hS ⊢
  refine lv_if_ne (tgt := 51) hx hb dX11_begin_31 (by decide) (fun hc => ?_) (fun hc => ?_)
  · have hw := hw.1 hc
    refine lv_iconst (v := 0) hx hb dX11_begin_51 (by decide) ?_
    rw [hQ]
    exact W.zret (v := 0) (ty := .boolean) hx hb hr rfl (fun t ht hW => ⟨⟨0, (u1, g0_remembered, f1, f2), rfl, hw, by rw [ht]; exact hP, va_K.moved hW.alike hK, hD⟩, hS.F ht⟩) hS.2.2 dX11_begin_52
  · have hw := hw.2 hc
    refine lv_aload_n hx hb dX11_begin_34 rfl (lv_at hl 0 rfl) ?_
    refine lv_iload_n hx hb dX11_begin_35 rfl (lv_at hl 3 rfl) ?_
    refine lv_if_ge (tgt := 43) hx hb dX11_begin_36 (by decide) (fun hc => ?_) (fun hc => ?_)
    · have hw := hw.1 hc
      refine lv_iconst (v := 0) hx hb dX11_begin_43 (by decide) ?_
      exact bX11_begin_44 C0 hK hN hA hQ u1 g0_remembered f1 f2 x1 x2 x3 0 hw _ _ hP hD hS ls (lv_sub hl [0, 1, 2, 3] rfl)
    · have hw := hw.2 hc
      refine lv_iconst (v := 1) hx hb dX11_begin_39 (by decide) ?_
      refine lv_goto (tgt := 44) hx hb dX11_begin_40 (by decide) ?_
      exact bX11_begin_44 C0 hK hN hA hQ u1 g0_remembered f1 f2 x1 x2 x3 1 hw _ _ hP hD hS ls (lv_sub hl [0, 1, 2, 3] rfl)
set_option maxRecDepth 100000 in
set_option maxHeartbeats 4000000 in
theorem bX11_begin_22 {p : Program} {l : Launch} {e : Env} {s : State} {m : MethodId} {args : Array Value} {below : List Frame} {meth : Method} {c : Code} {dC : Nat → ClassId} {dI : Nat → Nat → Nat} {cyI cyB cyJ cyZ : ClassId} {A : Nat → Prop} {a0 a1 a2 b0_image b0_before b0_taken b0_tape b0_five b0_far b0_lead b0_walk b0_ends b0_manX b0_manY b0_dogX b0_dogY b0_row b0_round b0_farOne b0_leads b0_drags b0_from b0_near : Nat} {g0_hasImage : Int32} {g0_taped : Int32} {g0_point : Int32} {g0_end : Int32} {g0_begin : Int32} {g0_deep : Int32} {g0_faultAt : Int32} {g0_steps : Int32} {g0_men : Int32} {g0_dogs : Int32} (C0 : cxM p s m meth c args wsX11_begin RX11 cX11_begin 4 (some .boolean)) (hK : va_K (dC, dI) vwCl (tyA cyI cyB cyJ cyZ) s) (hN : nwA s) (hA : ∀ q : Nat, s.heap.size ≤ q → A q) {post : Int32 → (Int32 × Int32 × (Nat → Int32) × (Nat → Int32)) → Prop} {Q : State → Prop} (hQ : Q = MQ below (va_Qi post (fun u : Int32 × Int32 × (Nat → Int32) × (Nat → Int32) => wAt dC dI cyI cyB cyJ cyZ A (ceX11_begin cyI cyB cyJ cyZ a0 a1 a2 b0_image b0_before b0_taken b0_tape b0_five b0_far b0_lead b0_walk b0_ends b0_manX b0_manY b0_dogX b0_dogY b0_row b0_round b0_farOne b0_leads b0_drags b0_from b0_near g0_hasImage g0_taped g0_point g0_end g0_begin g0_deep g0_faultAt g0_steps g0_men g0_dogs u.1 u.2.1 u.2.2.1 u.2.2.2)) A) args s 0 0 A) : ∀ (g0_thrown : Int32) (g0_remembered : Int32) (f1 : Nat → Int32) (f2 : Nat → Int32) (x1 : Int32) (x2 : Int32) (x3 : Int32), wpX11_begin_22 post g0_thrown g0_remembered f1 f2 x1 x2 x3 → AtW p l e rmX11_begin s m args below meth c dC dI A Q 4 0 0 (ceX11_begin cyI cyB cyJ cyZ a0 a1 a2 b0_image b0_before b0_taken b0_tape b0_five b0_far b0_lead b0_walk b0_ends b0_manX b0_manY b0_dogX b0_dogY b0_row b0_round b0_farOne b0_leads b0_drags b0_from b0_near g0_hasImage g0_taped g0_point g0_end g0_begin g0_deep g0_faultAt g0_steps g0_men g0_dogs g0_thrown g0_remembered f1 f2) [(0, .ref a0), (1, .int x1), (2, .int x2), (3, .int x3)] 22 [.ref a0] := by
  intro g0_thrown g0_remembered f1 f2 x1 x2 x3 hw H locs hP hD hS ls hl
  have C1 := C0
  obtain ⟨hx, hb, hr, hml, hown, hts, hlocks⟩ := C1
  refine lv_iconst (v := 1) hx hb dX11_begin_22 (by decide) ?_
  refine lv_goto (tgt := 27) hx hb dX11_begin_23 (by decide) ?_
  exact bX11_begin_27 C0 hK hN hA hQ g0_thrown g0_remembered f1 f2 x1 x2 x3 1 hw _ _ hP hD hS ls (lv_sub hl [0, 1, 2, 3] rfl)
set_option maxRecDepth 100000 in
set_option maxHeartbeats 4000000 in
theorem ctX11_begin (l : Launch) (dC : Nat → ClassId) (dI : Nat → Nat → Nat) (cyI cyB cyJ cyZ : ClassId) (sz : Nat) (a0 a1 a2 b0_image b0_before b0_taken b0_tape b0_five b0_far b0_lead b0_walk b0_ends b0_manX b0_manY b0_dogX b0_dogY b0_row b0_round b0_farOne b0_leads b0_drags b0_from b0_near : Nat) (g0_hasImage : Int32) (g0_taped : Int32) (g0_point : Int32) (g0_end : Int32) (g0_begin : Int32) (g0_deep : Int32) (g0_faultAt : Int32) (g0_steps : Int32) (g0_men : Int32) (g0_dogs : Int32) (g0_thrown : Int32) (g0_remembered : Int32) (f1 : Nat → Int32) (f2 : Nat → Int32) (p0 : Int32) (p1 : Int32) (p2 : Int32) (post : Int32 → (Int32 × Int32 × (Nat → Int32) × (Nat → Int32)) → Prop) (hw : wpX11_begin post g0_thrown g0_remembered f1 f2 p0 p1 p2) : Met l yX11_begin wsX11_begin rmX11_begin (va_Pc [.ref a0, .int p0, .int p1, .int p2] (wPre dC dI cyI cyB cyJ cyZ sz (ceX11_begin cyI cyB cyJ cyZ a0 a1 a2 b0_image b0_before b0_taken b0_tape b0_five b0_far b0_lead b0_walk b0_ends b0_manX b0_manY b0_dogX b0_dogY b0_row b0_round b0_farOne b0_leads b0_drags b0_from b0_near g0_hasImage g0_taped g0_point g0_end g0_begin g0_deep g0_faultAt g0_steps g0_men g0_dogs g0_thrown g0_remembered f1 f2))) (va_Qi post (fun u : Int32 × Int32 × (Nat → Int32) × (Nat → Int32) => wAt dC dI cyI cyB cyJ cyZ (va_A (ceX11_begin cyI cyB cyJ cyZ a0 a1 a2 b0_image b0_before b0_taken b0_tape b0_five b0_far b0_lead b0_walk b0_ends b0_manX b0_manY b0_dogX b0_dogY b0_row b0_round b0_farOne b0_leads b0_drags b0_from b0_near g0_hasImage g0_taped g0_point g0_end g0_begin g0_deep g0_faultAt g0_steps g0_men g0_dogs g0_thrown g0_remembered f1 f2) sz) (ceX11_begin cyI cyB cyJ cyZ a0 a1 a2 b0_image b0_before b0_taken b0_tape b0_five b0_far b0_lead b0_walk b0_ends b0_manX b0_manY b0_dogX b0_dogY b0_row b0_round b0_farOne b0_leads b0_drags b0_from b0_near g0_hasImage g0_taped g0_point g0_end g0_begin g0_deep g0_faultAt g0_steps g0_men g0_dogs u.1 u.2.1 u.2.2.1 u.2.2.2)) (va_A (ceX11_begin cyI cyB cyJ cyZ a0 a1 a2 b0_image b0_before b0_taken b0_tape b0_five b0_far b0_lead b0_walk b0_ends b0_manX b0_manY b0_dogX b0_dogY b0_row b0_round b0_farOne b0_leads b0_drags b0_from b0_near g0_hasImage g0_taped g0_point g0_end g0_begin g0_deep g0_faultAt g0_steps g0_men g0_dogs g0_thrown g0_remembered f1 f2) sz)) 0 0 (va_A (ceX11_begin cyI cyB cyJ cyZ a0 a1 a2 b0_image b0_before b0_taken b0_tape b0_five b0_far b0_lead b0_walk b0_ends b0_manX b0_manY b0_dogX b0_dogY b0_row b0_round b0_farOne b0_leads b0_drags b0_from b0_near g0_hasImage g0_taped g0_point g0_end g0_begin g0_deep g0_faultAt g0_steps g0_men g0_dogs g0_thrown g0_remembered f1 f2) sz) := by
  refine Met.ofW (cc := cX11_begin) (maxL := 4) (ret := (some .boolean)) (by decide) rfl ?_
  intro p e s m args below meth c s₁ B hml hv
  obtain ⟨rfl, hsz, hP, hK, hD0, hN⟩ := hv
  have hx := B.exec
  have hb := B.bytes
  have hr := B.returns
  have hts := atoms_spec (ws := wsX11_begin) B.pre
  have hown : s.vm.findClass RX11 = some m.cls := findClass_of_methodNamed B.named
  have hlocks := B.notSynchronized
  subst hsz
  have hD := hD0.self (sz := s.heap.size)
  generalize hAe : va_A (ceX11_begin cyI cyB cyJ cyZ a0 a1 a2 b0_image b0_before b0_taken b0_tape b0_five b0_far b0_lead b0_walk b0_ends b0_manX b0_manY b0_dogX b0_dogY b0_row b0_round b0_farOne b0_leads b0_drags b0_from b0_near g0_hasImage g0_taped g0_point g0_end g0_begin g0_deep g0_faultAt g0_steps g0_men g0_dogs g0_thrown g0_remembered f1 f2) s.heap.size = A at hD ⊢
  have hA : ∀ q : Nat, s.heap.size ≤ q → A q := fun q h => by rw [← hAe]; exact Or.inr h
  have hS : va_S A s.heap s.heap [] := va_S.rf
  have C0 : cxM p s m meth c _ wsX11_begin RX11 cX11_begin 4 (some .boolean) := ⟨hx, hb, hr, hml, hown, hts, hlocks⟩
  have hl := lv_entry ([.ref a0, .int p0, .int p1, .int p2]) (n := 4) (Nat.le_of_ble_eq_true rfl)
  rw [lg_entry_eq]
  generalize (lg_sl ([.ref a0, .int p0, .int p1, .int p2]) ++ List.replicate (4 - (lg_sl ([.ref a0, .int p0, .int p1, .int p2])).length) Slot.unset).toArray = ls at hl ⊢
  have hl : lv_has ls 4 [(0, .ref a0), (1, .int p0), (2, .int p1), (3, .int p2)] := hl
  show W p l e rmX11_begin s m _ below meth c _ _ _ _ _ _
  refine wq (fun Q hQ => ?_)
  refine lv_aload_n hx hb dX11_begin_0 rfl (lv_at hl 0 rfl) ?_
  refine lv_iconst (v := 0) hx hb dX11_begin_1 (by decide) ?_
  refine va_put (D := (dC, dI)) (ci := 11) (v := .int 0) (ty := .int) (C := RX11) (T := TX11) (N := 34) hx hb hts inX11_begin_X11 tyX11 tyX11_ok nmX11 hown hK hP hD hS 0 rfl rfl 0 (by decide) (hts (.fieldLink RX11 3 "LeadParkModel" "thrown" "I") (List.mem_of_getElem? (i := 1) rfl)) (fun _ h9 => h9) rfl (by decide +kernel) rfl rfl (Nat.le_of_ble_eq_true rfl) dX11_begin_2 (fun H locs hP hD hS => ?_)
  have hP : va_P (dC, dI) vwCl (ceX11_begin cyI cyB cyJ cyZ a0 a1 a2 b0_image b0_before b0_taken b0_tape b0_five b0_far b0_lead b0_walk b0_ends b0_manX b0_manY b0_dogX b0_dogY b0_row b0_round b0_farOne b0_leads b0_drags b0_from b0_near g0_hasImage g0_taped g0_point g0_end g0_begin g0_deep g0_faultAt g0_steps g0_men g0_dogs 0 g0_remembered f1 f2) H := hP
  have hD : va_D A (ceX11_begin cyI cyB cyJ cyZ a0 a1 a2 b0_image b0_before b0_taken b0_tape b0_five b0_far b0_lead b0_walk b0_ends b0_manX b0_manY b0_dogX b0_dogY b0_row b0_round b0_farOne b0_leads b0_drags b0_from b0_near g0_hasImage g0_taped g0_point g0_end g0_begin g0_deep g0_faultAt g0_steps g0_men g0_dogs 0 g0_remembered f1 f2) := hD
  refine lv_aload_n hx hb dX11_begin_5 rfl (lv_at hl 0 rfl) ?_
  refine lv_aload_n hx hb dX11_begin_6 rfl (lv_at hl 0 rfl) ?_
  refine lv_iload_n hx hb dX11_begin_7 rfl (lv_at hl 1 rfl) ?_
  have hPc := hP.sub (ws' := (ceX11_noWay cyI cyB cyJ cyZ a0 a1 b0_image b0_before b0_taken b0_tape b0_five a2 b0_far b0_lead b0_walk b0_ends b0_manX b0_manY b0_dogX b0_dogY b0_row b0_round b0_farOne b0_leads b0_drags b0_from b0_near 0 g0_hasImage g0_remembered g0_taped g0_point g0_end g0_begin g0_deep g0_faultAt g0_steps g0_men g0_dogs f1)) [0, 1] rfl
  have hDc := hD.sub (ws' := (ceX11_noWay cyI cyB cyJ cyZ a0 a1 b0_image b0_before b0_taken b0_tape b0_five a2 b0_far b0_lead b0_walk b0_ends b0_manX b0_manY b0_dogX b0_dogY b0_row b0_round b0_farOne b0_leads b0_drags b0_from b0_near 0 g0_hasImage g0_remembered g0_taped g0_point g0_end g0_begin g0_deep g0_faultAt g0_steps g0_men g0_dogs f1)) [0, 1] (by decide) rfl
  have hFc := va_free (wc := (ceX11_noWay cyI cyB cyJ cyZ a0 a1 b0_image b0_before b0_taken b0_tape b0_five a2 b0_far b0_lead b0_walk b0_ends b0_manX b0_manY b0_dogX b0_dogY b0_row b0_round b0_farOne b0_leads b0_drags b0_from b0_near 0 g0_hasImage g0_remembered g0_taped g0_point g0_end g0_begin g0_deep g0_faultAt g0_steps g0_men g0_dogs f1)) hD hS hA [0, 1] rfl
  refine va_calli (va_runV (As := [.int p0]) (rest := [.ref a0]) ⟨hx, hb, hml, hown, hts⟩ (ctX11_noWay l dC dI cyI cyB cyJ cyZ _ a0 a1 b0_image b0_before b0_taken b0_tape b0_five a2 b0_far b0_lead b0_walk b0_ends b0_manX b0_manY b0_dogX b0_dogY b0_row b0_round b0_farOne b0_leads b0_drags b0_from b0_near 0 g0_hasImage g0_remembered g0_taped g0_point g0_end g0_begin g0_deep g0_faultAt g0_steps g0_men g0_dogs f1 p0 _ hw) (cwV 1 hts gX11_begin_X11_noWay rfl rfl rfl (by decide +kernel) ⟨Nat.le_of_ble_eq_true rfl, Nat.le_of_ble_eq_true rfl⟩) ⟨wPre_blind, va_recv hK hPc (ci := 11) (q0 := 0) rfl rfl, fun U hU hW => wPre_of hPc hK hDc hN hU hW⟩ rfl rfl hl.1 rfl (lv_room (Nat.le_of_ble_eq_true rfl)) dX11_begin_8 ⟨(Nat.zero_le _), (Nat.zero_le _)⟩) hS (fun q _ h => hFc q h) hFc (fun r2 u1 t H1 locs ht hvm hw hB hz1 hk1 hS => ?_)
  obtain ⟨hP1, hK1, hD1⟩ := hB
  rw [ht] at hP1
  obtain ⟨hP, hD⟩ := va_join (wr := pickW (ceX11_begin cyI cyB cyJ cyZ a0 a1 a2 b0_image b0_before b0_taken b0_tape b0_five b0_far b0_lead b0_walk b0_ends b0_manX b0_manY b0_dogX b0_dogY b0_row b0_round b0_farOne b0_leads b0_drags b0_from b0_near g0_hasImage g0_taped g0_point g0_end g0_begin g0_deep g0_faultAt g0_steps g0_men g0_dogs 0 g0_remembered f1 f2) [2]) (w1 := (ceX11_noWay cyI cyB cyJ cyZ a0 a1 b0_image b0_before b0_taken b0_tape b0_five a2 b0_far b0_lead b0_walk b0_ends b0_manX b0_manY b0_dogX b0_dogY b0_row b0_round b0_farOne b0_leads b0_drags b0_from b0_near 0 g0_hasImage g0_remembered g0_taped g0_point g0_end g0_begin g0_deep g0_faultAt g0_steps g0_men g0_dogs f1)) hP hD [0, 1] [2] rfl rfl (by decide) (by decide) hk1 hFc hP1 hD1
  have hP := hP.sub (ws' := (ceX11_begin cyI cyB cyJ cyZ a0 a1 a2 b0_image b0_before b0_taken b0_tape b0_five b0_far b0_lead b0_walk b0_ends b0_manX b0_manY b0_dogX b0_dogY b0_row b0_round b0_farOne b0_leads b0_drags b0_from b0_near g0_hasImage g0_taped g0_point g0_end g0_begin g0_deep g0_faultAt g0_steps g0_men g0_dogs 0 g0_remembered f1 f2)) [1, 2, 0] rfl
  have hD := hD.sub (ws' := (ceX11_begin cyI cyB cyJ cyZ a0 a1 a2 b0_image b0_before b0_taken b0_tape b0_five b0_far b0_lead b0_walk b0_ends b0_manX b0_manY b0_dogX b0_dogY b0_row b0_round b0_farOne b0_leads b0_drags b0_from b0_near g0_hasImage g0_taped g0_point g0_end g0_begin g0_deep g0_faultAt g0_steps g0_men g0_dogs 0 g0_remembered f1 f2)) [1, 2, 0] (by decide) rfl
  generalize H1 = H at hP hS ⊢
  refine lv_if_ne (tgt := 22) hx hb dX11_begin_11 (by decide) (fun hc => ?_) (fun hc => ?_)
  · have hw := hw.1 hc
    exact bX11_begin_22 C0 hK hN hA hQ 0 g0_remembered f1 f2 p0 p1 p2 hw _ _ hP hD hS ls (lv_sub hl [0, 1, 2, 3] rfl)
  · have hw := hw.2 hc
    refine lv_aload_n hx hb dX11_begin_14 rfl (lv_at hl 0 rfl) ?_
    refine lv_iload_n hx hb dX11_begin_15 rfl (lv_at hl 2 rfl) ?_
    have hPc := hP.sub (ws' := (ceX11_noWay cyI cyB cyJ cyZ a0 a1 b0_image b0_before b0_taken b0_tape b0_five a2 b0_far b0_lead b0_walk b0_ends b0_manX b0_manY b0_dogX b0_dogY b0_row b0_round b0_farOne b0_leads b0_drags b0_from b0_near 0 g0_hasImage g0_remembered g0_taped g0_point g0_end g0_begin g0_deep g0_faultAt g0_steps g0_men g0_dogs f1)) [0, 1] rfl
    have hDc := hD.sub (ws' := (ceX11_noWay cyI cyB cyJ cyZ a0 a1 b0_image b0_before b0_taken b0_tape b0_five a2 b0_far b0_lead b0_walk b0_ends b0_manX b0_manY b0_dogX b0_dogY b0_row b0_round b0_farOne b0_leads b0_drags b0_from b0_near 0 g0_hasImage g0_remembered g0_taped g0_point g0_end g0_begin g0_deep g0_faultAt g0_steps g0_men g0_dogs f1)) [0, 1] (by decide) rfl
    have hFc := va_free (wc := (ceX11_noWay cyI cyB cyJ cyZ a0 a1 b0_image b0_before b0_taken b0_tape b0_five a2 b0_far b0_lead b0_walk b0_ends b0_manX b0_manY b0_dogX b0_dogY b0_row b0_round b0_farOne b0_leads b0_drags b0_from b0_near 0 g0_hasImage g0_remembered g0_taped g0_point g0_end g0_begin g0_deep g0_faultAt g0_steps g0_men g0_dogs f1)) hD hS hA [0, 1] rfl
    refine va_calli (va_runV (As := [.int p1]) (rest := [.ref a0]) ⟨hx, hb, hml, hown, hts⟩ (ctX11_noWay l dC dI cyI cyB cyJ cyZ _ a0 a1 b0_image b0_before b0_taken b0_tape b0_five a2 b0_far b0_lead b0_walk b0_ends b0_manX b0_manY b0_dogX b0_dogY b0_row b0_round b0_farOne b0_leads b0_drags b0_from b0_near 0 g0_hasImage g0_remembered g0_taped g0_point g0_end g0_begin g0_deep g0_faultAt g0_steps g0_men g0_dogs f1 p1 _ hw) (cwV 1 hts gX11_begin_X11_noWay rfl rfl rfl (by decide +kernel) ⟨Nat.le_of_ble_eq_true rfl, Nat.le_of_ble_eq_true rfl⟩) ⟨wPre_blind, va_recv hK hPc (ci := 11) (q0 := 0) rfl rfl, fun U hU hW => wPre_of hPc hK hDc hN hU hW⟩ rfl rfl hl.1 rfl (lv_room (Nat.le_of_ble_eq_true rfl)) dX11_begin_16 ⟨(Nat.zero_le _), (Nat.zero_le _)⟩) hS (fun q _ h => hFc q h) hFc (fun r4 u3 t H1 locs ht hvm hw hB hz1 hk1 hS => ?_)
    obtain ⟨hP1, hK1, hD1⟩ := hB
    rw [ht] at hP1
    obtain ⟨hP, hD⟩ := va_join (wr := pickW (ceX11_begin cyI cyB cyJ cyZ a0 a1 a2 b0_image b0_before b0_taken b0_tape b0_five b0_far b0_lead b0_walk b0_ends b0_manX b0_manY b0_dogX b0_dogY b0_row b0_round b0_farOne b0_leads b0_drags b0_from b0_near g0_hasImage g0_taped g0_point g0_end g0_begin g0_deep g0_faultAt g0_steps g0_men g0_dogs 0 g0_remembered f1 f2) [2]) (w1 := (ceX11_noWay cyI cyB cyJ cyZ a0 a1 b0_image b0_before b0_taken b0_tape b0_five a2 b0_far b0_lead b0_walk b0_ends b0_manX b0_manY b0_dogX b0_dogY b0_row b0_round b0_farOne b0_leads b0_drags b0_from b0_near 0 g0_hasImage g0_remembered g0_taped g0_point g0_end g0_begin g0_deep g0_faultAt g0_steps g0_men g0_dogs f1)) hP hD [0, 1] [2] rfl rfl (by decide) (by decide) hk1 hFc hP1 hD1
    have hP := hP.sub (ws' := (ceX11_begin cyI cyB cyJ cyZ a0 a1 a2 b0_image b0_before b0_taken b0_tape b0_five b0_far b0_lead b0_walk b0_ends b0_manX b0_manY b0_dogX b0_dogY b0_row b0_round b0_farOne b0_leads b0_drags b0_from b0_near g0_hasImage g0_taped g0_point g0_end g0_begin g0_deep g0_faultAt g0_steps g0_men g0_dogs 0 g0_remembered f1 f2)) [1, 2, 0] rfl
    have hD := hD.sub (ws' := (ceX11_begin cyI cyB cyJ cyZ a0 a1 a2 b0_image b0_before b0_taken b0_tape b0_five b0_far b0_lead b0_walk b0_ends b0_manX b0_manY b0_dogX b0_dogY b0_row b0_round b0_farOne b0_leads b0_drags b0_from b0_near g0_hasImage g0_taped g0_point g0_end g0_begin g0_deep g0_faultAt g0_steps g0_men g0_dogs 0 g0_remembered f1 f2)) [1, 2, 0] (by decide) rfl
    generalize H1 = H at hP hS ⊢
    refine lv_if_eq (tgt := 26) hx hb dX11_begin_19 (by decide) (fun hc => ?_) (fun hc => ?_)
    · have hw := hw.1 hc
      refine lv_iconst (v := 0) hx hb dX11_begin_26 (by decide) ?_
      exact bX11_begin_27 C0 hK hN hA hQ 0 g0_remembered f1 f2 p0 p1 p2 0 hw _ _ hP hD hS ls (lv_sub hl [0, 1, 2, 3] rfl)
    · have hw := hw.2 hc
      exact bX11_begin_22 C0 hK hN hA hQ 0 g0_remembered f1 f2 p0 p1 p2 hw _ _ hP hD hS ls (lv_sub hl [0, 1, 2, 3] rfl)
/-! LeadParkModel.canGo (I)Z -/
abbrev ceX11_canGo (cyI cyB cyJ cyZ : ClassId) (a0 a1 a2 b0_image b0_before b0_taken b0_tape b0_five b0_far b0_lead b0_walk b0_ends b0_manX b0_manY b0_dogX b0_dogY b0_row b0_round b0_farOne b0_leads b0_drags b0_from b0_near : Nat) (g0_thrown : Int32) (g0_hasImage : Int32) (g0_remembered : Int32) (g0_taped : Int32) (g0_point : Int32) (g0_end : Int32) (g0_begin : Int32) (g0_deep : Int32) (g0_faultAt : Int32) (g0_steps : Int32) (g0_men : Int32) (g0_dogs : Int32) (f1 : Nat → Int32) (f2 : Nat → Int32) : va_W := [(a0, .inr (11, [.int g0_thrown, .ref a1, .ref b0_image, .ref b0_before, .int g0_hasImage, .ref b0_taken, .int g0_remembered, .ref b0_tape, .int g0_taped, .int g0_point, .int g0_end, .int g0_begin, .int g0_deep, .int g0_faultAt, .ref b0_five, .int g0_steps, .ref a2, .ref b0_far, .int g0_men, .int g0_dogs, .ref b0_lead, .ref b0_walk, .ref b0_ends, .ref b0_manX, .ref b0_manY, .ref b0_dogX, .ref b0_dogY, .ref b0_row, .ref b0_round, .ref b0_farOne, .ref b0_leads, .ref b0_drags, .ref b0_from, .ref b0_near])), (a1, .inl (cyI, 2508, .inl f1)), (a2, .inl (cyI, 400, .inl f2))]

theorem inX11_canGo_X11 : ∀ w ∈ wsX110, w ∈ wsX11_canGo := fun _ h => List.mem_cons_of_mem _ (List.mem_append_right _ h)
abbrev rmX11_canGo : Room := { frames := 5, cells := 0, slots := 0, locals := 142 }
def wpX11_canGo (post : Int32 → ((Nat → Int32)) → Prop) (f1 : Nat → Int32) (f2 : Nat → Int32) (p0 : Int32) : Prop :=
  vp_in 6 2508 ∧
  (¬ (f1 (6 : Int32).toNatClampNeg) = 0 →
   vp_in 7 2508 ∧
   ∀ v1 : Int32, v1 = f1 (7 : Int32).toNatClampNeg →
   vp_in 8 2508 ∧
   ∀ v2 : Int32, v2 = f1 (8 : Int32).toNatClampNeg →
   vp_in 10 2508 ∧
   wpX11_manBy (fun (r4 : Int32) (u3 : Unit) =>
    ∀ v5 : Int32, v5 = (f1 (10 : Int32).toNatClampNeg) + r4 →
    vp_in 11 2508 ∧
    wpX11_dogBy (fun (r7 : Int32) (u6 : Unit) =>
     ∀ v8 : Int32, v8 = (f1 (11 : Int32).toNatClampNeg) + r7 →
     wpX11_cornersOf (fun (r10 : Int32) (u9 : Unit) =>
      (r10 ≤ v5 →
       post 0 (f2)) ∧
      (¬ r10 ≤ v5 →
       wpX11_cornersOf (fun (r12 : Int32) (u11 : Unit) =>
        (r12 ≤ v8 →
         post 0 (f2)) ∧
        (¬ r12 ≤ v8 →
         wpX11_farAt (fun (r14 : Int32) (u13 : Unit) =>
          vp_in 9 2508 ∧
          ((f1 (9 : Int32).toNatClampNeg) < r14 →
           post 0 (f2)) ∧
          (¬ (f1 (9 : Int32).toNatClampNeg) < r14 →
           wpX11_isShut (fun (r16 : Int32) (u15 : (Nat → Int32)) =>
            (¬ r16 = 0 →
             post 0 (u15)) ∧
            (r16 = 0 →
             post 1 (u15))) f1 f2 v1 v5 v2 v8)) f1 v1 v5 v2 v8)) f1 v2)) f1 v1) p0) p0) ∧
  ((f1 (6 : Int32).toNatClampNeg) = 0 →
   post 0 (f2))
set_option maxRecDepth 100000 in
set_option maxHeartbeats 4000000 in
theorem ctX11_canGo (l : Launch) (dC : Nat → ClassId) (dI : Nat → Nat → Nat) (cyI cyB cyJ cyZ : ClassId) (sz : Nat) (a0 a1 a2 b0_image b0_before b0_taken b0_tape b0_five b0_far b0_lead b0_walk b0_ends b0_manX b0_manY b0_dogX b0_dogY b0_row b0_round b0_farOne b0_leads b0_drags b0_from b0_near : Nat) (g0_thrown : Int32) (g0_hasImage : Int32) (g0_remembered : Int32) (g0_taped : Int32) (g0_point : Int32) (g0_end : Int32) (g0_begin : Int32) (g0_deep : Int32) (g0_faultAt : Int32) (g0_steps : Int32) (g0_men : Int32) (g0_dogs : Int32) (f1 : Nat → Int32) (f2 : Nat → Int32) (p0 : Int32) (post : Int32 → ((Nat → Int32)) → Prop) (hw : wpX11_canGo post f1 f2 p0) : Met l yX11_canGo wsX11_canGo rmX11_canGo (va_Pc [.ref a0, .int p0] (wPre dC dI cyI cyB cyJ cyZ sz (ceX11_canGo cyI cyB cyJ cyZ a0 a1 a2 b0_image b0_before b0_taken b0_tape b0_five b0_far b0_lead b0_walk b0_ends b0_manX b0_manY b0_dogX b0_dogY b0_row b0_round b0_farOne b0_leads b0_drags b0_from b0_near g0_thrown g0_hasImage g0_remembered g0_taped g0_point g0_end g0_begin g0_deep g0_faultAt g0_steps g0_men g0_dogs f1 f2))) (va_Qi post (fun u : (Nat → Int32) => wAt dC dI cyI cyB cyJ cyZ (va_A (ceX11_canGo cyI cyB cyJ cyZ a0 a1 a2 b0_image b0_before b0_taken b0_tape b0_five b0_far b0_lead b0_walk b0_ends b0_manX b0_manY b0_dogX b0_dogY b0_row b0_round b0_farOne b0_leads b0_drags b0_from b0_near g0_thrown g0_hasImage g0_remembered g0_taped g0_point g0_end g0_begin g0_deep g0_faultAt g0_steps g0_men g0_dogs f1 f2) sz) (ceX11_canGo cyI cyB cyJ cyZ a0 a1 a2 b0_image b0_before b0_taken b0_tape b0_five b0_far b0_lead b0_walk b0_ends b0_manX b0_manY b0_dogX b0_dogY b0_row b0_round b0_farOne b0_leads b0_drags b0_from b0_near g0_thrown g0_hasImage g0_remembered g0_taped g0_point g0_end g0_begin g0_deep g0_faultAt g0_steps g0_men g0_dogs f1 u)) (va_A (ceX11_canGo cyI cyB cyJ cyZ a0 a1 a2 b0_image b0_before b0_taken b0_tape b0_five b0_far b0_lead b0_walk b0_ends b0_manX b0_manY b0_dogX b0_dogY b0_row b0_round b0_farOne b0_leads b0_drags b0_from b0_near g0_thrown g0_hasImage g0_remembered g0_taped g0_point g0_end g0_begin g0_deep g0_faultAt g0_steps g0_men g0_dogs f1 f2) sz)) 0 0 (va_A (ceX11_canGo cyI cyB cyJ cyZ a0 a1 a2 b0_image b0_before b0_taken b0_tape b0_five b0_far b0_lead b0_walk b0_ends b0_manX b0_manY b0_dogX b0_dogY b0_row b0_round b0_farOne b0_leads b0_drags b0_from b0_near g0_thrown g0_hasImage g0_remembered g0_taped g0_point g0_end g0_begin g0_deep g0_faultAt g0_steps g0_men g0_dogs f1 f2) sz) := by
  refine Met.ofW (cc := cX11_canGo) (maxL := 6) (ret := (some .boolean)) (by decide) rfl ?_
  intro p e s m args below meth c s₁ B hml hv
  obtain ⟨rfl, hsz, hP, hK, hD0, hN⟩ := hv
  have hx := B.exec
  have hb := B.bytes
  have hr := B.returns
  have hts := atoms_spec (ws := wsX11_canGo) B.pre
  have hown : s.vm.findClass RX11 = some m.cls := findClass_of_methodNamed B.named
  have hlocks := B.notSynchronized
  subst hsz
  have hD := hD0.self (sz := s.heap.size)
  generalize hAe : va_A (ceX11_canGo cyI cyB cyJ cyZ a0 a1 a2 b0_image b0_before b0_taken b0_tape b0_five b0_far b0_lead b0_walk b0_ends b0_manX b0_manY b0_dogX b0_dogY b0_row b0_round b0_farOne b0_leads b0_drags b0_from b0_near g0_thrown g0_hasImage g0_remembered g0_taped g0_point g0_end g0_begin g0_deep g0_faultAt g0_steps g0_men g0_dogs f1 f2) s.heap.size = A at hD ⊢
  have hA : ∀ q : Nat, s.heap.size ≤ q → A q := fun q h => by rw [← hAe]; exact Or.inr h
  have hS : va_S A s.heap s.heap [] := va_S.rf
  have C0 : cxM p s m meth c _ wsX11_canGo RX11 cX11_canGo 6 (some .boolean) := ⟨hx, hb, hr, hml, hown, hts, hlocks⟩
  have hl := lv_entry ([.ref a0, .int p0]) (n := 6) (Nat.le_of_ble_eq_true rfl)
  rw [lg_entry_eq]
  generalize (lg_sl ([.ref a0, .int p0]) ++ List.replicate (6 - (lg_sl ([.ref a0, .int p0])).length) Slot.unset).toArray = ls at hl ⊢
  have hl : lv_has ls 6 [(0, .ref a0), (1, .int p0)] := hl
  show W p l e rmX11_canGo s m _ below meth c _ _ _ _ _ _
  refine wq (fun Q hQ => ?_)
  refine lv_aload_n hx hb dX11_canGo_0 rfl (lv_at hl 0 rfl) ?_
  refine va_get (D := (dC, dI)) (ci := 11) (v := .ref a1) (C := RX11) (T := TX11) (N := 34) hx hb hts inX11_canGo_X11 hown hK hP 0 rfl rfl 1 (by decide) (hts (.fieldLink RX11 13 "LeadParkModel" "world" "[I") (List.mem_of_getElem? (i := 1) rfl)) (fun _ h9 => h9) rfl dX11_canGo_1 ?_
  refine lv_bipush (v := 6) hx hb dX11_canGo_4 (by decide) ?_
  obtain ⟨hi, hw⟩ := hw
  refine va_iald hx hb hK hP 1 0 rfl rfl hi dX11_canGo_6 ?_
  refine lv_if_ne (tgt := 12) hx hb dX11_canGo_7 (by decide) (fun hc => ?_) (fun hc => ?_)
  · have hw := hw.1 hc
    refine lv_aload_n hx hb dX11_canGo_12 rfl (lv_at hl 0 rfl) ?_
    refine va_get (D := (dC, dI)) (ci := 11) (v := .ref a1) (C := RX11) (T := TX11) (N := 34) hx hb hts inX11_canGo_X11 hown hK hP 0 rfl rfl 1 (by decide) (hts (.fieldLink RX11 13 "LeadParkModel" "world" "[I") (List.mem_of_getElem? (i := 1) rfl)) (fun _ h9 => h9) rfl dX11_canGo_13 ?_
    refine lv_bipush (v := 7) hx hb dX11_canGo_16 (by decide) ?_
    obtain ⟨hi, hw⟩ := hw
    refine va_iald hx hb hK hP 1 0 rfl rfl hi dX11_canGo_18 ?_
    refine lv_topi (fun v1 ev1 => ?_)
    have hw := hw v1 ev1
    refine lv_istore_n (lv' := [(2, .int v1), (0, .ref a0), (1, .int p0)]) hx hb dX11_canGo_19 rfl hl (by decide) rfl (fun ls hl => ?_)
    refine lv_aload_n hx hb dX11_canGo_20 rfl (lv_at hl 1 rfl) ?_
    refine va_get (D := (dC, dI)) (ci := 11) (v := .ref a1) (C := RX11) (T := TX11) (N := 34) hx hb hts inX11_canGo_X11 hown hK hP 0 rfl rfl 1 (by decide) (hts (.fieldLink RX11 13 "LeadParkModel" "world" "[I") (List.mem_of_getElem? (i := 1) rfl)) (fun _ h9 => h9) rfl dX11_canGo_21 ?_
    refine lv_bipush (v := 8) hx hb dX11_canGo_24 (by decide) ?_
    obtain ⟨hi, hw⟩ := hw
    refine va_iald hx hb hK hP 1 0 rfl rfl hi dX11_canGo_26 ?_
    refine lv_topi (fun v2 ev2 => ?_)
    have hw := hw v2 ev2
    refine lv_istore_n (lv' := [(3, .int v2), (2, .int v1), (0, .ref a0), (1, .int p0)]) hx hb dX11_canGo_27 rfl hl (by decide) rfl (fun ls hl => ?_)
    refine lv_aload_n hx hb dX11_canGo_28 rfl (lv_at hl 2 rfl) ?_
    refine va_get (D := (dC, dI)) (ci := 11) (v := .ref a1) (C := RX11) (T := TX11) (N := 34) hx hb hts inX11_canGo_X11 hown hK hP 0 rfl rfl 1 (by decide) (hts (.fieldLink RX11 13 "LeadParkModel" "world" "[I") (List.mem_of_getElem? (i := 1) rfl)) (fun _ h9 => h9) rfl dX11_canGo_29 ?_
    refine lv_bipush (v := 10) hx hb dX11_canGo_32 (by decide) ?_
    obtain ⟨hi, hw⟩ := hw
    refine va_iald hx hb hK hP 1 0 rfl rfl hi dX11_canGo_34 ?_
    refine lv_iload_n hx hb dX11_canGo_35 rfl (lv_at hl 3 rfl) ?_
    have hPc := hP.sub (ws' := ([] : va_W)) [] rfl
    have hDc := hD.sub (ws' := ([] : va_W)) [] (by decide) rfl
    have hFc := va_free (wc := ([] : va_W)) hD hS hA [] rfl
    refine va_calli (va_runS (As := [.int p0]) (rest := [.int (f1 (10 : Int32).toNatClampNeg)]) ⟨hx, hb, hml, hown, hts⟩ (ctX11_manBy l dC dI cyI cyB cyJ cyZ _ p0 _ hw) (va_cwS 1 hts gX11_canGo_X11_manBy rfl rfl rfl (by decide +kernel) ⟨Nat.le_of_ble_eq_true rfl, Nat.le_of_ble_eq_true rfl⟩) ⟨wPre_blind, fun U hU hW => wPre_of hPc hK hDc hN hU hW⟩ rfl rfl hl.1 rfl (lv_room (Nat.le_of_ble_eq_true rfl)) dX11_canGo_36 ⟨(Nat.zero_le _), (Nat.zero_le _)⟩) hS (fun q _ h => hFc q h) hFc (fun r4 u3 t H1 locs ht hvm hw hB hz1 hk1 hS => ?_)
    obtain ⟨hP1, hK1, hD1⟩ := hB
    rw [ht] at hP1
    obtain ⟨hP, hD⟩ := va_join (wr := pickW (ceX11_canGo cyI cyB cyJ cyZ a0 a1 a2 b0_image b0_before b0_taken b0_tape b0_five b0_far b0_lead b0_walk b0_ends b0_manX b0_manY b0_dogX b0_dogY b0_row b0_round b0_farOne b0_leads b0_drags b0_from b0_near g0_thrown g0_hasImage g0_remembered g0_taped g0_point g0_end g0_begin g0_deep g0_faultAt g0_steps g0_men g0_dogs f1 f2) [0, 1, 2]) (w1 := ([] : va_W)) hP hD [] [0, 1, 2] rfl rfl (by decide) (by decide) hk1 hFc hP1 hD1
    have hP := hP.sub (ws' := (ceX11_canGo cyI cyB cyJ cyZ a0 a1 a2 b0_image b0_before b0_taken b0_tape b0_five b0_far b0_lead b0_walk b0_ends b0_manX b0_manY b0_dogX b0_dogY b0_row b0_round b0_farOne b0_leads b0_drags b0_from b0_near g0_thrown g0_hasImage g0_remembered g0_taped g0_point g0_end g0_begin g0_deep g0_faultAt g0_steps g0_men g0_dogs f1 f2)) [0, 1, 2] rfl
    have hD := hD.sub (ws' := (ceX11_canGo cyI cyB cyJ cyZ a0 a1 a2 b0_image b0_before b0_taken b0_tape b0_five b0_far b0_lead b0_walk b0_ends b0_manX b0_manY b0_dogX b0_dogY b0_row b0_round b0_farOne b0_leads b0_drags b0_from b0_near g0_thrown g0_hasImage g0_remembered g0_taped g0_point g0_end g0_begin g0_deep g0_faultAt g0_steps g0_men g0_dogs f1 f2)) [0, 1, 2] (by decide) rfl
    generalize H1 = H at hP hS ⊢
    refine lv_iadd hx hb dX11_canGo_39 ?_
    refine lv_topi (fun v5 ev5 => ?_)
    have hw := hw v5 ev5
    refine lv_istore (lv' := [(4, .int v5), (3, .int v2), (2, .int v1), (0, .ref a0), (1, .int p0)]) hx hb dX11_canGo_40 hl (by decide) rfl (fun ls hl => ?_)
    refine lv_aload_n hx hb dX11_canGo_42 rfl (lv_at hl 3 rfl) ?_
    refine va_get (D := (dC, dI)) (ci := 11) (v := .ref a1) (C := RX11) (T := TX11) (N := 34) hx hb hts inX11_canGo_X11 hown hK hP 0 rfl rfl 1 (by decide) (hts (.fieldLink RX11 13 "LeadParkModel" "world" "[I") (List.mem_of_getElem? (i := 1) rfl)) (fun _ h9 => h9) rfl dX11_canGo_43 ?_
    refine lv_bipush (v := 11) hx hb dX11_canGo_46 (by decide) ?_
    obtain ⟨hi, hw⟩ := hw
    refine va_iald hx hb hK hP 1 0 rfl rfl hi dX11_canGo_48 ?_
    refine lv_iload_n hx hb dX11_canGo_49 rfl (lv_at hl 4 rfl) ?_
    have hPc := hP.sub (ws' := ([] : va_W)) [] rfl
    have hDc := hD.sub (ws' := ([] : va_W)) [] (by decide) rfl
    have hFc := va_free (wc := ([] : va_W)) hD hS hA [] rfl
    refine va_calli (va_runS (As := [.int p0]) (rest := [.int (f1 (11 : Int32).toNatClampNeg)]) ⟨hx, hb, hml, hown, hts⟩ (ctX11_dogBy l dC dI cyI cyB cyJ cyZ _ p0 _ hw) (va_cwS 1 hts gX11_canGo_X11_dogBy rfl rfl rfl (by decide +kernel) ⟨Nat.le_of_ble_eq_true rfl, Nat.le_of_ble_eq_true rfl⟩) ⟨wPre_blind, fun U hU hW => wPre_of hPc hK hDc hN hU hW⟩ rfl rfl hl.1 rfl (lv_room (Nat.le_of_ble_eq_true rfl)) dX11_canGo_50 ⟨(Nat.zero_le _), (Nat.zero_le _)⟩) hS (fun q _ h => hFc q h) hFc (fun r7 u6 t H1 locs ht hvm hw hB hz1 hk1 hS => ?_)
    obtain ⟨hP1, hK1, hD1⟩ := hB
    rw [ht] at hP1
    obtain ⟨hP, hD⟩ := va_join (wr := pickW (ceX11_canGo cyI cyB cyJ cyZ a0 a1 a2 b0_image b0_before b0_taken b0_tape b0_five b0_far b0_lead b0_walk b0_ends b0_manX b0_manY b0_dogX b0_dogY b0_row b0_round b0_farOne b0_leads b0_drags b0_from b0_near g0_thrown g0_hasImage g0_remembered g0_taped g0_point g0_end g0_begin g0_deep g0_faultAt g0_steps g0_men g0_dogs f1 f2) [0, 1, 2]) (w1 := ([] : va_W)) hP hD [] [0, 1, 2] rfl rfl (by decide) (by decide) hk1 hFc hP1 hD1
    have hP := hP.sub (ws' := (ceX11_canGo cyI cyB cyJ cyZ a0 a1 a2 b0_image b0_before b0_taken b0_tape b0_five b0_far b0_lead b0_walk b0_ends b0_manX b0_manY b0_dogX b0_dogY b0_row b0_round b0_farOne b0_leads b0_drags b0_from b0_near g0_thrown g0_hasImage g0_remembered g0_taped g0_point g0_end g0_begin g0_deep g0_faultAt g0_steps g0_men g0_dogs f1 f2)) [0, 1, 2] rfl
    have hD := hD.sub (ws' := (ceX11_canGo cyI cyB cyJ cyZ a0 a1 a2 b0_image b0_before b0_taken b0_tape b0_five b0_far b0_lead b0_walk b0_ends b0_manX b0_manY b0_dogX b0_dogY b0_row b0_round b0_farOne b0_leads b0_drags b0_from b0_near g0_thrown g0_hasImage g0_remembered g0_taped g0_point g0_end g0_begin g0_deep g0_faultAt g0_steps g0_men g0_dogs f1 f2)) [0, 1, 2] (by decide) rfl
    generalize H1 = H at hP hS ⊢
    refine lv_iadd hx hb dX11_canGo_53 ?_
    refine lv_topi (fun v8 ev8 => ?_)
    have hw := hw v8 ev8
    refine lv_istore (lv' := [(5, .int v8), (4, .int v5), (3, .int v2), (2, .int v1), (0, .ref a0), (1, .int p0)]) hx hb dX11_canGo_54 hl (by decide) rfl (fun ls hl => ?_)
    refine lv_iload hx hb dX11_canGo_56 (lv_at hl 1 rfl) ?_
    refine lv_aload_n hx hb dX11_canGo_58 rfl (lv_at hl 4 rfl) ?_
    refine lv_iload_n hx hb dX11_canGo_59 rfl (lv_at hl 3 rfl) ?_
    have hPc := hP.sub (ws' := (ceX11_cornersOf cyI cyB cyJ cyZ a0 a1 b0_image b0_before b0_taken b0_tape b0_five a2 b0_far b0_lead b0_walk b0_ends b0_manX b0_manY b0_dogX b0_dogY b0_row b0_round b0_farOne b0_leads b0_drags b0_from b0_near g0_thrown g0_hasImage g0_remembered g0_taped g0_point g0_end g0_begin g0_deep g0_faultAt g0_steps g0_men g0_dogs f1)) [0, 1] rfl
    have hDc := hD.sub (ws' := (ceX11_cornersOf cyI cyB cyJ cyZ a0 a1 b0_image b0_before b0_taken b0_tape b0_five a2 b0_far b0_lead b0_walk b0_ends b0_manX b0_manY b0_dogX b0_dogY b0_row b0_round b0_farOne b0_leads b0_drags b0_from b0_near g0_thrown g0_hasImage g0_remembered g0_taped g0_point g0_end g0_begin g0_deep g0_faultAt g0_steps g0_men g0_dogs f1)) [0, 1] (by decide) rfl
    have hFc := va_free (wc := (ceX11_cornersOf cyI cyB cyJ cyZ a0 a1 b0_image b0_before b0_taken b0_tape b0_five a2 b0_far b0_lead b0_walk b0_ends b0_manX b0_manY b0_dogX b0_dogY b0_row b0_round b0_farOne b0_leads b0_drags b0_from b0_near g0_thrown g0_hasImage g0_remembered g0_taped g0_point g0_end g0_begin g0_deep g0_faultAt g0_steps g0_men g0_dogs f1)) hD hS hA [0, 1] rfl
    refine va_calli (va_runV (As := [.int v1]) (rest := [.int v5]) ⟨hx, hb, hml, hown, hts⟩ (ctX11_cornersOf l dC dI cyI cyB cyJ cyZ _ a0 a1 b0_image b0_before b0_taken b0_tape b0_five a2 b0_far b0_lead b0_walk b0_ends b0_manX b0_manY b0_dogX b0_dogY b0_row b0_round b0_farOne b0_leads b0_drags b0_from b0_near g0_thrown g0_hasImage g0_remembered g0_taped g0_point g0_end g0_begin g0_deep g0_faultAt g0_steps g0_men g0_dogs f1 v1 _ hw) (cwV 1 hts gX11_canGo_X11_cornersOf rfl rfl rfl (by decide +kernel) ⟨Nat.le_of_ble_eq_true rfl, Nat.le_of_ble_eq_true rfl⟩) ⟨wPre_blind, va_recv hK hPc (ci := 11) (q0 := 0) rfl rfl, fun U hU hW => wPre_of hPc hK hDc hN hU hW⟩ rfl rfl hl.1 rfl (lv_room (Nat.le_of_ble_eq_true rfl)) dX11_canGo_60 ⟨(Nat.zero_le _), (Nat.zero_le _)⟩) hS (fun q _ h => hFc q h) hFc (fun r10 u9 t H1 locs ht hvm hw hB hz1 hk1 hS => ?_)
    obtain ⟨hP1, hK1, hD1⟩ := hB
    rw [ht] at hP1
    obtain ⟨hP, hD⟩ := va_join (wr := pickW (ceX11_canGo cyI cyB cyJ cyZ a0 a1 a2 b0_image b0_before b0_taken b0_tape b0_five b0_far b0_lead b0_walk b0_ends b0_manX b0_manY b0_dogX b0_dogY b0_row b0_round b0_farOne b0_leads b0_drags b0_from b0_near g0_thrown g0_hasImage g0_remembered g0_taped g0_point g0_end g0_begin g0_deep g0_faultAt g0_steps g0_men g0_dogs f1 f2) [2]) (w1 := (ceX11_cornersOf cyI cyB cyJ cyZ a0 a1 b0_image b0_before b0_taken b0_tape b0_five a2 b0_far b0_lead b0_walk b0_ends b0_manX b0_manY b0_dogX b0_dogY b0_row b0_round b0_farOne b0_leads b0_drags b0_from b0_near g0_thrown g0_hasImage g0_remembered g0_taped g0_point g0_end g0_begin g0_deep g0_faultAt g0_steps g0_men g0_dogs f1)) hP hD [0, 1] [2] rfl rfl (by decide) (by decide) hk1 hFc hP1 hD1
    have hP := hP.sub (ws' := (ceX11_canGo cyI cyB cyJ cyZ a0 a1 a2 b0_image b0_before b0_taken b0_tape b0_five b0_far b0_lead b0_walk b0_ends b0_manX b0_manY b0_dogX b0_dogY b0_row b0_round b0_farOne b0_leads b0_drags b0_from b0_near g0_thrown g0_hasImage g0_remembered g0_taped g0_point g0_end g0_begin g0_deep g0_faultAt g0_steps g0_men g0_dogs f1 f2)) [1, 2, 0] rfl
    have hD := hD.sub (ws' := (ceX11_canGo cyI cyB cyJ cyZ a0 a1 a2 b0_image b0_before b0_taken b0_tape b0_five b0_far b0_lead b0_walk b0_ends b0_manX b0_manY b0_dogX b0_dogY b0_row b0_round b0_farOne b0_leads b0_drags b0_from b0_near g0_thrown g0_hasImage g0_remembered g0_taped g0_point g0_end g0_begin g0_deep g0_faultAt g0_steps g0_men g0_dogs f1 f2)) [1, 2, 0] (by decide) rfl
    generalize H1 = H at hP hS ⊢
    refine lv_icmp_ge (tgt := 113) hx hb dX11_canGo_63 (by decide) (fun hc => ?_) (fun hc => ?_)
    · have hw := hw.1 hc
      refine lv_iconst (v := 0) hx hb dX11_canGo_113 (by decide) ?_
      rw [hQ]
      exact W.zret (v := 0) (ty := .boolean) hx hb hr rfl (fun t ht hW => ⟨⟨0, (f2), rfl, hw, by rw [ht]; exact hP, va_K.moved hW.alike hK, hD⟩, hS.F ht⟩) hS.2.2 dX11_canGo_114
    · have hw := hw.2 hc
      refine lv_iload hx hb dX11_canGo_66 (lv_at hl 0 rfl) ?_
      refine lv_aload_n hx hb dX11_canGo_68 rfl (lv_at hl 4 rfl) ?_
      refine lv_iload_n hx hb dX11_canGo_69 rfl (lv_at hl 2 rfl) ?_
      have hPc := hP.sub (ws' := (ceX11_cornersOf cyI cyB cyJ cyZ a0 a1 b0_image b0_before b0_taken b0_tape b0_five a2 b0_far b0_lead b0_walk b0_ends b0_manX b0_manY b0_dogX b0_dogY b0_row b0_round b0_farOne b0_leads b0_drags b0_from b0_near g0_thrown g0_hasImage g0_remembered g0_taped g0_point g0_end g0_begin g0_deep g0_faultAt g0_steps g0_men g0_dogs f1)) [0, 1] rfl
      have hDc := hD.sub (ws' := (ceX11_cornersOf cyI cyB cyJ cyZ a0 a1 b0_image b0_before b0_taken b0_tape b0_five a2 b0_far b0_lead b0_walk b0_ends b0_manX b0_manY b0_dogX b0_dogY b0_row b0_round b0_farOne b0_leads b0_drags b0_from b0_near g0_thrown g0_hasImage g0_remembered g0_taped g0_point g0_end g0_begin g0_deep g0_faultAt g0_steps g0_men g0_dogs f1)) [0, 1] (by decide) rfl
      have hFc := va_free (wc := (ceX11_cornersOf cyI cyB cyJ cyZ a0 a1 b0_image b0_before b0_taken b0_tape b0_five a2 b0_far b0_lead b0_walk b0_ends b0_manX b0_manY b0_dogX b0_dogY b0_row b0_round b0_farOne b0_leads b0_drags b0_from b0_near g0_thrown g0_hasImage g0_remembered g0_taped g0_point g0_end g0_begin g0_deep g0_faultAt g0_steps g0_men g0_dogs f1)) hD hS hA [0, 1] rfl
      refine va_calli (va_runV (As := [.int v2]) (rest := [.int v8]) ⟨hx, hb, hml, hown, hts⟩ (ctX11_cornersOf l dC dI cyI cyB cyJ cyZ _ a0 a1 b0_image b0_before b0_taken b0_tape b0_five a2 b0_far b0_lead b0_walk b0_ends b0_manX b0_manY b0_dogX b0_dogY b0_row b0_round b0_farOne b0_leads b0_drags b0_from b0_near g0_thrown g0_hasImage g0_remembered g0_taped g0_point g0_end g0_begin g0_deep g0_faultAt g0_steps g0_men g0_dogs f1 v2 _ hw) (cwV 1 hts gX11_canGo_X11_cornersOf rfl rfl rfl (by decide +kernel) ⟨Nat.le_of_ble_eq_true rfl, Nat.le_of_ble_eq_true rfl⟩) ⟨wPre_blind, va_recv hK hPc (ci := 11) (q0 := 0) rfl rfl, fun U hU hW => wPre_of hPc hK hDc hN hU hW⟩ rfl rfl hl.1 rfl (lv_room (Nat.le_of_ble_eq_true rfl)) dX11_canGo_70 ⟨(Nat.zero_le _), (Nat.zero_le _)⟩) hS (fun q _ h => hFc q h) hFc (fun r12 u11 t H1 locs ht hvm hw hB hz1 hk1 hS => ?_)
      obtain ⟨hP1, hK1, hD1⟩ := hB
      rw [ht] at hP1
      obtain ⟨hP, hD⟩ := va_join (wr := pickW (ceX11_canGo cyI cyB cyJ cyZ a0 a1 a2 b0_image b0_before b0_taken b0_tape b0_five b0_far b0_lead b0_walk b0_ends b0_manX b0_manY b0_dogX b0_dogY b0_row b0_round b0_farOne b0_leads b0_drags b0_from b0_near g0_thrown g0_hasImage g0_remembered g0_taped g0_point g0_end g0_begin g0_deep g0_faultAt g0_steps g0_men g0_dogs f1 f2) [2]) (w1 := (ceX11_cornersOf cyI cyB cyJ cyZ a0 a1 b0_image b0_before b0_taken b0_tape b0_five a2 b0_far b0_lead b0_walk b0_ends b0_manX b0_manY b0_dogX b0_dogY b0_row b0_round b0_farOne b0_leads b0_drags b0_from b0_near g0_thrown g0_hasImage g0_remembered g0_taped g0_point g0_end g0_begin g0_deep g0_faultAt g0_steps g0_men g0_dogs f1)) hP hD [0, 1] [2] rfl rfl (by decide) (by decide) hk1 hFc hP1 hD1
      have hP := hP.sub (ws' := (ceX11_canGo cyI cyB cyJ cyZ a0 a1 a2 b0_image b0_before b0_taken b0_tape b0_five b0_far b0_lead b0_walk b0_ends b0_manX b0_manY b0_dogX b0_dogY b0_row b0_round b0_farOne b0_leads b0_drags b0_from b0_near g0_thrown g0_hasImage g0_remembered g0_taped g0_point g0_end g0_begin g0_deep g0_faultAt g0_steps g0_men g0_dogs f1 f2)) [1, 2, 0] rfl
      have hD := hD.sub (ws' := (ceX11_canGo cyI cyB cyJ cyZ a0 a1 a2 b0_image b0_before b0_taken b0_tape b0_five b0_far b0_lead b0_walk b0_ends b0_manX b0_manY b0_dogX b0_dogY b0_row b0_round b0_farOne b0_leads b0_drags b0_from b0_near g0_thrown g0_hasImage g0_remembered g0_taped g0_point g0_end g0_begin g0_deep g0_faultAt g0_steps g0_men g0_dogs f1 f2)) [1, 2, 0] (by decide) rfl
      generalize H1 = H at hP hS ⊢
      refine lv_icmp_ge (tgt := 113) hx hb dX11_canGo_73 (by decide) (fun hc => ?_) (fun hc => ?_)
      · have hw := hw.1 hc
        refine lv_iconst (v := 0) hx hb dX11_canGo_113 (by decide) ?_
        rw [hQ]
        exact W.zret (v := 0) (ty := .boolean) hx hb hr rfl (fun t ht hW => ⟨⟨0, (f2), rfl, hw, by rw [ht]; exact hP, va_K.moved hW.alike hK, hD⟩, hS.F ht⟩) hS.2.2 dX11_canGo_114
      · have hw := hw.2 hc
        refine lv_aload_n hx hb dX11_canGo_76 rfl (lv_at hl 4 rfl) ?_
        refine lv_iload_n hx hb dX11_canGo_77 rfl (lv_at hl 3 rfl) ?_
        refine lv_iload hx hb dX11_canGo_78 (lv_at hl 1 rfl) ?_
        refine lv_iload_n hx hb dX11_canGo_80 rfl (lv_at hl 2 rfl) ?_
        refine lv_iload hx hb dX11_canGo_81 (lv_at hl 0 rfl) ?_
        have hPc := hP.sub (ws' := (ceX11_farAt cyI cyB cyJ cyZ a0 a1 b0_image b0_before b0_taken b0_tape b0_five a2 b0_far b0_lead b0_walk b0_ends b0_manX b0_manY b0_dogX b0_dogY b0_row b0_round b0_farOne b0_leads b0_drags b0_from b0_near g0_thrown g0_hasImage g0_remembered g0_taped g0_point g0_end g0_begin g0_deep g0_faultAt g0_steps g0_men g0_dogs f1)) [0, 1] rfl
        have hDc := hD.sub (ws' := (ceX11_farAt cyI cyB cyJ cyZ a0 a1 b0_image b0_before b0_taken b0_tape b0_five a2 b0_far b0_lead b0_walk b0_ends b0_manX b0_manY b0_dogX b0_dogY b0_row b0_round b0_farOne b0_leads b0_drags b0_from b0_near g0_thrown g0_hasImage g0_remembered g0_taped g0_point g0_end g0_begin g0_deep g0_faultAt g0_steps g0_men g0_dogs f1)) [0, 1] (by decide) rfl
        have hFc := va_free (wc := (ceX11_farAt cyI cyB cyJ cyZ a0 a1 b0_image b0_before b0_taken b0_tape b0_five a2 b0_far b0_lead b0_walk b0_ends b0_manX b0_manY b0_dogX b0_dogY b0_row b0_round b0_farOne b0_leads b0_drags b0_from b0_near g0_thrown g0_hasImage g0_remembered g0_taped g0_point g0_end g0_begin g0_deep g0_faultAt g0_steps g0_men g0_dogs f1)) hD hS hA [0, 1] rfl
        refine va_calli (va_runV (As := [.int v1, .int v5, .int v2, .int v8]) (rest := []) ⟨hx, hb, hml, hown, hts⟩ (ctX11_farAt l dC dI cyI cyB cyJ cyZ _ a0 a1 b0_image b0_before b0_taken b0_tape b0_five a2 b0_far b0_lead b0_walk b0_ends b0_manX b0_manY b0_dogX b0_dogY b0_row b0_round b0_farOne b0_leads b0_drags b0_from b0_near g0_thrown g0_hasImage g0_remembered g0_taped g0_point g0_end g0_begin g0_deep g0_faultAt g0_steps g0_men g0_dogs f1 v1 v5 v2 v8 _ hw) (cwV 4 hts gX11_canGo_X11_farAt rfl rfl rfl (by decide +kernel) ⟨Nat.le_of_ble_eq_true rfl, Nat.le_of_ble_eq_true rfl⟩) ⟨wPre_blind, va_recv hK hPc (ci := 11) (q0 := 0) rfl rfl, fun U hU hW => wPre_of hPc hK hDc hN hU hW⟩ rfl rfl hl.1 rfl (lv_room (Nat.le_of_ble_eq_true rfl)) dX11_canGo_83 ⟨(Nat.zero_le _), (Nat.zero_le _)⟩) hS (fun q _ h => hFc q h) hFc (fun r14 u13 t H1 locs ht hvm hw hB hz1 hk1 hS => ?_)
        obtain ⟨hP1, hK1, hD1⟩ := hB
        rw [ht] at hP1
        obtain ⟨hP, hD⟩ := va_join (wr := pickW (ceX11_canGo cyI cyB cyJ cyZ a0 a1 a2 b0_image b0_before b0_taken b0_tape b0_five b0_far b0_lead b0_walk b0_ends b0_manX b0_manY b0_dogX b0_dogY b0_row b0_round b0_farOne b0_leads b0_drags b0_from b0_near g0_thrown g0_hasImage g0_remembered g0_taped g0_point g0_end g0_begin g0_deep g0_faultAt g0_steps g0_men g0_dogs f1 f2) [2]) (w1 := (ceX11_farAt cyI cyB cyJ cyZ a0 a1 b0_image b0_before b0_taken b0_tape b0_five a2 b0_far b0_lead b0_walk b0_ends b0_manX b0_manY b0_dogX b0_dogY b0_row b0_round b0_farOne b0_leads b0_drags b0_from b0_near g0_thrown g0_hasImage g0_remembered g0_taped g0_point g0_end g0_begin g0_deep g0_faultAt g0_steps g0_men g0_dogs f1)) hP hD [0, 1] [2] rfl rfl (by decide) (by decide) hk1 hFc hP1 hD1
        have hP := hP.sub (ws' := (ceX11_canGo cyI cyB cyJ cyZ a0 a1 a2 b0_image b0_before b0_taken b0_tape b0_five b0_far b0_lead b0_walk b0_ends b0_manX b0_manY b0_dogX b0_dogY b0_row b0_round b0_farOne b0_leads b0_drags b0_from b0_near g0_thrown g0_hasImage g0_remembered g0_taped g0_point g0_end g0_begin g0_deep g0_faultAt g0_steps g0_men g0_dogs f1 f2)) [1, 2, 0] rfl
        have hD := hD.sub (ws' := (ceX11_canGo cyI cyB cyJ cyZ a0 a1 a2 b0_image b0_before b0_taken b0_tape b0_five b0_far b0_lead b0_walk b0_ends b0_manX b0_manY b0_dogX b0_dogY b0_row b0_round b0_farOne b0_leads b0_drags b0_from b0_near g0_thrown g0_hasImage g0_remembered g0_taped g0_point g0_end g0_begin g0_deep g0_faultAt g0_steps g0_men g0_dogs f1 f2)) [1, 2, 0] (by decide) rfl
        generalize H1 = H at hP hS ⊢
        refine lv_aload_n hx hb dX11_canGo_86 rfl (lv_at hl 4 rfl) ?_
        refine va_get (D := (dC, dI)) (ci := 11) (v := .ref a1) (C := RX11) (T := TX11) (N := 34) hx hb hts inX11_canGo_X11 hown hK hP 0 rfl rfl 1 (by decide) (hts (.fieldLink RX11 13 "LeadParkModel" "world" "[I") (List.mem_of_getElem? (i := 1) rfl)) (fun _ h9 => h9) rfl dX11_canGo_87 ?_
        refine lv_bipush (v := 9) hx hb dX11_canGo_90 (by decide) ?_
        obtain ⟨hi, hw⟩ := hw
        refine va_iald hx hb hK hP 1 0 rfl rfl hi dX11_canGo_92 ?_
        refine lv_icmp_gt (tgt := 113) hx hb dX11_canGo_93 (by decide) (fun hc => ?_) (fun hc => ?_)
        · have hw := hw.1 hc
          refine lv_iconst (v := 0) hx hb dX11_canGo_113 (by decide) ?_
          rw [hQ]
          exact W.zret (v := 0) (ty := .boolean) hx hb hr rfl (fun t ht hW => ⟨⟨0, (f2), rfl, hw, by rw [ht]; exact hP, va_K.moved hW.alike hK, hD⟩, hS.F ht⟩) hS.2.2 dX11_canGo_114
        · have hw := hw.2 hc
          refine lv_aload_n hx hb dX11_canGo_96 rfl (lv_at hl 4 rfl) ?_
          refine lv_iload_n hx hb dX11_canGo_97 rfl (lv_at hl 3 rfl) ?_
          refine lv_iload hx hb dX11_canGo_98 (lv_at hl 1 rfl) ?_
          refine lv_iload_n hx hb dX11_canGo_100 rfl (lv_at hl 2 rfl) ?_
          refine lv_iload hx hb dX11_canGo_101 (lv_at hl 0 rfl) ?_
          have hPc := hP.sub (ws' := (ceX11_isShut cyI cyB cyJ cyZ a0 a1 a2 b0_image b0_before b0_taken b0_tape b0_five b0_far b0_lead b0_walk b0_ends b0_manX b0_manY b0_dogX b0_dogY b0_row b0_round b0_farOne b0_leads b0_drags b0_from b0_near g0_thrown g0_hasImage g0_remembered g0_taped g0_point g0_end g0_begin g0_deep g0_faultAt g0_steps g0_men g0_dogs f1 f2)) [0, 1, 2] rfl
          have hDc := hD.sub (ws' := (ceX11_isShut cyI cyB cyJ cyZ a0 a1 a2 b0_image b0_before b0_taken b0_tape b0_five b0_far b0_lead b0_walk b0_ends b0_manX b0_manY b0_dogX b0_dogY b0_row b0_round b0_farOne b0_leads b0_drags b0_from b0_near g0_thrown g0_hasImage g0_remembered g0_taped g0_point g0_end g0_begin g0_deep g0_faultAt g0_steps g0_men g0_dogs f1 f2)) [0, 1, 2] (by decide) rfl
          have hFc := va_free (wc := (ceX11_isShut cyI cyB cyJ cyZ a0 a1 a2 b0_image b0_before b0_taken b0_tape b0_five b0_far b0_lead b0_walk b0_ends b0_manX b0_manY b0_dogX b0_dogY b0_row b0_round b0_farOne b0_leads b0_drags b0_from b0_near g0_thrown g0_hasImage g0_remembered g0_taped g0_point g0_end g0_begin g0_deep g0_faultAt g0_steps g0_men g0_dogs f1 f2)) hD hS hA [0, 1, 2] rfl
          refine va_calli (va_runV (As := [.int v1, .int v5, .int v2, .int v8]) (rest := []) ⟨hx, hb, hml, hown, hts⟩ (ctX11_isShut l dC dI cyI cyB cyJ cyZ _ a0 a1 a2 b0_image b0_before b0_taken b0_tape b0_five b0_far b0_lead b0_walk b0_ends b0_manX b0_manY b0_dogX b0_dogY b0_row b0_round b0_farOne b0_leads b0_drags b0_from b0_near g0_thrown g0_hasImage g0_remembered g0_taped g0_point g0_end g0_begin g0_deep g0_faultAt g0_steps g0_men g0_dogs f1 f2 v1 v5 v2 v8 _ hw) (cwV 4 hts gX11_canGo_X11_isShut rfl rfl rfl (by decide +kernel) ⟨Nat.le_of_ble_eq_true rfl, Nat.le_of_ble_eq_true rfl⟩) ⟨wPre_blind, va_recv hK hPc (ci := 11) (q0 := 0) rfl rfl, fun U hU hW => wPre_of hPc hK hDc hN hU hW⟩ rfl rfl hl.1 rfl (lv_room (Nat.le_of_ble_eq_true rfl)) dX11_canGo_103 ⟨(Nat.zero_le _), (Nat.zero_le _)⟩) hS (fun q _ h => hFc q h) hFc (fun r16 u15 t H1 locs ht hvm hw hB hz1 hk1 hS => ?_)
          obtain ⟨hP1, hK1, hD1⟩ := hB
          rw [ht] at hP1
          obtain ⟨hP, hD⟩ := va_join (wr := pickW (ceX11_canGo cyI cyB cyJ cyZ a0 a1 a2 b0_image b0_before b0_taken b0_tape b0_five b0_far b0_lead b0_walk b0_ends b0_manX b0_manY b0_dogX b0_dogY b0_row b0_round b0_farOne b0_leads b0_drags b0_from b0_near g0_thrown g0_hasImage g0_remembered g0_taped g0_point g0_end g0_begin g0_deep g0_faultAt g0_steps g0_men g0_dogs f1 f2) []) (w1 := (ceX11_isShut cyI cyB cyJ cyZ a0 a1 a2 b0_image b0_before b0_taken b0_tape b0_five b0_far b0_lead b0_walk b0_ends b0_manX b0_manY b0_dogX b0_dogY b0_row b0_round b0_farOne b0_leads b0_drags b0_from b0_near g0_thrown g0_hasImage g0_remembered g0_taped g0_point g0_end g0_begin g0_deep g0_faultAt g0_steps g0_men g0_dogs f1 u15)) hP hD [0, 1, 2] [] rfl rfl (by decide) (by decide) hk1 hFc hP1 hD1
          have hP := hP.sub (ws' := (ceX11_canGo cyI cyB cyJ cyZ a0 a1 a2 b0_image b0_before b0_taken b0_tape b0_five b0_far b0_lead b0_walk b0_ends b0_manX b0_manY b0_dogX b0_dogY b0_row b0_round b0_farOne b0_leads b0_drags b0_from b0_near g0_thrown g0_hasImage g0_remembered g0_taped g0_point g0_end g0_begin g0_deep g0_faultAt g0_steps g0_men g0_dogs f1 u15)) [0, 1, 2] rfl
          have hD := hD.sub (ws' := (ceX11_canGo cyI cyB cyJ cyZ a0 a1 a2 b0_image b0_before b0_taken b0_tape b0_five b0_far b0_lead b0_walk b0_ends b0_manX b0_manY b0_dogX b0_dogY b0_row b0_round b0_farOne b0_leads b0_drags b0_from b0_near g0_thrown g0_hasImage g0_remembered g0_taped g0_point g0_end g0_begin g0_deep g0_faultAt g0_steps g0_men g0_dogs f1 u15)) [0, 1, 2] (by decide) rfl
          generalize H1 = H at hP hS ⊢
          refine lv_if_ne (tgt := 113) hx hb dX11_canGo_106 (by decide) (fun hc => ?_) (fun hc => ?_)
          · have hw := hw.1 hc
            refine lv_iconst (v := 0) hx hb dX11_canGo_113 (by decide) ?_
            rw [hQ]
            exact W.zret (v := 0) (ty := .boolean) hx hb hr rfl (fun t ht hW => ⟨⟨0, (u15), rfl, hw, by rw [ht]; exact hP, va_K.moved hW.alike hK, hD⟩, hS.F ht⟩) hS.2.2 dX11_canGo_114
          · have hw := hw.2 hc
            refine lv_iconst (v := 1) hx hb dX11_canGo_109 (by decide) ?_
            refine lv_goto (tgt := 114) hx hb dX11_canGo_110 (by decide) ?_
            rw [hQ]
            exact W.zret (v := 1) (ty := .boolean) hx hb hr rfl (fun t ht hW => ⟨⟨1, (u15), rfl, hw, by rw [ht]; exact hP, va_K.moved hW.alike hK, hD⟩, hS.F ht⟩) hS.2.2 dX11_canGo_114
  · have hw := hw.2 hc
    refine lv_iconst (v := 0) hx hb dX11_canGo_10 (by decide) ?_
    rw [hQ]
    exact W.zret (v := 0) (ty := .boolean) hx hb hr rfl (fun t ht hW => ⟨⟨0, (f2), rfl, hw, by rw [ht]; exact hP, va_K.moved hW.alike hK, hD⟩, hS.F ht⟩) hS.2.2 dX11_canGo_11
/-! LeadParkModel.goes (I)I -/
abbrev ceX11_goes (cyI cyB cyJ cyZ : ClassId) (a0 a1 a2 b0_image b0_before b0_tape b0_five b0_value b0_far b0_lead b0_walk b0_ends b0_manX b0_manY b0_dogX b0_dogY b0_row b0_round b0_farOne b0_leads b0_drags b0_from b0_near : Nat) (g0_thrown : Int32) (g0_hasImage : Int32) (g0_taped : Int32) (g0_point : Int32) (g0_end : Int32) (g0_begin : Int32) (g0_deep : Int32) (g0_faultAt : Int32) (g0_steps : Int32) (g0_men : Int32) (g0_dogs : Int32) (g0_remembered : Int32) (f1 : Nat → Int32) (f2 : Nat → Int32) : va_W := [(a0, .inr (11, [.int g0_thrown, .ref a2, .ref b0_image, .ref b0_before, .int g0_hasImage, .ref a1, .int g0_remembered, .ref b0_tape, .int g0_taped, .int g0_point, .int g0_end, .int g0_begin, .int g0_deep, .int g0_faultAt, .ref b0_five, .int g0_steps, .ref b0_value, .ref b0_far, .int g0_men, .int g0_dogs, .ref b0_lead, .ref b0_walk, .ref b0_ends, .ref b0_manX, .ref b0_manY, .ref b0_dogX, .ref b0_dogY, .ref b0_row, .ref b0_round, .ref b0_farOne, .ref b0_leads, .ref b0_drags, .ref b0_from, .ref b0_near])), (a1, .inl (cyI, 80, .inl f1)), (a2, .inl (cyI, 2508, .inl f2))]

theorem inX11_goes_X11 : ∀ w ∈ wsX110, w ∈ wsX11_goes := fun _ h => List.mem_cons_of_mem _ (List.mem_append_right _ h)
abbrev rmX11_goes : Room := { frames := 2, cells := 0, slots := 0, locals := 47 }
def wpX11_goes_50 (post : Int32 → (Int32 × (Nat → Int32) × (Nat → Int32)) → Prop) (g0_remembered : Int32) (f1 : Nat → Int32) (f2 : Nat → Int32) (x1 : Int32) : Prop :=
  vp_in ((2 * g0_remembered) - 2) 80 ∧
  vp_in 13 2508 ∧
  vp_in ((2 * g0_remembered) - 1) 80 ∧
  vp_in 10 2508 ∧
  wpX11_manBy (fun (r2 : Int32) (u1 : Unit) =>
   vp_in 10 2508 ∧
   vp_in 11 2508 ∧
   wpX11_dogBy (fun (r4 : Int32) (u3 : Unit) =>
    vp_in 11 2508 ∧
    vp_in 12 2508 ∧
    vp_in 12 2508 ∧
    vp_in 7 2508 ∧
    vp_in 10 2508 ∧
    vp_in 8 2508 ∧
    vp_in 11 2508 ∧
    wpX11_farAt (fun (r6 : Int32) (u5 : Unit) =>
     vp_in 13 2508 ∧
     vp_in 13 2508 ∧
     post r6 (g0_remembered, (upd (upd f1 ((2 * g0_remembered) - 2).toNatClampNeg x1) ((2 * g0_remembered) - 1).toNatClampNeg (f2 (13 : Int32).toNatClampNeg)), (upd (upd (upd (upd f2 (10 : Int32).toNatClampNeg ((f2 (10 : Int32).toNatClampNeg) + r2)) (11 : Int32).toNatClampNeg (((upd f2 (10 : Int32).toNatClampNeg ((f2 (10 : Int32).toNatClampNeg) + r2)) (11 : Int32).toNatClampNeg) + r4)) (12 : Int32).toNatClampNeg (((upd (upd f2 (10 : Int32).toNatClampNeg ((f2 (10 : Int32).toNatClampNeg) + r2)) (11 : Int32).toNatClampNeg (((upd f2 (10 : Int32).toNatClampNeg ((f2 (10 : Int32).toNatClampNeg) + r2)) (11 : Int32).toNatClampNeg) + r4)) (12 : Int32).toNatClampNeg) + 1)) (13 : Int32).toNatClampNeg (iMax ((upd (upd (upd f2 (10 : Int32).toNatClampNeg ((f2 (10 : Int32).toNatClampNeg) + r2)) (11 : Int32).toNatClampNeg (((upd f2 (10 : Int32).toNatClampNeg ((f2 (10 : Int32).toNatClampNeg) + r2)) (11 : Int32).toNatClampNeg) + r4)) (12 : Int32).toNatClampNeg (((upd (upd f2 (10 : Int32).toNatClampNeg ((f2 (10 : Int32).toNatClampNeg) + r2)) (11 : Int32).toNatClampNeg (((upd f2 (10 : Int32).toNatClampNeg ((f2 (10 : Int32).toNatClampNeg) + r2)) (11 : Int32).toNatClampNeg) + r4)) (12 : Int32).toNatClampNeg) + 1)) (13 : Int32).toNatClampNeg) r6)))) (upd (upd (upd f2 (10 : Int32).toNatClampNeg ((f2 (10 : Int32).toNatClampNeg) + r2)) (11 : Int32).toNatClampNeg (((upd f2 (10 : Int32).toNatClampNeg ((f2 (10 : Int32).toNatClampNeg) + r2)) (11 : Int32).toNatClampNeg) + r4)) (12 : Int32).toNatClampNeg (((upd (upd f2 (10 : Int32).toNatClampNeg ((f2 (10 : Int32).toNatClampNeg) + r2)) (11 : Int32).toNatClampNeg (((upd f2 (10 : Int32).toNatClampNeg ((f2 (10 : Int32).toNatClampNeg) + r2)) (11 : Int32).toNatClampNeg) + r4)) (12 : Int32).toNatClampNeg) + 1)) ((upd (upd (upd f2 (10 : Int32).toNatClampNeg ((f2 (10 : Int32).toNatClampNeg) + r2)) (11 : Int32).toNatClampNeg (((upd f2 (10 : Int32).toNatClampNeg ((f2 (10 : Int32).toNatClampNeg) + r2)) (11 : Int32).toNatClampNeg) + r4)) (12 : Int32).toNatClampNeg (((upd (upd f2 (10 : Int32).toNatClampNeg ((f2 (10 : Int32).toNatClampNeg) + r2)) (11 : Int32).toNatClampNeg (((upd f2 (10 : Int32).toNatClampNeg ((f2 (10 : Int32).toNatClampNeg) + r2)) (11 : Int32).toNatClampNeg) + r4)) (12 : Int32).toNatClampNeg) + 1)) (7 : Int32).toNatClampNeg) ((upd (upd (upd f2 (10 : Int32).toNatClampNeg ((f2 (10 : Int32).toNatClampNeg) + r2)) (11 : Int32).toNatClampNeg (((upd f2 (10 : Int32).toNatClampNeg ((f2 (10 : Int32).toNatClampNeg) + r2)) (11 : Int32).toNatClampNeg) + r4)) (12 : Int32).toNatClampNeg (((upd (upd f2 (10 : Int32).toNatClampNeg ((f2 (10 : Int32).toNatClampNeg) + r2)) (11 : Int32).toNatClampNeg (((upd f2 (10 : Int32).toNatClampNeg ((f2 (10 : Int32).toNatClampNeg) + r2)) (11 : Int32).toNatClampNeg) + r4)) (12 : Int32).toNatClampNeg) + 1)) (10 : Int32).toNatClampNeg) ((upd (upd (upd f2 (10 : Int32).toNatClampNeg ((f2 (10 : Int32).toNatClampNeg) + r2)) (11 : Int32).toNatClampNeg (((upd f2 (10 : Int32).toNatClampNeg ((f2 (10 : Int32).toNatClampNeg) + r2)) (11 : Int32).toNatClampNeg) + r4)) (12 : Int32).toNatClampNeg (((upd (upd f2 (10 : Int32).toNatClampNeg ((f2 (10 : Int32).toNatClampNeg) + r2)) (11 : Int32).toNatClampNeg (((upd f2 (10 : Int32).toNatClampNeg ((f2 (10 : Int32).toNatClampNeg) + r2)) (11 : Int32).toNatClampNeg) + r4)) (12 : Int32).toNatClampNeg) + 1)) (8 : Int32).toNatClampNeg) ((upd (upd (upd f2 (10 : Int32).toNatClampNeg ((f2 (10 : Int32).toNatClampNeg) + r2)) (11 : Int32).toNatClampNeg (((upd f2 (10 : Int32).toNatClampNeg ((f2 (10 : Int32).toNatClampNeg) + r2)) (11 : Int32).toNatClampNeg) + r4)) (12 : Int32).toNatClampNeg (((upd (upd f2 (10 : Int32).toNatClampNeg ((f2 (10 : Int32).toNatClampNeg) + r2)) (11 : Int32).toNatClampNeg (((upd f2 (10 : Int32).toNatClampNeg ((f2 (10 : Int32).toNatClampNeg) + r2)) (11 : Int32).toNatClampNeg) + r4)) (12 : Int32).toNatClampNeg) + 1)) (11 : Int32).toNatClampNeg)) x1) x1
def wpX11_goes_11 (post : Int32 → (Int32 × (Nat → Int32) × (Nat → Int32)) → Prop) : Nat → Int32 → (Nat → Int32) → (Nat → Int32) → Int32 → Int32 → Prop
  | 0, _, _, _, _, _ => False
  | n_11 + 1, g0_remembered, f1, f2, x1, x2 =>
    (78 ≤ x2 →
     wpX11_goes_50 post g0_remembered f1 f2 x1) ∧
    (¬ 78 ≤ x2 →
     vp_in (x2 + 2) 80 ∧
     vp_in x2 80 ∧
     ∀ v1 : Int32, v1 = x2 + 1 →
     wpX11_goes_11 post n_11 g0_remembered (upd f1 x2.toNatClampNeg (f1 (x2 + 2).toNatClampNeg)) f2 x1 v1)
def wpX11_goes (post : Int32 → (Int32 × (Nat → Int32) × (Nat → Int32)) → Prop) (g0_remembered : Int32) (f1 : Nat → Int32) (f2 : Nat → Int32) (p0 : Int32) : Prop :=
  (¬ g0_remembered = 40 →
   ∀ v1 : Int32, v1 = g0_remembered + 1 →
   wpX11_goes_50 post v1 f1 f2 p0) ∧
  (g0_remembered = 40 →
   ∃ n_11 : Nat, wpX11_goes_11 post n_11 g0_remembered f1 f2 p0 0)
set_option maxRecDepth 100000 in
set_option maxHeartbeats 4000000 in
theorem bX11_goes_50 {p : Program} {l : Launch} {e : Env} {s : State} {m : MethodId} {args : Array Value} {below : List Frame} {meth : Method} {c : Code} {dC : Nat → ClassId} {dI : Nat → Nat → Nat} {cyI cyB cyJ cyZ : ClassId} {A : Nat → Prop} {a0 a1 a2 b0_image b0_before b0_tape b0_five b0_value b0_far b0_lead b0_walk b0_ends b0_manX b0_manY b0_dogX b0_dogY b0_row b0_round b0_farOne b0_leads b0_drags b0_from b0_near : Nat} {g0_thrown : Int32} {g0_hasImage : Int32} {g0_taped : Int32} {g0_point : Int32} {g0_end : Int32} {g0_begin : Int32} {g0_deep : Int32} {g0_faultAt : Int32} {g0_steps : Int32} {g0_men : Int32} {g0_dogs : Int32} (C0 : cxM p s m meth c args wsX11_goes RX11 cX11_goes 3 (some .int)) (hK : va_K (dC, dI) vwCl (tyA cyI cyB cyJ cyZ) s) (hN : nwA s) (hA : ∀ q : Nat, s.heap.size ≤ q → A q) {post : Int32 → (Int32 × (Nat → Int32) × (Nat → Int32)) → Prop} {Q : State → Prop} (hQ : Q = MQ below (va_Qi post (fun u : Int32 × (Nat → Int32) × (Nat → Int32) => wAt dC dI cyI cyB cyJ cyZ A (ceX11_goes cyI cyB cyJ cyZ a0 a1 a2 b0_image b0_before b0_tape b0_five b0_value b0_far b0_lead b0_walk b0_ends b0_manX b0_manY b0_dogX b0_dogY b0_row b0_round b0_farOne b0_leads b0_drags b0_from b0_near g0_thrown g0_hasImage g0_taped g0_point g0_end g0_begin g0_deep g0_faultAt g0_steps g0_men g0_dogs u.1 u.2.1 u.2.2)) A) args s 0 0 A) : ∀ (g0_remembered : Int32) (f1 : Nat → Int32) (f2 : Nat → Int32) (x1 : Int32), wpX11_goes_50 post g0_remembered f1 f2 x1 → AtW p l e rmX11_goes s m args below meth c dC dI A Q 3 0 0 (ceX11_goes cyI cyB cyJ cyZ a0 a1 a2 b0_image b0_before b0_tape b0_five b0_value b0_far b0_lead b0_walk b0_ends b0_manX b0_manY b0_dogX b0_dogY b0_row b0_round b0_farOne b0_leads b0_drags b0_from b0_near g0_thrown g0_hasImage g0_taped g0_point g0_end g0_begin g0_deep g0_faultAt g0_steps g0_men g0_dogs g0_remembered f1 f2) [(0, .ref a0), (1, .int x1)] 50 [] := by
  intro g0_remembered f1 f2 x1 hw H locs hP hD hS ls hl
  have C1 := C0
  obtain ⟨hx, hb, hr, hml, hown, hts, hlocks⟩ := C1
  refine lv_aload_n hx hb dX11_goes_50 rfl (lv_at hl 0 rfl) ?_
  refine va_get (D := (dC, dI)) (ci := 11) (v := .ref a1) (C := RX11) (T := TX11) (N := 34) hx hb hts inX11_goes_X11 hown hK hP 0 rfl rfl 5 (by decide) (hts (.fieldLink RX11 23 "LeadParkModel" "taken" "[I") (List.mem_of_getElem? (i := 2) rfl)) (fun _ h9 => h9) rfl dX11_goes_51 ?_
  refine lv_iconst (v := 2) hx hb dX11_goes_54 (by decide) ?_
  refine lv_aload_n hx hb dX11_goes_55 rfl (lv_at hl 0 rfl) ?_
  refine va_get (D := (dC, dI)) (ci := 11) (v := .int g0_remembered) (C := RX11) (T := TX11) (N := 34) hx hb hts inX11_goes_X11 hown hK hP 0 rfl rfl 6 (by decide) (hts (.fieldLink RX11 90 "LeadParkModel" "remembered" "I") (List.mem_of_getElem? (i := 1) rfl)) (fun _ h9 => h9) rfl dX11_goes_56 ?_
  refine lv_imul hx hb dX11_goes_59 ?_
  refine lv_iconst (v := 2) hx hb dX11_goes_60 (by decide) ?_
  refine lv_isub hx hb dX11_goes_61 ?_
  refine lv_iload_n hx hb dX11_goes_62 rfl (lv_at hl 1 rfl) ?_
  obtain ⟨hi, hw⟩ := hw
  refine va_iast hx hb hK hP hD hS 1 0 rfl rfl hi dX11_goes_63 (fun H locs hP hD hS => ?_)
  have hP : va_P (dC, dI) vwCl (ceX11_goes cyI cyB cyJ cyZ a0 a1 a2 b0_image b0_before b0_tape b0_five b0_value b0_far b0_lead b0_walk b0_ends b0_manX b0_manY b0_dogX b0_dogY b0_row b0_round b0_farOne b0_leads b0_drags b0_from b0_near g0_thrown g0_hasImage g0_taped g0_point g0_end g0_begin g0_deep g0_faultAt g0_steps g0_men g0_dogs g0_remembered (upd f1 ((2 * g0_remembered) - 2).toNatClampNeg x1) f2) H := hP
  have hD : va_D A (ceX11_goes cyI cyB cyJ cyZ a0 a1 a2 b0_image b0_before b0_tape b0_five b0_value b0_far b0_lead b0_walk b0_ends b0_manX b0_manY b0_dogX b0_dogY b0_row b0_round b0_farOne b0_leads b0_drags b0_from b0_near g0_thrown g0_hasImage g0_taped g0_point g0_end g0_begin g0_deep g0_faultAt g0_steps g0_men g0_dogs g0_remembered (upd f1 ((2 * g0_remembered) - 2).toNatClampNeg x1) f2) := hD
  refine lv_aload_n hx hb dX11_goes_64 rfl (lv_at hl 0 rfl) ?_
  refine va_get (D := (dC, dI)) (ci := 11) (v := .ref a1) (C := RX11) (T := TX11) (N := 34) hx hb hts inX11_goes_X11 hown hK hP 0 rfl rfl 5 (by decide) (hts (.fieldLink RX11 23 "LeadParkModel" "taken" "[I") (List.mem_of_getElem? (i := 2) rfl)) (fun _ h9 => h9) rfl dX11_goes_65 ?_
  refine lv_iconst (v := 2) hx hb dX11_goes_68 (by decide) ?_
  refine lv_aload_n hx hb dX11_goes_69 rfl (lv_at hl 0 rfl) ?_
  refine va_get (D := (dC, dI)) (ci := 11) (v := .int g0_remembered) (C := RX11) (T := TX11) (N := 34) hx hb hts inX11_goes_X11 hown hK hP 0 rfl rfl 6 (by decide) (hts (.fieldLink RX11 90 "LeadParkModel" "remembered" "I") (List.mem_of_getElem? (i := 1) rfl)) (fun _ h9 => h9) rfl dX11_goes_70 ?_
  refine lv_imul hx hb dX11_goes_73 ?_
  refine lv_iconst (v := 1) hx hb dX11_goes_74 (by decide) ?_
  refine lv_isub hx hb dX11_goes_75 ?_
  refine lv_aload_n hx hb dX11_goes_76 rfl (lv_at hl 0 rfl) ?_
  refine va_get (D := (dC, dI)) (ci := 11) (v := .ref a2) (C := RX11) (T := TX11) (N := 34) hx hb hts inX11_goes_X11 hown hK hP 0 rfl rfl 1 (by decide) (hts (.fieldLink RX11 13 "LeadParkModel" "world" "[I") (List.mem_of_getElem? (i := 3) rfl)) (fun _ h9 => h9) rfl dX11_goes_77 ?_
  refine lv_bipush (v := 13) hx hb dX11_goes_80 (by decide) ?_
  obtain ⟨hi, hw⟩ := hw
  refine va_iald hx hb hK hP 2 0 rfl rfl hi dX11_goes_82 ?_
  obtain ⟨hi, hw⟩ := hw
  refine va_iast hx hb hK hP hD hS 1 0 rfl rfl hi dX11_goes_83 (fun H locs hP hD hS => ?_)
  have hP : va_P (dC, dI) vwCl (ceX11_goes cyI cyB cyJ cyZ a0 a1 a2 b0_image b0_before b0_tape b0_five b0_value b0_far b0_lead b0_walk b0_ends b0_manX b0_manY b0_dogX b0_dogY b0_row b0_round b0_farOne b0_leads b0_drags b0_from b0_near g0_thrown g0_hasImage g0_taped g0_point g0_end g0_begin g0_deep g0_faultAt g0_steps g0_men g0_dogs g0_remembered (upd (upd f1 ((2 * g0_remembered) - 2).toNatClampNeg x1) ((2 * g0_remembered) - 1).toNatClampNeg (f2 (13 : Int32).toNatClampNeg)) f2) H := hP
  have hD : va_D A (ceX11_goes cyI cyB cyJ cyZ a0 a1 a2 b0_image b0_before b0_tape b0_five b0_value b0_far b0_lead b0_walk b0_ends b0_manX b0_manY b0_dogX b0_dogY b0_row b0_round b0_farOne b0_leads b0_drags b0_from b0_near g0_thrown g0_hasImage g0_taped g0_point g0_end g0_begin g0_deep g0_faultAt g0_steps g0_men g0_dogs g0_remembered (upd (upd f1 ((2 * g0_remembered) - 2).toNatClampNeg x1) ((2 * g0_remembered) - 1).toNatClampNeg (f2 (13 : Int32).toNatClampNeg)) f2) := hD
  refine lv_aload_n hx hb dX11_goes_84 rfl (lv_at hl 0 rfl) ?_
  refine va_get (D := (dC, dI)) (ci := 11) (v := .ref a2) (C := RX11) (T := TX11) (N := 34) hx hb hts inX11_goes_X11 hown hK hP 0 rfl rfl 1 (by decide) (hts (.fieldLink RX11 13 "LeadParkModel" "world" "[I") (List.mem_of_getElem? (i := 3) rfl)) (fun _ h9 => h9) rfl dX11_goes_85 ?_
  refine lv_bipush (v := 10) hx hb dX11_goes_88 (by decide) ?_
  refine lv_dup2_11 hx hb dX11_goes_90 rfl rfl ?_
  obtain ⟨hi, hw⟩ := hw
  refine va_iald hx hb hK hP 2 0 rfl rfl hi dX11_goes_91 ?_
  refine lv_iload_n hx hb dX11_goes_92 rfl (lv_at hl 1 rfl) ?_
  have hPc := hP.sub (ws' := ([] : va_W)) [] rfl
  have hDc := hD.sub (ws' := ([] : va_W)) [] (by decide) rfl
  have hFc := va_free (wc := ([] : va_W)) hD hS hA [] rfl
  refine va_calli (va_runS (As := [.int x1]) (rest := [.int (f2 (10 : Int32).toNatClampNeg), .int 10, .ref a2]) ⟨hx, hb, hml, hown, hts⟩ (ctX11_manBy l dC dI cyI cyB cyJ cyZ _ x1 _ hw) (va_cwS 1 hts gX11_goes_X11_manBy rfl rfl rfl (by decide +kernel) ⟨Nat.le_of_ble_eq_true rfl, Nat.le_of_ble_eq_true rfl⟩) ⟨wPre_blind, fun U hU hW => wPre_of hPc hK hDc hN hU hW⟩ rfl rfl hl.1 rfl (lv_room (Nat.le_of_ble_eq_true rfl)) dX11_goes_93 ⟨(Nat.zero_le _), (Nat.zero_le _)⟩) hS (fun q _ h => hFc q h) hFc (fun r2 u1 t H1 locs ht hvm hw hB hz1 hk1 hS => ?_)
  obtain ⟨hP1, hK1, hD1⟩ := hB
  rw [ht] at hP1
  obtain ⟨hP, hD⟩ := va_join (wr := pickW (ceX11_goes cyI cyB cyJ cyZ a0 a1 a2 b0_image b0_before b0_tape b0_five b0_value b0_far b0_lead b0_walk b0_ends b0_manX b0_manY b0_dogX b0_dogY b0_row b0_round b0_farOne b0_leads b0_drags b0_from b0_near g0_thrown g0_hasImage g0_taped g0_point g0_end g0_begin g0_deep g0_faultAt g0_steps g0_men g0_dogs g0_remembered (upd (upd f1 ((2 * g0_remembered) - 2).toNatClampNeg x1) ((2 * g0_remembered) - 1).toNatClampNeg (f2 (13 : Int32).toNatClampNeg)) f2) [0, 1, 2]) (w1 := ([] : va_W)) hP hD [] [0, 1, 2] rfl rfl (by decide) (by decide) hk1 hFc hP1 hD1
  have hP := hP.sub (ws' := (ceX11_goes cyI cyB cyJ cyZ a0 a1 a2 b0_image b0_before b0_tape b0_five b0_value b0_far b0_lead b0_walk b0_ends b0_manX b0_manY b0_dogX b0_dogY b0_row b0_round b0_farOne b0_leads b0_drags b0_from b0_near g0_thrown g0_hasImage g0_taped g0_point g0_end g0_begin g0_deep g0_faultAt g0_steps g0_men g0_dogs g0_remembered (upd (upd f1 ((2 * g0_remembered) - 2).toNatClampNeg x1) ((2 * g0_remembered) - 1).toNatClampNeg (f2 (13 : Int32).toNatClampNeg)) f2)) [0, 1, 2] rfl
  have hD := hD.sub (ws' := (ceX11_goes cyI cyB cyJ cyZ a0 a1 a2 b0_image b0_before b0_tape b0_five b0_value b0_far b0_lead b0_walk b0_ends b0_manX b0_manY b0_dogX b0_dogY b0_row b0_round b0_farOne b0_leads b0_drags b0_from b0_near g0_thrown g0_hasImage g0_taped g0_point g0_end g0_begin g0_deep g0_faultAt g0_steps g0_men g0_dogs g0_remembered (upd (upd f1 ((2 * g0_remembered) - 2).toNatClampNeg x1) ((2 * g0_remembered) - 1).toNatClampNeg (f2 (13 : Int32).toNatClampNeg)) f2)) [0, 1, 2] (by decide) rfl
  generalize H1 = H at hP hS ⊢
  refine lv_iadd hx hb dX11_goes_96 ?_
  obtain ⟨hi, hw⟩ := hw
  refine va_iast hx hb hK hP hD hS 2 0 rfl rfl hi dX11_goes_97 (fun H locs hP hD hS => ?_)
  have hP : va_P (dC, dI) vwCl (ceX11_goes cyI cyB cyJ cyZ a0 a1 a2 b0_image b0_before b0_tape b0_five b0_value b0_far b0_lead b0_walk b0_ends b0_manX b0_manY b0_dogX b0_dogY b0_row b0_round b0_farOne b0_leads b0_drags b0_from b0_near g0_thrown g0_hasImage g0_taped g0_point g0_end g0_begin g0_deep g0_faultAt g0_steps g0_men g0_dogs g0_remembered (upd (upd f1 ((2 * g0_remembered) - 2).toNatClampNeg x1) ((2 * g0_remembered) - 1).toNatClampNeg (f2 (13 : Int32).toNatClampNeg)) (upd f2 (10 : Int32).toNatClampNeg ((f2 (10 : Int32).toNatClampNeg) + r2))) H := hP
  have hD : va_D A (ceX11_goes cyI cyB cyJ cyZ a0 a1 a2 b0_image b0_before b0_tape b0_five b0_value b0_far b0_lead b0_walk b0_ends b0_manX b0_manY b0_dogX b0_dogY b0_row b0_round b0_farOne b0_leads b0_drags b0_from b0_near g0_thrown g0_hasImage g0_taped g0_point g0_end g0_begin g0_deep g0_faultAt g0_steps g0_men g0_dogs g0_remembered (upd (upd f1 ((2 * g0_remembered) - 2).toNatClampNeg x1) ((2 * g0_remembered) - 1).toNatClampNeg (f2 (13 : Int32).toNatClampNeg)) (upd f2 (10 : Int32).toNatClampNeg ((f2 (10 : Int32).toNatClampNeg) + r2))) := hD
  refine lv_aload_n hx hb dX11_goes_98 rfl (lv_at hl 0 rfl) ?_
  refine va_get (D := (dC, dI)) (ci := 11) (v := .ref a2) (C := RX11) (T := TX11) (N := 34) hx hb hts inX11_goes_X11 hown hK hP 0 rfl rfl 1 (by decide) (hts (.fieldLink RX11 13 "LeadParkModel" "world" "[I") (List.mem_of_getElem? (i := 3) rfl)) (fun _ h9 => h9) rfl dX11_goes_99 ?_
  refine lv_bipush (v := 11) hx hb dX11_goes_102 (by decide) ?_
  refine lv_dup2_11 hx hb dX11_goes_104 rfl rfl ?_
  obtain ⟨hi, hw⟩ := hw
  refine va_iald hx hb hK hP 2 0 rfl rfl hi dX11_goes_105 ?_
  refine lv_iload_n hx hb dX11_goes_106 rfl (lv_at hl 1 rfl) ?_
  have hPc := hP.sub (ws' := ([] : va_W)) [] rfl
  have hDc := hD.sub (ws' := ([] : va_W)) [] (by decide) rfl
  have hFc := va_free (wc := ([] : va_W)) hD hS hA [] rfl
  refine va_calli (va_runS (As := [.int x1]) (rest := [.int ((upd f2 (10 : Int32).toNatClampNeg ((f2 (10 : Int32).toNatClampNeg) + r2)) (11 : Int32).toNatClampNeg), .int 11, .ref a2]) ⟨hx, hb, hml, hown, hts⟩ (ctX11_dogBy l dC dI cyI cyB cyJ cyZ _ x1 _ hw) (va_cwS 1 hts gX11_goes_X11_dogBy rfl rfl rfl (by decide +kernel) ⟨Nat.le_of_ble_eq_true rfl, Nat.le_of_ble_eq_true rfl⟩) ⟨wPre_blind, fun U hU hW => wPre_of hPc hK hDc hN hU hW⟩ rfl rfl hl.1 rfl (lv_room (Nat.le_of_ble_eq_true rfl)) dX11_goes_107 ⟨(Nat.zero_le _), (Nat.zero_le _)⟩) hS (fun q _ h => hFc q h) hFc (fun r4 u3 t H1 locs ht hvm hw hB hz1 hk1 hS => ?_)
  obtain ⟨hP1, hK1, hD1⟩ := hB
  rw [ht] at hP1
  obtain ⟨hP, hD⟩ := va_join (wr := pickW (ceX11_goes cyI cyB cyJ cyZ a0 a1 a2 b0_image b0_before b0_tape b0_five b0_value b0_far b0_lead b0_walk b0_ends b0_manX b0_manY b0_dogX b0_dogY b0_row b0_round b0_farOne b0_leads b0_drags b0_from b0_near g0_thrown g0_hasImage g0_taped g0_point g0_end g0_begin g0_deep g0_faultAt g0_steps g0_men g0_dogs g0_remembered (upd (upd f1 ((2 * g0_remembered) - 2).toNatClampNeg x1) ((2 * g0_remembered) - 1).toNatClampNeg (f2 (13 : Int32).toNatClampNeg)) (upd f2 (10 : Int32).toNatClampNeg ((f2 (10 : Int32).toNatClampNeg) + r2))) [0, 1, 2]) (w1 := ([] : va_W)) hP hD [] [0, 1, 2] rfl rfl (by decide) (by decide) hk1 hFc hP1 hD1
  have hP := hP.sub (ws' := (ceX11_goes cyI cyB cyJ cyZ a0 a1 a2 b0_image b0_before b0_tape b0_five b0_value b0_far b0_lead b0_walk b0_ends b0_manX b0_manY b0_dogX b0_dogY b0_row b0_round b0_farOne b0_leads b0_drags b0_from b0_near g0_thrown g0_hasImage g0_taped g0_point g0_end g0_begin g0_deep g0_faultAt g0_steps g0_men g0_dogs g0_remembered (upd (upd f1 ((2 * g0_remembered) - 2).toNatClampNeg x1) ((2 * g0_remembered) - 1).toNatClampNeg (f2 (13 : Int32).toNatClampNeg)) (upd f2 (10 : Int32).toNatClampNeg ((f2 (10 : Int32).toNatClampNeg) + r2)))) [0, 1, 2] rfl
  have hD := hD.sub (ws' := (ceX11_goes cyI cyB cyJ cyZ a0 a1 a2 b0_image b0_before b0_tape b0_five b0_value b0_far b0_lead b0_walk b0_ends b0_manX b0_manY b0_dogX b0_dogY b0_row b0_round b0_farOne b0_leads b0_drags b0_from b0_near g0_thrown g0_hasImage g0_taped g0_point g0_end g0_begin g0_deep g0_faultAt g0_steps g0_men g0_dogs g0_remembered (upd (upd f1 ((2 * g0_remembered) - 2).toNatClampNeg x1) ((2 * g0_remembered) - 1).toNatClampNeg (f2 (13 : Int32).toNatClampNeg)) (upd f2 (10 : Int32).toNatClampNeg ((f2 (10 : Int32).toNatClampNeg) + r2)))) [0, 1, 2] (by decide) rfl
  generalize H1 = H at hP hS ⊢
  refine lv_iadd hx hb dX11_goes_110 ?_
  obtain ⟨hi, hw⟩ := hw
  refine va_iast hx hb hK hP hD hS 2 0 rfl rfl hi dX11_goes_111 (fun H locs hP hD hS => ?_)
  have hP : va_P (dC, dI) vwCl (ceX11_goes cyI cyB cyJ cyZ a0 a1 a2 b0_image b0_before b0_tape b0_five b0_value b0_far b0_lead b0_walk b0_ends b0_manX b0_manY b0_dogX b0_dogY b0_row b0_round b0_farOne b0_leads b0_drags b0_from b0_near g0_thrown g0_hasImage g0_taped g0_point g0_end g0_begin g0_deep g0_faultAt g0_steps g0_men g0_dogs g0_remembered (upd (upd f1 ((2 * g0_remembered) - 2).toNatClampNeg x1) ((2 * g0_remembered) - 1).toNatClampNeg (f2 (13 : Int32).toNatClampNeg)) (upd (upd f2 (10 : Int32).toNatClampNeg ((f2 (10 : Int32).toNatClampNeg) + r2)) (11 : Int32).toNatClampNeg (((upd f2 (10 : Int32).toNatClampNeg ((f2 (10 : Int32).toNatClampNeg) + r2)) (11 : Int32).toNatClampNeg) + r4))) H := hP
  have hD : va_D A (ceX11_goes cyI cyB cyJ cyZ a0 a1 a2 b0_image b0_before b0_tape b0_five b0_value b0_far b0_lead b0_walk b0_ends b0_manX b0_manY b0_dogX b0_dogY b0_row b0_round b0_farOne b0_leads b0_drags b0_from b0_near g0_thrown g0_hasImage g0_taped g0_point g0_end g0_begin g0_deep g0_faultAt g0_steps g0_men g0_dogs g0_remembered (upd (upd f1 ((2 * g0_remembered) - 2).toNatClampNeg x1) ((2 * g0_remembered) - 1).toNatClampNeg (f2 (13 : Int32).toNatClampNeg)) (upd (upd f2 (10 : Int32).toNatClampNeg ((f2 (10 : Int32).toNatClampNeg) + r2)) (11 : Int32).toNatClampNeg (((upd f2 (10 : Int32).toNatClampNeg ((f2 (10 : Int32).toNatClampNeg) + r2)) (11 : Int32).toNatClampNeg) + r4))) := hD
  refine lv_aload_n hx hb dX11_goes_112 rfl (lv_at hl 0 rfl) ?_
  refine va_get (D := (dC, dI)) (ci := 11) (v := .ref a2) (C := RX11) (T := TX11) (N := 34) hx hb hts inX11_goes_X11 hown hK hP 0 rfl rfl 1 (by decide) (hts (.fieldLink RX11 13 "LeadParkModel" "world" "[I") (List.mem_of_getElem? (i := 3) rfl)) (fun _ h9 => h9) rfl dX11_goes_113 ?_
  refine lv_bipush (v := 12) hx hb dX11_goes_116 (by decide) ?_
  refine lv_dup2_11 hx hb dX11_goes_118 rfl rfl ?_
  obtain ⟨hi, hw⟩ := hw
  refine va_iald hx hb hK hP 2 0 rfl rfl hi dX11_goes_119 ?_
  refine lv_iconst (v := 1) hx hb dX11_goes_120 (by decide) ?_
  refine lv_iadd hx hb dX11_goes_121 ?_
  obtain ⟨hi, hw⟩ := hw
  refine va_iast hx hb hK hP hD hS 2 0 rfl rfl hi dX11_goes_122 (fun H locs hP hD hS => ?_)
  have hP : va_P (dC, dI) vwCl (ceX11_goes cyI cyB cyJ cyZ a0 a1 a2 b0_image b0_before b0_tape b0_five b0_value b0_far b0_lead b0_walk b0_ends b0_manX b0_manY b0_dogX b0_dogY b0_row b0_round b0_farOne b0_leads b0_drags b0_from b0_near g0_thrown g0_hasImage g0_taped g0_point g0_end g0_begin g0_deep g0_faultAt g0_steps g0_men g0_dogs g0_remembered (upd (upd f1 ((2 * g0_remembered) - 2).toNatClampNeg x1) ((2 * g0_remembered) - 1).toNatClampNeg (f2 (13 : Int32).toNatClampNeg)) (upd (upd (upd f2 (10 : Int32).toNatClampNeg ((f2 (10 : Int32).toNatClampNeg) + r2)) (11 : Int32).toNatClampNeg (((upd f2 (10 : Int32).toNatClampNeg ((f2 (10 : Int32).toNatClampNeg) + r2)) (11 : Int32).toNatClampNeg) + r4)) (12 : Int32).toNatClampNeg (((upd (upd f2 (10 : Int32).toNatClampNeg ((f2 (10 : Int32).toNatClampNeg) + r2)) (11 : Int32).toNatClampNeg (((upd f2 (10 : Int32).toNatClampNeg ((f2 (10 : Int32).toNatClampNeg) + r2)) (11 : Int32).toNatClampNeg) + r4)) (12 : Int32).toNatClampNeg) + 1))) H := hP
  have hD : va_D A (ceX11_goes cyI cyB cyJ cyZ a0 a1 a2 b0_image b0_before b0_tape b0_five b0_value b0_far b0_lead b0_walk b0_ends b0_manX b0_manY b0_dogX b0_dogY b0_row b0_round b0_farOne b0_leads b0_drags b0_from b0_near g0_thrown g0_hasImage g0_taped g0_point g0_end g0_begin g0_deep g0_faultAt g0_steps g0_men g0_dogs g0_remembered (upd (upd f1 ((2 * g0_remembered) - 2).toNatClampNeg x1) ((2 * g0_remembered) - 1).toNatClampNeg (f2 (13 : Int32).toNatClampNeg)) (upd (upd (upd f2 (10 : Int32).toNatClampNeg ((f2 (10 : Int32).toNatClampNeg) + r2)) (11 : Int32).toNatClampNeg (((upd f2 (10 : Int32).toNatClampNeg ((f2 (10 : Int32).toNatClampNeg) + r2)) (11 : Int32).toNatClampNeg) + r4)) (12 : Int32).toNatClampNeg (((upd (upd f2 (10 : Int32).toNatClampNeg ((f2 (10 : Int32).toNatClampNeg) + r2)) (11 : Int32).toNatClampNeg (((upd f2 (10 : Int32).toNatClampNeg ((f2 (10 : Int32).toNatClampNeg) + r2)) (11 : Int32).toNatClampNeg) + r4)) (12 : Int32).toNatClampNeg) + 1))) := hD
  refine lv_aload_n hx hb dX11_goes_123 rfl (lv_at hl 0 rfl) ?_
  refine lv_aload_n hx hb dX11_goes_124 rfl (lv_at hl 0 rfl) ?_
  refine va_get (D := (dC, dI)) (ci := 11) (v := .ref a2) (C := RX11) (T := TX11) (N := 34) hx hb hts inX11_goes_X11 hown hK hP 0 rfl rfl 1 (by decide) (hts (.fieldLink RX11 13 "LeadParkModel" "world" "[I") (List.mem_of_getElem? (i := 3) rfl)) (fun _ h9 => h9) rfl dX11_goes_125 ?_
  refine lv_bipush (v := 7) hx hb dX11_goes_128 (by decide) ?_
  obtain ⟨hi, hw⟩ := hw
  refine va_iald hx hb hK hP 2 0 rfl rfl hi dX11_goes_130 ?_
  refine lv_aload_n hx hb dX11_goes_131 rfl (lv_at hl 0 rfl) ?_
  refine va_get (D := (dC, dI)) (ci := 11) (v := .ref a2) (C := RX11) (T := TX11) (N := 34) hx hb hts inX11_goes_X11 hown hK hP 0 rfl rfl 1 (by decide) (hts (.fieldLink RX11 13 "LeadParkModel" "world" "[I") (List.mem_of_getElem? (i := 3) rfl)) (fun _ h9 => h9) rfl dX11_goes_132 ?_
  refine lv_bipush (v := 10) hx hb dX11_goes_135 (by decide) ?_
  obtain ⟨hi, hw⟩ := hw
  refine va_iald hx hb hK hP 2 0 rfl rfl hi dX11_goes_137 ?_
  refine lv_aload_n hx hb dX11_goes_138 rfl (lv_at hl 0 rfl) ?_
  refine va_get (D := (dC, dI)) (ci := 11) (v := .ref a2) (C := RX11) (T := TX11) (N := 34) hx hb hts inX11_goes_X11 hown hK hP 0 rfl rfl 1 (by decide) (hts (.fieldLink RX11 13 "LeadParkModel" "world" "[I") (List.mem_of_getElem? (i := 3) rfl)) (fun _ h9 => h9) rfl dX11_goes_139 ?_
  refine lv_bipush (v := 8) hx hb dX11_goes_142 (by decide) ?_
  obtain ⟨hi, hw⟩ := hw
  refine va_iald hx hb hK hP 2 0 rfl rfl hi dX11_goes_144 ?_
  refine lv_aload_n hx hb dX11_goes_145 rfl (lv_at hl 0 rfl) ?_
  refine va_get (D := (dC, dI)) (ci := 11) (v := .ref a2) (C := RX11) (T := TX11) (N := 34) hx hb hts inX11_goes_X11 hown hK hP 0 rfl rfl 1 (by decide) (hts (.fieldLink RX11 13 "LeadParkModel" "world" "[I") (List.mem_of_getElem? (i := 3) rfl)) (fun _ h9 => h9) rfl dX11_goes_146 ?_
  refine lv_bipush (v := 11) hx hb dX11_goes_149 (by decide) ?_
  obtain ⟨hi, hw⟩ := hw
  refine va_iald hx hb hK hP 2 0 rfl rfl hi dX11_goes_151 ?_
  have hPc := hP.sub (ws' := (ceX11_farAt cyI cyB cyJ cyZ a0 a2 b0_image b0_before a1 b0_tape b0_five b0_value b0_far b0_lead b0_walk b0_ends b0_manX b0_manY b0_dogX b0_dogY b0_row b0_round b0_farOne b0_leads b0_drags b0_from b0_near g0_thrown g0_hasImage g0_remembered g0_taped g0_point g0_end g0_begin g0_deep g0_faultAt g0_steps g0_men g0_dogs (upd (upd (upd f2 (10 : Int32).toNatClampNeg ((f2 (10 : Int32).toNatClampNeg) + r2)) (11 : Int32).toNatClampNeg (((upd f2 (10 : Int32).toNatClampNeg ((f2 (10 : Int32).toNatClampNeg) + r2)) (11 : Int32).toNatClampNeg) + r4)) (12 : Int32).toNatClampNeg (((upd (upd f2 (10 : Int32).toNatClampNeg ((f2 (10 : Int32).toNatClampNeg) + r2)) (11 : Int32).toNatClampNeg (((upd f2 (10 : Int32).toNatClampNeg ((f2 (10 : Int32).toNatClampNeg) + r2)) (11 : Int32).toNatClampNeg) + r4)) (12 : Int32).toNatClampNeg) + 1)))) [0, 2] rfl
  have hDc := hD.sub (ws' := (ceX11_farAt cyI cyB cyJ cyZ a0 a2 b0_image b0_before a1 b0_tape b0_five b0_value b0_far b0_lead b0_walk b0_ends b0_manX b0_manY b0_dogX b0_dogY b0_row b0_round b0_farOne b0_leads b0_drags b0_from b0_near g0_thrown g0_hasImage g0_remembered g0_taped g0_point g0_end g0_begin g0_deep g0_faultAt g0_steps g0_men g0_dogs (upd (upd (upd f2 (10 : Int32).toNatClampNeg ((f2 (10 : Int32).toNatClampNeg) + r2)) (11 : Int32).toNatClampNeg (((upd f2 (10 : Int32).toNatClampNeg ((f2 (10 : Int32).toNatClampNeg) + r2)) (11 : Int32).toNatClampNeg) + r4)) (12 : Int32).toNatClampNeg (((upd (upd f2 (10 : Int32).toNatClampNeg ((f2 (10 : Int32).toNatClampNeg) + r2)) (11 : Int32).toNatClampNeg (((upd f2 (10 : Int32).toNatClampNeg ((f2 (10 : Int32).toNatClampNeg) + r2)) (11 : Int32).toNatClampNeg) + r4)) (12 : Int32).toNatClampNeg) + 1)))) [0, 2] (by decide) rfl
  have hFc := va_free (wc := (ceX11_farAt cyI cyB cyJ cyZ a0 a2 b0_image b0_before a1 b0_tape b0_five b0_value b0_far b0_lead b0_walk b0_ends b0_manX b0_manY b0_dogX b0_dogY b0_row b0_round b0_farOne b0_leads b0_drags b0_from b0_near g0_thrown g0_hasImage g0_remembered g0_taped g0_point g0_end g0_begin g0_deep g0_faultAt g0_steps g0_men g0_dogs (upd (upd (upd f2 (10 : Int32).toNatClampNeg ((f2 (10 : Int32).toNatClampNeg) + r2)) (11 : Int32).toNatClampNeg (((upd f2 (10 : Int32).toNatClampNeg ((f2 (10 : Int32).toNatClampNeg) + r2)) (11 : Int32).toNatClampNeg) + r4)) (12 : Int32).toNatClampNeg (((upd (upd f2 (10 : Int32).toNatClampNeg ((f2 (10 : Int32).toNatClampNeg) + r2)) (11 : Int32).toNatClampNeg (((upd f2 (10 : Int32).toNatClampNeg ((f2 (10 : Int32).toNatClampNeg) + r2)) (11 : Int32).toNatClampNeg) + r4)) (12 : Int32).toNatClampNeg) + 1)))) hD hS hA [0, 2] rfl
  refine va_calli (va_runV (As := [.int ((upd (upd (upd f2 (10 : Int32).toNatClampNeg ((f2 (10 : Int32).toNatClampNeg) + r2)) (11 : Int32).toNatClampNeg (((upd f2 (10 : Int32).toNatClampNeg ((f2 (10 : Int32).toNatClampNeg) + r2)) (11 : Int32).toNatClampNeg) + r4)) (12 : Int32).toNatClampNeg (((upd (upd f2 (10 : Int32).toNatClampNeg ((f2 (10 : Int32).toNatClampNeg) + r2)) (11 : Int32).toNatClampNeg (((upd f2 (10 : Int32).toNatClampNeg ((f2 (10 : Int32).toNatClampNeg) + r2)) (11 : Int32).toNatClampNeg) + r4)) (12 : Int32).toNatClampNeg) + 1)) (7 : Int32).toNatClampNeg), .int ((upd (upd (upd f2 (10 : Int32).toNatClampNeg ((f2 (10 : Int32).toNatClampNeg) + r2)) (11 : Int32).toNatClampNeg (((upd f2 (10 : Int32).toNatClampNeg ((f2 (10 : Int32).toNatClampNeg) + r2)) (11 : Int32).toNatClampNeg) + r4)) (12 : Int32).toNatClampNeg (((upd (upd f2 (10 : Int32).toNatClampNeg ((f2 (10 : Int32).toNatClampNeg) + r2)) (11 : Int32).toNatClampNeg (((upd f2 (10 : Int32).toNatClampNeg ((f2 (10 : Int32).toNatClampNeg) + r2)) (11 : Int32).toNatClampNeg) + r4)) (12 : Int32).toNatClampNeg) + 1)) (10 : Int32).toNatClampNeg), .int ((upd (upd (upd f2 (10 : Int32).toNatClampNeg ((f2 (10 : Int32).toNatClampNeg) + r2)) (11 : Int32).toNatClampNeg (((upd f2 (10 : Int32).toNatClampNeg ((f2 (10 : Int32).toNatClampNeg) + r2)) (11 : Int32).toNatClampNeg) + r4)) (12 : Int32).toNatClampNeg (((upd (upd f2 (10 : Int32).toNatClampNeg ((f2 (10 : Int32).toNatClampNeg) + r2)) (11 : Int32).toNatClampNeg (((upd f2 (10 : Int32).toNatClampNeg ((f2 (10 : Int32).toNatClampNeg) + r2)) (11 : Int32).toNatClampNeg) + r4)) (12 : Int32).toNatClampNeg) + 1)) (8 : Int32).toNatClampNeg), .int ((upd (upd (upd f2 (10 : Int32).toNatClampNeg ((f2 (10 : Int32).toNatClampNeg) + r2)) (11 : Int32).toNatClampNeg (((upd f2 (10 : Int32).toNatClampNeg ((f2 (10 : Int32).toNatClampNeg) + r2)) (11 : Int32).toNatClampNeg) + r4)) (12 : Int32).toNatClampNeg (((upd (upd f2 (10 : Int32).toNatClampNeg ((f2 (10 : Int32).toNatClampNeg) + r2)) (11 : Int32).toNatClampNeg (((upd f2 (10 : Int32).toNatClampNeg ((f2 (10 : Int32).toNatClampNeg) + r2)) (11 : Int32).toNatClampNeg) + r4)) (12 : Int32).toNatClampNeg) + 1)) (11 : Int32).toNatClampNeg)]) (rest := []) ⟨hx, hb, hml, hown, hts⟩ (ctX11_farAt l dC dI cyI cyB cyJ cyZ _ a0 a2 b0_image b0_before a1 b0_tape b0_five b0_value b0_far b0_lead b0_walk b0_ends b0_manX b0_manY b0_dogX b0_dogY b0_row b0_round b0_farOne b0_leads b0_drags b0_from b0_near g0_thrown g0_hasImage g0_remembered g0_taped g0_point g0_end g0_begin g0_deep g0_faultAt g0_steps g0_men g0_dogs (upd (upd (upd f2 (10 : Int32).toNatClampNeg ((f2 (10 : Int32).toNatClampNeg) + r2)) (11 : Int32).toNatClampNeg (((upd f2 (10 : Int32).toNatClampNeg ((f2 (10 : Int32).toNatClampNeg) + r2)) (11 : Int32).toNatClampNeg) + r4)) (12 : Int32).toNatClampNeg (((upd (upd f2 (10 : Int32).toNatClampNeg ((f2 (10 : Int32).toNatClampNeg) + r2)) (11 : Int32).toNatClampNeg (((upd f2 (10 : Int32).toNatClampNeg ((f2 (10 : Int32).toNatClampNeg) + r2)) (11 : Int32).toNatClampNeg) + r4)) (12 : Int32).toNatClampNeg) + 1)) ((upd (upd (upd f2 (10 : Int32).toNatClampNeg ((f2 (10 : Int32).toNatClampNeg) + r2)) (11 : Int32).toNatClampNeg (((upd f2 (10 : Int32).toNatClampNeg ((f2 (10 : Int32).toNatClampNeg) + r2)) (11 : Int32).toNatClampNeg) + r4)) (12 : Int32).toNatClampNeg (((upd (upd f2 (10 : Int32).toNatClampNeg ((f2 (10 : Int32).toNatClampNeg) + r2)) (11 : Int32).toNatClampNeg (((upd f2 (10 : Int32).toNatClampNeg ((f2 (10 : Int32).toNatClampNeg) + r2)) (11 : Int32).toNatClampNeg) + r4)) (12 : Int32).toNatClampNeg) + 1)) (7 : Int32).toNatClampNeg) ((upd (upd (upd f2 (10 : Int32).toNatClampNeg ((f2 (10 : Int32).toNatClampNeg) + r2)) (11 : Int32).toNatClampNeg (((upd f2 (10 : Int32).toNatClampNeg ((f2 (10 : Int32).toNatClampNeg) + r2)) (11 : Int32).toNatClampNeg) + r4)) (12 : Int32).toNatClampNeg (((upd (upd f2 (10 : Int32).toNatClampNeg ((f2 (10 : Int32).toNatClampNeg) + r2)) (11 : Int32).toNatClampNeg (((upd f2 (10 : Int32).toNatClampNeg ((f2 (10 : Int32).toNatClampNeg) + r2)) (11 : Int32).toNatClampNeg) + r4)) (12 : Int32).toNatClampNeg) + 1)) (10 : Int32).toNatClampNeg) ((upd (upd (upd f2 (10 : Int32).toNatClampNeg ((f2 (10 : Int32).toNatClampNeg) + r2)) (11 : Int32).toNatClampNeg (((upd f2 (10 : Int32).toNatClampNeg ((f2 (10 : Int32).toNatClampNeg) + r2)) (11 : Int32).toNatClampNeg) + r4)) (12 : Int32).toNatClampNeg (((upd (upd f2 (10 : Int32).toNatClampNeg ((f2 (10 : Int32).toNatClampNeg) + r2)) (11 : Int32).toNatClampNeg (((upd f2 (10 : Int32).toNatClampNeg ((f2 (10 : Int32).toNatClampNeg) + r2)) (11 : Int32).toNatClampNeg) + r4)) (12 : Int32).toNatClampNeg) + 1)) (8 : Int32).toNatClampNeg) ((upd (upd (upd f2 (10 : Int32).toNatClampNeg ((f2 (10 : Int32).toNatClampNeg) + r2)) (11 : Int32).toNatClampNeg (((upd f2 (10 : Int32).toNatClampNeg ((f2 (10 : Int32).toNatClampNeg) + r2)) (11 : Int32).toNatClampNeg) + r4)) (12 : Int32).toNatClampNeg (((upd (upd f2 (10 : Int32).toNatClampNeg ((f2 (10 : Int32).toNatClampNeg) + r2)) (11 : Int32).toNatClampNeg (((upd f2 (10 : Int32).toNatClampNeg ((f2 (10 : Int32).toNatClampNeg) + r2)) (11 : Int32).toNatClampNeg) + r4)) (12 : Int32).toNatClampNeg) + 1)) (11 : Int32).toNatClampNeg) _ hw) (cwV 4 hts gX11_goes_X11_farAt rfl rfl rfl (by decide +kernel) ⟨Nat.le_of_ble_eq_true rfl, Nat.le_of_ble_eq_true rfl⟩) ⟨wPre_blind, va_recv hK hPc (ci := 11) (q0 := 0) rfl rfl, fun U hU hW => wPre_of hPc hK hDc hN hU hW⟩ rfl rfl hl.1 rfl (lv_room (Nat.le_of_ble_eq_true rfl)) dX11_goes_152 ⟨(Nat.zero_le _), (Nat.zero_le _)⟩) hS (fun q _ h => hFc q h) hFc (fun r6 u5 t H1 locs ht hvm hw hB hz1 hk1 hS => ?_)
  obtain ⟨hP1, hK1, hD1⟩ := hB
  rw [ht] at hP1
  obtain ⟨hP, hD⟩ := va_join (wr := pickW (ceX11_goes cyI cyB cyJ cyZ a0 a1 a2 b0_image b0_before b0_tape b0_five b0_value b0_far b0_lead b0_walk b0_ends b0_manX b0_manY b0_dogX b0_dogY b0_row b0_round b0_farOne b0_leads b0_drags b0_from b0_near g0_thrown g0_hasImage g0_taped g0_point g0_end g0_begin g0_deep g0_faultAt g0_steps g0_men g0_dogs g0_remembered (upd (upd f1 ((2 * g0_remembered) - 2).toNatClampNeg x1) ((2 * g0_remembered) - 1).toNatClampNeg (f2 (13 : Int32).toNatClampNeg)) (upd (upd (upd f2 (10 : Int32).toNatClampNeg ((f2 (10 : Int32).toNatClampNeg) + r2)) (11 : Int32).toNatClampNeg (((upd f2 (10 : Int32).toNatClampNeg ((f2 (10 : Int32).toNatClampNeg) + r2)) (11 : Int32).toNatClampNeg) + r4)) (12 : Int32).toNatClampNeg (((upd (upd f2 (10 : Int32).toNatClampNeg ((f2 (10 : Int32).toNatClampNeg) + r2)) (11 : Int32).toNatClampNeg (((upd f2 (10 : Int32).toNatClampNeg ((f2 (10 : Int32).toNatClampNeg) + r2)) (11 : Int32).toNatClampNeg) + r4)) (12 : Int32).toNatClampNeg) + 1))) [1]) (w1 := (ceX11_farAt cyI cyB cyJ cyZ a0 a2 b0_image b0_before a1 b0_tape b0_five b0_value b0_far b0_lead b0_walk b0_ends b0_manX b0_manY b0_dogX b0_dogY b0_row b0_round b0_farOne b0_leads b0_drags b0_from b0_near g0_thrown g0_hasImage g0_remembered g0_taped g0_point g0_end g0_begin g0_deep g0_faultAt g0_steps g0_men g0_dogs (upd (upd (upd f2 (10 : Int32).toNatClampNeg ((f2 (10 : Int32).toNatClampNeg) + r2)) (11 : Int32).toNatClampNeg (((upd f2 (10 : Int32).toNatClampNeg ((f2 (10 : Int32).toNatClampNeg) + r2)) (11 : Int32).toNatClampNeg) + r4)) (12 : Int32).toNatClampNeg (((upd (upd f2 (10 : Int32).toNatClampNeg ((f2 (10 : Int32).toNatClampNeg) + r2)) (11 : Int32).toNatClampNeg (((upd f2 (10 : Int32).toNatClampNeg ((f2 (10 : Int32).toNatClampNeg) + r2)) (11 : Int32).toNatClampNeg) + r4)) (12 : Int32).toNatClampNeg) + 1)))) hP hD [0, 2] [1] rfl rfl (by decide) (by decide) hk1 hFc hP1 hD1
  have hP := hP.sub (ws' := (ceX11_goes cyI cyB cyJ cyZ a0 a1 a2 b0_image b0_before b0_tape b0_five b0_value b0_far b0_lead b0_walk b0_ends b0_manX b0_manY b0_dogX b0_dogY b0_row b0_round b0_farOne b0_leads b0_drags b0_from b0_near g0_thrown g0_hasImage g0_taped g0_point g0_end g0_begin g0_deep g0_faultAt g0_steps g0_men g0_dogs g0_remembered (upd (upd f1 ((2 * g0_remembered) - 2).toNatClampNeg x1) ((2 * g0_remembered) - 1).toNatClampNeg (f2 (13 : Int32).toNatClampNeg)) (upd (upd (upd f2 (10 : Int32).toNatClampNeg ((f2 (10 : Int32).toNatClampNeg) + r2)) (11 : Int32).toNatClampNeg (((upd f2 (10 : Int32).toNatClampNeg ((f2 (10 : Int32).toNatClampNeg) + r2)) (11 : Int32).toNatClampNeg) + r4)) (12 : Int32).toNatClampNeg (((upd (upd f2 (10 : Int32).toNatClampNeg ((f2 (10 : Int32).toNatClampNeg) + r2)) (11 : Int32).toNatClampNeg (((upd f2 (10 : Int32).toNatClampNeg ((f2 (10 : Int32).toNatClampNeg) + r2)) (11 : Int32).toNatClampNeg) + r4)) (12 : Int32).toNatClampNeg) + 1)))) [1, 0, 2] rfl
  have hD := hD.sub (ws' := (ceX11_goes cyI cyB cyJ cyZ a0 a1 a2 b0_image b0_before b0_tape b0_five b0_value b0_far b0_lead b0_walk b0_ends b0_manX b0_manY b0_dogX b0_dogY b0_row b0_round b0_farOne b0_leads b0_drags b0_from b0_near g0_thrown g0_hasImage g0_taped g0_point g0_end g0_begin g0_deep g0_faultAt g0_steps g0_men g0_dogs g0_remembered (upd (upd f1 ((2 * g0_remembered) - 2).toNatClampNeg x1) ((2 * g0_remembered) - 1).toNatClampNeg (f2 (13 : Int32).toNatClampNeg)) (upd (upd (upd f2 (10 : Int32).toNatClampNeg ((f2 (10 : Int32).toNatClampNeg) + r2)) (11 : Int32).toNatClampNeg (((upd f2 (10 : Int32).toNatClampNeg ((f2 (10 : Int32).toNatClampNeg) + r2)) (11 : Int32).toNatClampNeg) + r4)) (12 : Int32).toNatClampNeg (((upd (upd f2 (10 : Int32).toNatClampNeg ((f2 (10 : Int32).toNatClampNeg) + r2)) (11 : Int32).toNatClampNeg (((upd f2 (10 : Int32).toNatClampNeg ((f2 (10 : Int32).toNatClampNeg) + r2)) (11 : Int32).toNatClampNeg) + r4)) (12 : Int32).toNatClampNeg) + 1)))) [1, 0, 2] (by decide) rfl
  generalize H1 = H at hP hS ⊢
  refine lv_istore_n (lv' := [(2, .int r6), (0, .ref a0), (1, .int x1)]) hx hb dX11_goes_155 rfl hl (by decide) rfl (fun ls hl => ?_)
  refine lv_aload_n hx hb dX11_goes_156 rfl (lv_at hl 1 rfl) ?_
  refine va_get (D := (dC, dI)) (ci := 11) (v := .ref a2) (C := RX11) (T := TX11) (N := 34) hx hb hts inX11_goes_X11 hown hK hP 0 rfl rfl 1 (by decide) (hts (.fieldLink RX11 13 "LeadParkModel" "world" "[I") (List.mem_of_getElem? (i := 3) rfl)) (fun _ h9 => h9) rfl dX11_goes_157 ?_
  refine lv_bipush (v := 13) hx hb dX11_goes_160 (by decide) ?_
  refine lv_aload_n hx hb dX11_goes_162 rfl (lv_at hl 1 rfl) ?_
  refine va_get (D := (dC, dI)) (ci := 11) (v := .ref a2) (C := RX11) (T := TX11) (N := 34) hx hb hts inX11_goes_X11 hown hK hP 0 rfl rfl 1 (by decide) (hts (.fieldLink RX11 13 "LeadParkModel" "world" "[I") (List.mem_of_getElem? (i := 3) rfl)) (fun _ h9 => h9) rfl dX11_goes_163 ?_
  refine lv_bipush (v := 13) hx hb dX11_goes_166 (by decide) ?_
  obtain ⟨hi, hw⟩ := hw
  refine va_iald hx hb hK hP 2 0 rfl rfl hi dX11_goes_168 ?_
  refine lv_iload_n hx hb dX11_goes_169 rfl (lv_at hl 0 rfl) ?_
  refine va_mmax hx hb (hml.trans hl.1.symm) hown (hts (.methodLink RX11 273 Lib.Math.max.name) (List.mem_of_getElem? (i := 4) rfl)) (hts (.static Lib.Math.max.name) (List.mem_of_getElem? (i := 5) rfl)) (hts (.initialized "java/lang/Math") (List.mem_of_getElem? (i := 6) rfl)) (hts (.code Lib.Math.max.name Lib.Math.max.code 2 (some .int)) (List.mem_of_getElem? (i := 7) rfl)) (Nat.le_of_ble_eq_true rfl) (Nat.le_of_ble_eq_true rfl) (by decide) (by decide) dX11_goes_170 ?_
  obtain ⟨hi, hw⟩ := hw
  refine va_iast hx hb hK hP hD hS 2 0 rfl rfl hi dX11_goes_173 (fun H locs hP hD hS => ?_)
  have hP : va_P (dC, dI) vwCl (ceX11_goes cyI cyB cyJ cyZ a0 a1 a2 b0_image b0_before b0_tape b0_five b0_value b0_far b0_lead b0_walk b0_ends b0_manX b0_manY b0_dogX b0_dogY b0_row b0_round b0_farOne b0_leads b0_drags b0_from b0_near g0_thrown g0_hasImage g0_taped g0_point g0_end g0_begin g0_deep g0_faultAt g0_steps g0_men g0_dogs g0_remembered (upd (upd f1 ((2 * g0_remembered) - 2).toNatClampNeg x1) ((2 * g0_remembered) - 1).toNatClampNeg (f2 (13 : Int32).toNatClampNeg)) (upd (upd (upd (upd f2 (10 : Int32).toNatClampNeg ((f2 (10 : Int32).toNatClampNeg) + r2)) (11 : Int32).toNatClampNeg (((upd f2 (10 : Int32).toNatClampNeg ((f2 (10 : Int32).toNatClampNeg) + r2)) (11 : Int32).toNatClampNeg) + r4)) (12 : Int32).toNatClampNeg (((upd (upd f2 (10 : Int32).toNatClampNeg ((f2 (10 : Int32).toNatClampNeg) + r2)) (11 : Int32).toNatClampNeg (((upd f2 (10 : Int32).toNatClampNeg ((f2 (10 : Int32).toNatClampNeg) + r2)) (11 : Int32).toNatClampNeg) + r4)) (12 : Int32).toNatClampNeg) + 1)) (13 : Int32).toNatClampNeg (iMax ((upd (upd (upd f2 (10 : Int32).toNatClampNeg ((f2 (10 : Int32).toNatClampNeg) + r2)) (11 : Int32).toNatClampNeg (((upd f2 (10 : Int32).toNatClampNeg ((f2 (10 : Int32).toNatClampNeg) + r2)) (11 : Int32).toNatClampNeg) + r4)) (12 : Int32).toNatClampNeg (((upd (upd f2 (10 : Int32).toNatClampNeg ((f2 (10 : Int32).toNatClampNeg) + r2)) (11 : Int32).toNatClampNeg (((upd f2 (10 : Int32).toNatClampNeg ((f2 (10 : Int32).toNatClampNeg) + r2)) (11 : Int32).toNatClampNeg) + r4)) (12 : Int32).toNatClampNeg) + 1)) (13 : Int32).toNatClampNeg) r6))) H := hP
  have hD : va_D A (ceX11_goes cyI cyB cyJ cyZ a0 a1 a2 b0_image b0_before b0_tape b0_five b0_value b0_far b0_lead b0_walk b0_ends b0_manX b0_manY b0_dogX b0_dogY b0_row b0_round b0_farOne b0_leads b0_drags b0_from b0_near g0_thrown g0_hasImage g0_taped g0_point g0_end g0_begin g0_deep g0_faultAt g0_steps g0_men g0_dogs g0_remembered (upd (upd f1 ((2 * g0_remembered) - 2).toNatClampNeg x1) ((2 * g0_remembered) - 1).toNatClampNeg (f2 (13 : Int32).toNatClampNeg)) (upd (upd (upd (upd f2 (10 : Int32).toNatClampNeg ((f2 (10 : Int32).toNatClampNeg) + r2)) (11 : Int32).toNatClampNeg (((upd f2 (10 : Int32).toNatClampNeg ((f2 (10 : Int32).toNatClampNeg) + r2)) (11 : Int32).toNatClampNeg) + r4)) (12 : Int32).toNatClampNeg (((upd (upd f2 (10 : Int32).toNatClampNeg ((f2 (10 : Int32).toNatClampNeg) + r2)) (11 : Int32).toNatClampNeg (((upd f2 (10 : Int32).toNatClampNeg ((f2 (10 : Int32).toNatClampNeg) + r2)) (11 : Int32).toNatClampNeg) + r4)) (12 : Int32).toNatClampNeg) + 1)) (13 : Int32).toNatClampNeg (iMax ((upd (upd (upd f2 (10 : Int32).toNatClampNeg ((f2 (10 : Int32).toNatClampNeg) + r2)) (11 : Int32).toNatClampNeg (((upd f2 (10 : Int32).toNatClampNeg ((f2 (10 : Int32).toNatClampNeg) + r2)) (11 : Int32).toNatClampNeg) + r4)) (12 : Int32).toNatClampNeg (((upd (upd f2 (10 : Int32).toNatClampNeg ((f2 (10 : Int32).toNatClampNeg) + r2)) (11 : Int32).toNatClampNeg (((upd f2 (10 : Int32).toNatClampNeg ((f2 (10 : Int32).toNatClampNeg) + r2)) (11 : Int32).toNatClampNeg) + r4)) (12 : Int32).toNatClampNeg) + 1)) (13 : Int32).toNatClampNeg) r6))) := hD
  refine lv_iload_n hx hb dX11_goes_174 rfl (lv_at hl 0 rfl) ?_
  rw [hQ]
  exact W.iret (v := r6) hx hb hr (fun t ht hW => ⟨⟨r6, (g0_remembered, (upd (upd f1 ((2 * g0_remembered) - 2).toNatClampNeg x1) ((2 * g0_remembered) - 1).toNatClampNeg (f2 (13 : Int32).toNatClampNeg)), (upd (upd (upd (upd f2 (10 : Int32).toNatClampNeg ((f2 (10 : Int32).toNatClampNeg) + r2)) (11 : Int32).toNatClampNeg (((upd f2 (10 : Int32).toNatClampNeg ((f2 (10 : Int32).toNatClampNeg) + r2)) (11 : Int32).toNatClampNeg) + r4)) (12 : Int32).toNatClampNeg (((upd (upd f2 (10 : Int32).toNatClampNeg ((f2 (10 : Int32).toNatClampNeg) + r2)) (11 : Int32).toNatClampNeg (((upd f2 (10 : Int32).toNatClampNeg ((f2 (10 : Int32).toNatClampNeg) + r2)) (11 : Int32).toNatClampNeg) + r4)) (12 : Int32).toNatClampNeg) + 1)) (13 : Int32).toNatClampNeg (iMax ((upd (upd (upd f2 (10 : Int32).toNatClampNeg ((f2 (10 : Int32).toNatClampNeg) + r2)) (11 : Int32).toNatClampNeg (((upd f2 (10 : Int32).toNatClampNeg ((f2 (10 : Int32).toNatClampNeg) + r2)) (11 : Int32).toNatClampNeg) + r4)) (12 : Int32).toNatClampNeg (((upd (upd f2 (10 : Int32).toNatClampNeg ((f2 (10 : Int32).toNatClampNeg) + r2)) (11 : Int32).toNatClampNeg (((upd f2 (10 : Int32).toNatClampNeg ((f2 (10 : Int32).toNatClampNeg) + r2)) (11 : Int32).toNatClampNeg) + r4)) (12 : Int32).toNatClampNeg) + 1)) (13 : Int32).toNatClampNeg) r6))), rfl, hw, by rw [ht]; exact hP, va_K.moved hW.alike hK, hD⟩, hS.F ht⟩) hS.2.2 dX11_goes_175
set_option maxRecDepth 100000 in
set_option maxHeartbeats 4000000 in
theorem bX11_goes_11 {p : Program} {l : Launch} {e : Env} {s : State} {m : MethodId} {args : Array Value} {below : List Frame} {meth : Method} {c : Code} {dC : Nat → ClassId} {dI : Nat → Nat → Nat} {cyI cyB cyJ cyZ : ClassId} {A : Nat → Prop} {a0 a1 a2 b0_image b0_before b0_tape b0_five b0_value b0_far b0_lead b0_walk b0_ends b0_manX b0_manY b0_dogX b0_dogY b0_row b0_round b0_farOne b0_leads b0_drags b0_from b0_near : Nat} {g0_thrown : Int32} {g0_hasImage : Int32} {g0_taped : Int32} {g0_point : Int32} {g0_end : Int32} {g0_begin : Int32} {g0_deep : Int32} {g0_faultAt : Int32} {g0_steps : Int32} {g0_men : Int32} {g0_dogs : Int32} (C0 : cxM p s m meth c args wsX11_goes RX11 cX11_goes 3 (some .int)) (hK : va_K (dC, dI) vwCl (tyA cyI cyB cyJ cyZ) s) (hN : nwA s) (hA : ∀ q : Nat, s.heap.size ≤ q → A q) {post : Int32 → (Int32 × (Nat → Int32) × (Nat → Int32)) → Prop} {Q : State → Prop} (hQ : Q = MQ below (va_Qi post (fun u : Int32 × (Nat → Int32) × (Nat → Int32) => wAt dC dI cyI cyB cyJ cyZ A (ceX11_goes cyI cyB cyJ cyZ a0 a1 a2 b0_image b0_before b0_tape b0_five b0_value b0_far b0_lead b0_walk b0_ends b0_manX b0_manY b0_dogX b0_dogY b0_row b0_round b0_farOne b0_leads b0_drags b0_from b0_near g0_thrown g0_hasImage g0_taped g0_point g0_end g0_begin g0_deep g0_faultAt g0_steps g0_men g0_dogs u.1 u.2.1 u.2.2)) A) args s 0 0 A) : ∀ (n : Nat) (g0_remembered : Int32) (f1 : Nat → Int32) (f2 : Nat → Int32) (x1 : Int32) (x2 : Int32), wpX11_goes_11 post n g0_remembered f1 f2 x1 x2 → AtW p l e rmX11_goes s m args below meth c dC dI A Q 3 0 0 (ceX11_goes cyI cyB cyJ cyZ a0 a1 a2 b0_image b0_before b0_tape b0_five b0_value b0_far b0_lead b0_walk b0_ends b0_manX b0_manY b0_dogX b0_dogY b0_row b0_round b0_farOne b0_leads b0_drags b0_from b0_near g0_thrown g0_hasImage g0_taped g0_point g0_end g0_begin g0_deep g0_faultAt g0_steps g0_men g0_dogs g0_remembered f1 f2) [(0, .ref a0), (1, .int x1), (2, .int x2)] 11 [] := by
  intro n
  induction n with
  | zero => intro g0_remembered f1 f2 x1 x2 hw; exact False.elim hw
  | succ n ih =>
    intro g0_remembered f1 f2 x1 x2 hw H locs hP hD hS ls hl
    have C1 := C0
    obtain ⟨hx, hb, hr, hml, hown, hts, hlocks⟩ := C1
    refine lv_iload_n hx hb dX11_goes_11 rfl (lv_at hl 2 rfl) ?_
    refine lv_bipush (v := 78) hx hb dX11_goes_12 (by decide) ?_
    refine lv_icmp_ge (tgt := 37) hx hb dX11_goes_14 (by decide) (fun hc => ?_) (fun hc => ?_)
    · have hw := hw.1 hc
      refine lv_goto (tgt := 50) hx hb dX11_goes_37 (by decide) ?_
      exact bX11_goes_50 C0 hK hN hA hQ g0_remembered f1 f2 x1 hw _ _ hP hD hS ls (lv_sub hl [0, 1] rfl)
    · have hw := hw.2 hc
      refine lv_aload_n hx hb dX11_goes_17 rfl (lv_at hl 0 rfl) ?_
      refine va_get (D := (dC, dI)) (ci := 11) (v := .ref a1) (C := RX11) (T := TX11) (N := 34) hx hb hts inX11_goes_X11 hown hK hP 0 rfl rfl 5 (by decide) (hts (.fieldLink RX11 23 "LeadParkModel" "taken" "[I") (List.mem_of_getElem? (i := 2) rfl)) (fun _ h9 => h9) rfl dX11_goes_18 ?_
      refine lv_iload_n hx hb dX11_goes_21 rfl (lv_at hl 2 rfl) ?_
      refine lv_aload_n hx hb dX11_goes_22 rfl (lv_at hl 0 rfl) ?_
      refine va_get (D := (dC, dI)) (ci := 11) (v := .ref a1) (C := RX11) (T := TX11) (N := 34) hx hb hts inX11_goes_X11 hown hK hP 0 rfl rfl 5 (by decide) (hts (.fieldLink RX11 23 "LeadParkModel" "taken" "[I") (List.mem_of_getElem? (i := 2) rfl)) (fun _ h9 => h9) rfl dX11_goes_23 ?_
      refine lv_iload_n hx hb dX11_goes_26 rfl (lv_at hl 2 rfl) ?_
      refine lv_iconst (v := 2) hx hb dX11_goes_27 (by decide) ?_
      refine lv_iadd hx hb dX11_goes_28 ?_
      obtain ⟨hi, hw⟩ := hw
      refine va_iald hx hb hK hP 1 0 rfl rfl hi dX11_goes_29 ?_
      obtain ⟨hi, hw⟩ := hw
      refine va_iast hx hb hK hP hD hS 1 0 rfl rfl hi dX11_goes_30 (fun H locs hP hD hS => ?_)
      have hP : va_P (dC, dI) vwCl (ceX11_goes cyI cyB cyJ cyZ a0 a1 a2 b0_image b0_before b0_tape b0_five b0_value b0_far b0_lead b0_walk b0_ends b0_manX b0_manY b0_dogX b0_dogY b0_row b0_round b0_farOne b0_leads b0_drags b0_from b0_near g0_thrown g0_hasImage g0_taped g0_point g0_end g0_begin g0_deep g0_faultAt g0_steps g0_men g0_dogs g0_remembered (upd f1 x2.toNatClampNeg (f1 (x2 + 2).toNatClampNeg)) f2) H := hP
      have hD : va_D A (ceX11_goes cyI cyB cyJ cyZ a0 a1 a2 b0_image b0_before b0_tape b0_five b0_value b0_far b0_lead b0_walk b0_ends b0_manX b0_manY b0_dogX b0_dogY b0_row b0_round b0_farOne b0_leads b0_drags b0_from b0_near g0_thrown g0_hasImage g0_taped g0_point g0_end g0_begin g0_deep g0_faultAt g0_steps g0_men g0_dogs g0_remembered (upd f1 x2.toNatClampNeg (f1 (x2 + 2).toNatClampNeg)) f2) := hD
      obtain ⟨v1, ev1⟩ : ∃ y : Int32, y = x2 + 1 := ⟨_, rfl⟩
      have hw := hw v1 ev1
      refine lv_iinc (v := v1) (lv' := [(2, .int v1), (0, .ref a0), (1, .int x1)]) hx hb dX11_goes_31 hl (k := 2) rfl (by rw [ev1]; rfl) (by decide) rfl (fun ls hl => ?_)
      refine lv_goto (tgt := 11) hx hb dX11_goes_34 (by decide) ?_
      exact ih g0_remembered (upd f1 x2.toNatClampNeg (f1 (x2 + 2).toNatClampNeg)) f2 x1 v1 hw H locs hP hD hS ls (lv_sub hl [1, 2, 0] rfl)
set_option maxRecDepth 100000 in
set_option maxHeartbeats 4000000 in
theorem ctX11_goes (l : Launch) (dC : Nat → ClassId) (dI : Nat → Nat → Nat) (cyI cyB cyJ cyZ : ClassId) (sz : Nat) (a0 a1 a2 b0_image b0_before b0_tape b0_five b0_value b0_far b0_lead b0_walk b0_ends b0_manX b0_manY b0_dogX b0_dogY b0_row b0_round b0_farOne b0_leads b0_drags b0_from b0_near : Nat) (g0_thrown : Int32) (g0_hasImage : Int32) (g0_taped : Int32) (g0_point : Int32) (g0_end : Int32) (g0_begin : Int32) (g0_deep : Int32) (g0_faultAt : Int32) (g0_steps : Int32) (g0_men : Int32) (g0_dogs : Int32) (g0_remembered : Int32) (f1 : Nat → Int32) (f2 : Nat → Int32) (p0 : Int32) (post : Int32 → (Int32 × (Nat → Int32) × (Nat → Int32)) → Prop) (hw : wpX11_goes post g0_remembered f1 f2 p0) : Met l yX11_goes wsX11_goes rmX11_goes (va_Pc [.ref a0, .int p0] (wPre dC dI cyI cyB cyJ cyZ sz (ceX11_goes cyI cyB cyJ cyZ a0 a1 a2 b0_image b0_before b0_tape b0_five b0_value b0_far b0_lead b0_walk b0_ends b0_manX b0_manY b0_dogX b0_dogY b0_row b0_round b0_farOne b0_leads b0_drags b0_from b0_near g0_thrown g0_hasImage g0_taped g0_point g0_end g0_begin g0_deep g0_faultAt g0_steps g0_men g0_dogs g0_remembered f1 f2))) (va_Qi post (fun u : Int32 × (Nat → Int32) × (Nat → Int32) => wAt dC dI cyI cyB cyJ cyZ (va_A (ceX11_goes cyI cyB cyJ cyZ a0 a1 a2 b0_image b0_before b0_tape b0_five b0_value b0_far b0_lead b0_walk b0_ends b0_manX b0_manY b0_dogX b0_dogY b0_row b0_round b0_farOne b0_leads b0_drags b0_from b0_near g0_thrown g0_hasImage g0_taped g0_point g0_end g0_begin g0_deep g0_faultAt g0_steps g0_men g0_dogs g0_remembered f1 f2) sz) (ceX11_goes cyI cyB cyJ cyZ a0 a1 a2 b0_image b0_before b0_tape b0_five b0_value b0_far b0_lead b0_walk b0_ends b0_manX b0_manY b0_dogX b0_dogY b0_row b0_round b0_farOne b0_leads b0_drags b0_from b0_near g0_thrown g0_hasImage g0_taped g0_point g0_end g0_begin g0_deep g0_faultAt g0_steps g0_men g0_dogs u.1 u.2.1 u.2.2)) (va_A (ceX11_goes cyI cyB cyJ cyZ a0 a1 a2 b0_image b0_before b0_tape b0_five b0_value b0_far b0_lead b0_walk b0_ends b0_manX b0_manY b0_dogX b0_dogY b0_row b0_round b0_farOne b0_leads b0_drags b0_from b0_near g0_thrown g0_hasImage g0_taped g0_point g0_end g0_begin g0_deep g0_faultAt g0_steps g0_men g0_dogs g0_remembered f1 f2) sz)) 0 0 (va_A (ceX11_goes cyI cyB cyJ cyZ a0 a1 a2 b0_image b0_before b0_tape b0_five b0_value b0_far b0_lead b0_walk b0_ends b0_manX b0_manY b0_dogX b0_dogY b0_row b0_round b0_farOne b0_leads b0_drags b0_from b0_near g0_thrown g0_hasImage g0_taped g0_point g0_end g0_begin g0_deep g0_faultAt g0_steps g0_men g0_dogs g0_remembered f1 f2) sz) := by
  refine Met.ofW (cc := cX11_goes) (maxL := 3) (ret := (some .int)) (by decide) rfl ?_
  intro p e s m args below meth c s₁ B hml hv
  obtain ⟨rfl, hsz, hP, hK, hD0, hN⟩ := hv
  have hx := B.exec
  have hb := B.bytes
  have hr := B.returns
  have hts := atoms_spec (ws := wsX11_goes) B.pre
  have hown : s.vm.findClass RX11 = some m.cls := findClass_of_methodNamed B.named
  have hlocks := B.notSynchronized
  subst hsz
  have hD := hD0.self (sz := s.heap.size)
  generalize hAe : va_A (ceX11_goes cyI cyB cyJ cyZ a0 a1 a2 b0_image b0_before b0_tape b0_five b0_value b0_far b0_lead b0_walk b0_ends b0_manX b0_manY b0_dogX b0_dogY b0_row b0_round b0_farOne b0_leads b0_drags b0_from b0_near g0_thrown g0_hasImage g0_taped g0_point g0_end g0_begin g0_deep g0_faultAt g0_steps g0_men g0_dogs g0_remembered f1 f2) s.heap.size = A at hD ⊢
  have hA : ∀ q : Nat, s.heap.size ≤ q → A q := fun q h => by rw [← hAe]; exact Or.inr h
  have hS : va_S A s.heap s.heap [] := va_S.rf
  have C0 : cxM p s m meth c _ wsX11_goes RX11 cX11_goes 3 (some .int) := ⟨hx, hb, hr, hml, hown, hts, hlocks⟩
  have hl := lv_entry ([.ref a0, .int p0]) (n := 3) (Nat.le_of_ble_eq_true rfl)
  rw [lg_entry_eq]
  generalize (lg_sl ([.ref a0, .int p0]) ++ List.replicate (3 - (lg_sl ([.ref a0, .int p0])).length) Slot.unset).toArray = ls at hl ⊢
  have hl : lv_has ls 3 [(0, .ref a0), (1, .int p0)] := hl
  show W p l e rmX11_goes s m _ below meth c _ _ _ _ _ _
  refine wq (fun Q hQ => ?_)
  refine lv_aload_n hx hb dX11_goes_0 rfl (lv_at hl 0 rfl) ?_
  refine va_get (D := (dC, dI)) (ci := 11) (v := .int g0_remembered) (C := RX11) (T := TX11) (N := 34) hx hb hts inX11_goes_X11 hown hK hP 0 rfl rfl 6 (by decide) (hts (.fieldLink RX11 90 "LeadParkModel" "remembered" "I") (List.mem_of_getElem? (i := 1) rfl)) (fun _ h9 => h9) rfl dX11_goes_1 ?_
  refine lv_bipush (v := 40) hx hb dX11_goes_4 (by decide) ?_
  refine lv_icmp_ne (tgt := 40) hx hb dX11_goes_6 (by decide) (fun hc => ?_) (fun hc => ?_)
  · have hw := hw.1 hc
    refine lv_aload_n hx hb dX11_goes_40 rfl (lv_at hl 0 rfl) ?_
    refine lv_dup hx hb dX11_goes_41 rfl ?_
    refine va_get (D := (dC, dI)) (ci := 11) (v := .int g0_remembered) (C := RX11) (T := TX11) (N := 34) hx hb hts inX11_goes_X11 hown hK hP 0 rfl rfl 6 (by decide) (hts (.fieldLink RX11 90 "LeadParkModel" "remembered" "I") (List.mem_of_getElem? (i := 1) rfl)) (fun _ h9 => h9) rfl dX11_goes_42 ?_
    refine lv_iconst (v := 1) hx hb dX11_goes_45 (by decide) ?_
    refine lv_iadd hx hb dX11_goes_46 ?_
    refine lv_topi (fun v1 ev1 => ?_)
    have hw := hw v1 ev1
    refine va_put (D := (dC, dI)) (ci := 11) (v := .int v1) (ty := .int) (C := RX11) (T := TX11) (N := 34) hx hb hts inX11_goes_X11 tyX11 tyX11_ok nmX11 hown hK hP hD hS 0 rfl rfl 6 (by decide) (hts (.fieldLink RX11 90 "LeadParkModel" "remembered" "I") (List.mem_of_getElem? (i := 1) rfl)) (fun _ h9 => h9) rfl (by decide +kernel) rfl rfl (Nat.le_of_ble_eq_true rfl) dX11_goes_47 (fun H locs hP hD hS => ?_)
    have hP : va_P (dC, dI) vwCl (ceX11_goes cyI cyB cyJ cyZ a0 a1 a2 b0_image b0_before b0_tape b0_five b0_value b0_far b0_lead b0_walk b0_ends b0_manX b0_manY b0_dogX b0_dogY b0_row b0_round b0_farOne b0_leads b0_drags b0_from b0_near g0_thrown g0_hasImage g0_taped g0_point g0_end g0_begin g0_deep g0_faultAt g0_steps g0_men g0_dogs v1 f1 f2) H := hP
    have hD : va_D A (ceX11_goes cyI cyB cyJ cyZ a0 a1 a2 b0_image b0_before b0_tape b0_five b0_value b0_far b0_lead b0_walk b0_ends b0_manX b0_manY b0_dogX b0_dogY b0_row b0_round b0_farOne b0_leads b0_drags b0_from b0_near g0_thrown g0_hasImage g0_taped g0_point g0_end g0_begin g0_deep g0_faultAt g0_steps g0_men g0_dogs v1 f1 f2) := hD
    exact bX11_goes_50 C0 hK hN hA hQ v1 f1 f2 p0 hw _ _ hP hD hS ls (lv_sub hl [0, 1] rfl)
  · have hw := hw.2 hc
    refine lv_iconst (v := 0) hx hb dX11_goes_9 (by decide) ?_
    refine lv_istore_n (lv' := [(2, .int 0), (0, .ref a0), (1, .int p0)]) hx hb dX11_goes_10 rfl hl (by decide) rfl (fun ls hl => ?_)
    obtain ⟨nn, hw⟩ := hw
    exact bX11_goes_11 C0 hK hN hA hQ nn g0_remembered f1 f2 p0 0 hw _ _ hP hD hS ls (lv_sub hl [1, 2, 0] rfl)
