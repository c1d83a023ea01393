/-! LeadParkModel.readLawLine (I)Z -/
abbrev ceX11_readLawLine (cyI cyB cyJ cyZ : ClassId) (a0 a1 a2 b0_image b0_before b0_taken b0_five b0_value b0_far b0_lead b0_walk b0_ends b0_manX b0_manY b0_dogX b0_dogY b0_row b0_round b0_farOne b0_leads b0_drags b0_from b0_near : Nat) (g0_thrown : Int32) (g0_hasImage : Int32) (g0_remembered : Int32) (g0_taped : Int32) (g0_faultAt : Int32) (g0_men : Int32) (g0_dogs : Int32) (g0_end : Int32) (f1 : Nat → Int32) (g0_point : Int32) (g0_begin : Int32) (g0_deep : Int32) (g0_steps : Int32) (f2 : Nat → Int32) : va_W := [(a0, .inr (11, [.int g0_thrown, .ref a2, .ref b0_image, .ref b0_before, .int g0_hasImage, .ref b0_taken, .int g0_remembered, .ref a1, .int g0_taped, .int g0_point, .int g0_end, .int g0_begin, .int g0_deep, .int g0_faultAt, .ref b0_five, .int g0_steps, .ref b0_value, .ref b0_far, .int g0_men, .int g0_dogs, .ref b0_lead, .ref b0_walk, .ref b0_ends, .ref b0_manX, .ref b0_manY, .ref b0_dogX, .ref b0_dogY, .ref b0_row, .ref b0_round, .ref b0_farOne, .ref b0_leads, .ref b0_drags, .ref b0_from, .ref b0_near])), (a1, .inl (cyB, 400, .inl f1)), (a2, .inl (cyI, 2508, .inl f2))]

theorem inX11_readLawLine_X11 : ∀ w ∈ wsX110, w ∈ wsX11_readLawLine := fun _ h => List.mem_cons_of_mem _ (List.mem_append_right _ h)
abbrev rmX11_readLawLine : Room := { frames := 61, cells := 0, slots := 0, locals := 4020 }
def wpX11_readLawLine_52 (post : Int32 → (Int32 × Int32 × Int32 × Int32 × (Nat → Int32)) → Prop) (g0_end : Int32) (f1 : Nat → Int32) (g0_point : Int32) (g0_begin : Int32) (g0_deep : Int32) (g0_steps : Int32) (f2 : Nat → Int32) (x2 : Int32) : Prop :=
  vp_in (x2 + 1) 2508 ∧
  post 1 (g0_point, g0_begin, g0_deep, g0_steps, (upd f2 (x2 + 1).toNatClampNeg g0_steps))
def wpX11_readLawLine (post : Int32 → (Int32 × Int32 × Int32 × Int32 × (Nat → Int32)) → Prop) (g0_end : Int32) (f1 : Nat → Int32) (g0_point : Int32) (g0_begin : Int32) (g0_deep : Int32) (g0_steps : Int32) (f2 : Nat → Int32) (p0 : Int32) : Prop :=
  ∀ v1 : Int32, v1 = 1684 + (2 * p0) →
  wpX11_isWord [98, 97, 114] (fun (r3 : Int32) (u2 : Unit) =>
   (¬ r3 = 0 →
    vp_in v1 2508 ∧
    wpX11_passes [105, 102] (fun (r5 : Int32) (u4 : Int32 × Int32) =>
     (r5 = 0 →
      wpX11_readLawLine_52 post g0_end f1 u4.1 u4.2 0 g0_steps (upd f2 v1.toNatClampNeg g0_steps) v1) ∧
     (¬ r5 = 0 →
      ∃ nG : Nat, nG ≤ 40 ∧ wpX11R nG 0 (fun (r7 : Int32) (u6 : Int32 × Int32 × Int32 × Int32 × (Nat → Int32)) =>
       (¬ r7 = 0 →
        wpX11_readLawLine_52 post g0_end f1 u6.1 u6.2.1 u6.2.2.1 u6.2.2.2.1 u6.2.2.2.2 v1) ∧
       (r7 = 0 →
        post 0 (u6.1, u6.2.1, u6.2.2.1, u6.2.2.2.1, u6.2.2.2.2))) g0_end f1 u4.1 u4.2 0 g0_steps (upd f2 v1.toNatClampNeg g0_steps))) g0_end f1 g0_point g0_begin) ∧
   (r3 = 0 →
    post 0 (g0_point, g0_begin, g0_deep, g0_steps, f2))) g0_point g0_begin f1
set_option maxRecDepth 100000 in
set_option maxHeartbeats 4000000 in
theorem bX11_readLawLine_52 {p : Program} {l : Launch} {e : Env} {s : State} {m : MethodId} {args : Array Value} {below : List Frame} {meth : Method} {c : Code} {dC : Nat → ClassId} {dI : Nat → Nat → Nat} {cyI cyB cyJ cyZ : ClassId} {A : Nat → Prop} {a0 a1 a2 b0_image b0_before b0_taken b0_five b0_value b0_far b0_lead b0_walk b0_ends b0_manX b0_manY b0_dogX b0_dogY b0_row b0_round b0_farOne b0_leads b0_drags b0_from b0_near : Nat} {g0_thrown : Int32} {g0_hasImage : Int32} {g0_remembered : Int32} {g0_taped : Int32} {g0_faultAt : Int32} {g0_men : Int32} {g0_dogs : Int32} {adS : Nat → Nat} (C0 : cxM p s m meth c args wsX11_readLawLine RX11 cX11_readLawLine 3 (some .boolean)) (hK : va_K (dC, dI) vwCl (tyA cyI cyB cyJ cyZ) s) (hN : nwA s) (hA : ∀ q : Nat, s.heap.size ≤ q → A q) (hXs : (txA adS) A s s.heap) {post : Int32 → (Int32 × Int32 × Int32 × Int32 × (Nat → Int32)) → Prop} {g0_end : Int32} {f1 : Nat → Int32} {Q : State → Prop} (hQ : Q = MQ below (va_Qi post (fun u : Int32 × Int32 × Int32 × Int32 × (Nat → Int32) => wAt dC dI cyI cyB cyJ cyZ A (ceX11_readLawLine cyI cyB cyJ cyZ a0 a1 a2 b0_image b0_before b0_taken b0_five b0_value b0_far b0_lead b0_walk b0_ends b0_manX b0_manY b0_dogX b0_dogY b0_row b0_round b0_farOne b0_leads b0_drags b0_from b0_near g0_thrown g0_hasImage g0_remembered g0_taped g0_faultAt g0_men g0_dogs g0_end f1 u.1 u.2.1 u.2.2.1 u.2.2.2.1 u.2.2.2.2)) A) args s 0 0 A) : ∀ (g0_point : Int32) (g0_begin : Int32) (g0_deep : Int32) (g0_steps : Int32) (f2 : Nat → Int32) (x2 : Int32), wpX11_readLawLine_52 post g0_end f1 g0_point g0_begin g0_deep g0_steps f2 x2 → AtW p l e rmX11_readLawLine s m args below meth c dC dI A Q 3 0 0 (ceX11_readLawLine cyI cyB cyJ cyZ a0 a1 a2 b0_image b0_before b0_taken b0_five b0_value b0_far b0_lead b0_walk b0_ends b0_manX b0_manY b0_dogX b0_dogY b0_row b0_round b0_farOne b0_leads b0_drags b0_from b0_near g0_thrown g0_hasImage g0_remembered g0_taped g0_faultAt g0_men g0_dogs g0_end f1 g0_point g0_begin g0_deep g0_steps f2) [(0, .ref a0), (2, .int x2)] 52 [] := by
  intro g0_point g0_begin g0_deep g0_steps f2 x2 hw H locs hP hD hS ls hl
  have C1 := C0
  obtain ⟨hx, hb, hr, hml, hown, hts, hlocks⟩ := C1
  refine lv_aload_n hx hb dX11_readLawLine_52 rfl (lv_at hl 0 rfl) ?_
  refine va_get (D := (dC, dI)) (ci := 11) (v := .ref a2) (C := RX11) (T := TX11) (N := 34) hx hb hts inX11_readLawLine_X11 hown hK hP 0 rfl rfl 1 (by decide) (hts (.fieldLink RX11 13 "LeadParkModel" "world" "[I") (List.mem_of_getElem? (i := 1) rfl)) (fun _ h9 => h9) rfl dX11_readLawLine_53 ?_
  refine lv_iload_n hx hb dX11_readLawLine_56 rfl (lv_at hl 1 rfl) ?_
  refine lv_iconst (v := 1) hx hb dX11_readLawLine_57 (by decide) ?_
  refine lv_iadd hx hb dX11_readLawLine_58 ?_
  refine lv_aload_n hx hb dX11_readLawLine_59 rfl (lv_at hl 0 rfl) ?_
  refine va_get (D := (dC, dI)) (ci := 11) (v := .int g0_steps) (C := RX11) (T := TX11) (N := 34) hx hb hts inX11_readLawLine_X11 hown hK hP 0 rfl rfl 15 (by decide) (hts (.fieldLink RX11 168 "LeadParkModel" "steps" "I") (List.mem_of_getElem? (i := 2) rfl)) (fun _ h9 => h9) rfl dX11_readLawLine_60 ?_
  obtain ⟨hi, hw⟩ := hw
  refine va_iast hx hb hK hP hD hS 2 0 rfl rfl hi dX11_readLawLine_63 (fun H locs hP hD hS => ?_)
  have hP : va_P (dC, dI) vwCl (ceX11_readLawLine cyI cyB cyJ cyZ a0 a1 a2 b0_image b0_before b0_taken b0_five b0_value b0_far b0_lead b0_walk b0_ends b0_manX b0_manY b0_dogX b0_dogY b0_row b0_round b0_farOne b0_leads b0_drags b0_from b0_near g0_thrown g0_hasImage g0_remembered g0_taped g0_faultAt g0_men g0_dogs g0_end f1 g0_point g0_begin g0_deep g0_steps (upd f2 (x2 + 1).toNatClampNeg g0_steps)) H := hP
  have hD : va_D A (ceX11_readLawLine cyI cyB cyJ cyZ a0 a1 a2 b0_image b0_before b0_taken b0_five b0_value b0_far b0_lead b0_walk b0_ends b0_manX b0_manY b0_dogX b0_dogY b0_row b0_round b0_farOne b0_leads b0_drags b0_from b0_near g0_thrown g0_hasImage g0_remembered g0_taped g0_faultAt g0_men g0_dogs g0_end f1 g0_point g0_begin g0_deep g0_steps (upd f2 (x2 + 1).toNatClampNeg g0_steps)) := hD
  refine lv_iconst (v := 1) hx hb dX11_readLawLine_64 (by decide) ?_
  rw [hQ]
  exact W.zret (v := 1) (ty := .boolean) hx hb hr rfl (fun t ht hW => ⟨⟨1, (g0_point, g0_begin, g0_deep, g0_steps, (upd f2 (x2 + 1).toNatClampNeg g0_steps)), rfl, hw, by rw [ht]; exact hP, va_K.moved hW.alike hK, hD⟩, hS.F ht⟩) hS.2.2 dX11_readLawLine_65
set_option maxRecDepth 100000 in
set_option maxHeartbeats 4000000 in
theorem ctX11_readLawLine (l : Launch) (dC : Nat → ClassId) (dI : Nat → Nat → Nat) (cyI cyB cyJ cyZ : ClassId) (sz : Nat) (a0 a1 a2 b0_image b0_before b0_taken b0_five b0_value b0_far b0_lead b0_walk b0_ends b0_manX b0_manY b0_dogX b0_dogY b0_row b0_round b0_farOne b0_leads b0_drags b0_from b0_near : Nat) (g0_thrown : Int32) (g0_hasImage : Int32) (g0_remembered : Int32) (g0_taped : Int32) (g0_faultAt : Int32) (g0_men : Int32) (g0_dogs : Int32) (g0_end : Int32) (f1 : Nat → Int32) (g0_point : Int32) (g0_begin : Int32) (g0_deep : Int32) (g0_steps : Int32) (f2 : Nat → Int32) (p0 : Int32) (post : Int32 → (Int32 × Int32 × Int32 × Int32 × (Nat → Int32)) → Prop) (adS : Nat → Nat) (hw : wpX11_readLawLine post g0_end f1 g0_point g0_begin g0_deep g0_steps f2 p0) : Met l yX11_readLawLine wsX11_readLawLine rmX11_readLawLine (va_Pc [.ref a0, .int p0] (wPreX dC dI cyI cyB cyJ cyZ sz (ceX11_readLawLine cyI cyB cyJ cyZ a0 a1 a2 b0_image b0_before b0_taken b0_five b0_value b0_far b0_lead b0_walk b0_ends b0_manX b0_manY b0_dogX b0_dogY b0_row b0_round b0_farOne b0_leads b0_drags b0_from b0_near g0_thrown g0_hasImage g0_remembered g0_taped g0_faultAt g0_men g0_dogs g0_end f1 g0_point g0_begin g0_deep g0_steps f2) (txA adS))) (va_Qi post (fun u : Int32 × Int32 × Int32 × Int32 × (Nat → Int32) => wAt dC dI cyI cyB cyJ cyZ (va_A (ceX11_readLawLine cyI cyB cyJ cyZ a0 a1 a2 b0_image b0_before b0_taken b0_five b0_value b0_far b0_lead b0_walk b0_ends b0_manX b0_manY b0_dogX b0_dogY b0_row b0_round b0_farOne b0_leads b0_drags b0_from b0_near g0_thrown g0_hasImage g0_remembered g0_taped g0_faultAt g0_men g0_dogs g0_end f1 g0_point g0_begin g0_deep g0_steps f2) sz) (ceX11_readLawLine cyI cyB cyJ cyZ a0 a1 a2 b0_image b0_before b0_taken b0_five b0_value b0_far b0_lead b0_walk b0_ends b0_manX b0_manY b0_dogX b0_dogY b0_row b0_round b0_farOne b0_leads b0_drags b0_from b0_near g0_thrown g0_hasImage g0_remembered g0_taped g0_faultAt g0_men g0_dogs g0_end f1 u.1 u.2.1 u.2.2.1 u.2.2.2.1 u.2.2.2.2)) (va_A (ceX11_readLawLine cyI cyB cyJ cyZ a0 a1 a2 b0_image b0_before b0_taken b0_five b0_value b0_far b0_lead b0_walk b0_ends b0_manX b0_manY b0_dogX b0_dogY b0_row b0_round b0_farOne b0_leads b0_drags b0_from b0_near g0_thrown g0_hasImage g0_remembered g0_taped g0_faultAt g0_men g0_dogs g0_end f1 g0_point g0_begin g0_deep g0_steps f2) sz)) 0 0 (va_A (ceX11_readLawLine cyI cyB cyJ cyZ a0 a1 a2 b0_image b0_before b0_taken b0_five b0_value b0_far b0_lead b0_walk b0_ends b0_manX b0_manY b0_dogX b0_dogY b0_row b0_round b0_farOne b0_leads b0_drags b0_from b0_near g0_thrown g0_hasImage g0_remembered g0_taped g0_faultAt g0_men g0_dogs g0_end f1 g0_point g0_begin g0_deep g0_steps f2) sz) := by
  refine Met.ofW (cc := cX11_readLawLine) (maxL := 3) (ret := (some .boolean)) (by decide) rfl ?_
  intro p e s m args below meth c s₁ B hml hv
  obtain ⟨rfl, ⟨hsz, hP, hK, hD0, hN⟩, hXs⟩ := hv
  have hx := B.exec
  have hb := B.bytes
  have hr := B.returns
  have hts := atoms_spec (ws := wsX11_readLawLine) B.pre
  have hown : s.vm.findClass RX11 = some m.cls := findClass_of_methodNamed B.named
  have hlocks := B.notSynchronized
  subst hsz
  have hD := hD0.self (sz := s.heap.size)
  generalize hAe : va_A (ceX11_readLawLine cyI cyB cyJ cyZ a0 a1 a2 b0_image b0_before b0_taken b0_five b0_value b0_far b0_lead b0_walk b0_ends b0_manX b0_manY b0_dogX b0_dogY b0_row b0_round b0_farOne b0_leads b0_drags b0_from b0_near g0_thrown g0_hasImage g0_remembered g0_taped g0_faultAt g0_men g0_dogs g0_end f1 g0_point g0_begin g0_deep g0_steps f2) s.heap.size = A at hD hXs ⊢
  have hA : ∀ q : Nat, s.heap.size ≤ q → A q := fun q h => by rw [← hAe]; exact Or.inr h
  have hS : va_S A s.heap s.heap [] := va_S.rf
  have C0 : cxM p s m meth c _ wsX11_readLawLine RX11 cX11_readLawLine 3 (some .boolean) := ⟨hx, hb, hr, hml, hown, hts, hlocks⟩
  have hl := lv_entry ([.ref a0, .int p0]) (n := 3) (Nat.le_of_ble_eq_true rfl)
  rw [lg_entry_eq]
  generalize (lg_sl ([.ref a0, .int p0]) ++ List.replicate (3 - (lg_sl ([.ref a0, .int p0])).length) Slot.unset).toArray = ls at hl ⊢
  have hl : lv_has ls 3 [(0, .ref a0), (1, .int p0)] := hl
  show W p l e rmX11_readLawLine s m _ below meth c _ _ _ _ _ _
  refine wq (fun Q hQ => ?_)
  refine lv_sipush (v := 1684) hx hb dX11_readLawLine_0 (by decide) ?_
  refine lv_iconst (v := 2) hx hb dX11_readLawLine_3 (by decide) ?_
  refine lv_iload_n hx hb dX11_readLawLine_4 rfl (lv_at hl 1 rfl) ?_
  refine lv_imul hx hb dX11_readLawLine_5 ?_
  refine lv_iadd hx hb dX11_readLawLine_6 ?_
  refine lv_topi (fun v1 ev1 => ?_)
  have hw := hw v1 ev1
  refine lv_istore_n (lv' := [(2, .int v1), (0, .ref a0), (1, .int p0)]) hx hb dX11_readLawLine_7 rfl hl (by decide) rfl (fun ls hl => ?_)
  refine lv_aload_n hx hb dX11_readLawLine_8 rfl (lv_at hl 1 rfl) ?_
  refine va_ldcS hx hb hown (hXs.2 28 _ rfl).1 dX11_readLawLine_9 ?_
  have hPc := hP.sub (ws' := (ceX11_isWord cyI cyB cyJ cyZ a0 a1 a2 b0_image b0_before b0_taken b0_five b0_value b0_far b0_lead b0_walk b0_ends b0_manX b0_manY b0_dogX b0_dogY b0_row b0_round b0_farOne b0_leads b0_drags b0_from b0_near g0_thrown g0_hasImage g0_remembered g0_taped g0_end g0_deep g0_faultAt g0_steps g0_men g0_dogs g0_point g0_begin f1)) [0, 1] rfl
  have hDc := hD.sub (ws' := (ceX11_isWord cyI cyB cyJ cyZ a0 a1 a2 b0_image b0_before b0_taken b0_five b0_value b0_far b0_lead b0_walk b0_ends b0_manX b0_manY b0_dogX b0_dogY b0_row b0_round b0_farOne b0_leads b0_drags b0_from b0_near g0_thrown g0_hasImage g0_remembered g0_taped g0_end g0_deep g0_faultAt g0_steps g0_men g0_dogs g0_point g0_begin f1)) [0, 1] (by decide) rfl
  have hFc := va_free (wc := (ceX11_isWord cyI cyB cyJ cyZ a0 a1 a2 b0_image b0_before b0_taken b0_five b0_value b0_far b0_lead b0_walk b0_ends b0_manX b0_manY b0_dogX b0_dogY b0_row b0_round b0_farOne b0_leads b0_drags b0_from b0_near g0_thrown g0_hasImage g0_remembered g0_taped g0_end g0_deep g0_faultAt g0_steps g0_men g0_dogs g0_point g0_begin f1)) hD hS hA [0, 1] rfl
  refine va_calli (va_runV (As := [.ref (adS 28)]) (rest := []) ⟨hx, hb, hml, hown, hts⟩ (ctX11_isWord l dC dI cyI cyB cyJ cyZ _ a0 a1 a2 b0_image b0_before b0_taken b0_five b0_value b0_far b0_lead b0_walk b0_ends b0_manX b0_manY b0_dogX b0_dogY b0_row b0_round b0_farOne b0_leads b0_drags b0_from b0_near g0_thrown g0_hasImage g0_remembered g0_taped g0_end g0_deep g0_faultAt g0_steps g0_men g0_dogs g0_point g0_begin f1 _ [98, 97, 114] (adS 28) hw) (cwV 1 hts gX11_readLawLine_X11_isWord rfl rfl rfl (by decide +kernel) ⟨Nat.le_of_ble_eq_true rfl, Nat.le_of_ble_eq_true rfl⟩) ⟨wPreX_blind (xOk_txS [98, 97, 114] (adS 28)), va_recv hK hPc (ci := 11) (q0 := 0) rfl rfl, fun U hU hW => wPreX_of (xOk_txS [98, 97, 114] (adS 28)) hPc hK hDc hN ⟨hXs.1, (hXs.2 28 _ rfl).2⟩ hS hFc hU hW⟩ rfl rfl hl.1 rfl (lv_room (Nat.le_of_ble_eq_true rfl)) dX11_readLawLine_11 ⟨(Nat.zero_le _), (Nat.zero_le _)⟩) hS (fun q _ h => hFc q h) hFc (fun r3 u2 t H1 locs ht hvm hw hB hz1 hk1 hS => ?_)
  obtain ⟨hP1, hK1, hD1⟩ := hB
  rw [ht] at hP1
  obtain ⟨hP, hD⟩ := va_join (wr := pickW (ceX11_readLawLine cyI cyB cyJ cyZ a0 a1 a2 b0_image b0_before b0_taken b0_five b0_value b0_far b0_lead b0_walk b0_ends b0_manX b0_manY b0_dogX b0_dogY b0_row b0_round b0_farOne b0_leads b0_drags b0_from b0_near g0_thrown g0_hasImage g0_remembered g0_taped g0_faultAt g0_men g0_dogs g0_end f1 g0_point g0_begin g0_deep g0_steps f2) [2]) (w1 := (ceX11_isWord cyI cyB cyJ cyZ a0 a1 a2 b0_image b0_before b0_taken b0_five b0_value b0_far b0_lead b0_walk b0_ends b0_manX b0_manY b0_dogX b0_dogY b0_row b0_round b0_farOne b0_leads b0_drags b0_from b0_near g0_thrown g0_hasImage g0_remembered g0_taped g0_end g0_deep g0_faultAt g0_steps g0_men g0_dogs g0_point g0_begin f1)) hP hD [0, 1] [2] rfl rfl (by decide) (by decide) hk1 hFc hP1 hD1
  have hP := hP.sub (ws' := (ceX11_readLawLine cyI cyB cyJ cyZ a0 a1 a2 b0_image b0_before b0_taken b0_five b0_value b0_far b0_lead b0_walk b0_ends b0_manX b0_manY b0_dogX b0_dogY b0_row b0_round b0_farOne b0_leads b0_drags b0_from b0_near g0_thrown g0_hasImage g0_remembered g0_taped g0_faultAt g0_men g0_dogs g0_end f1 g0_point g0_begin g0_deep g0_steps f2)) [1, 2, 0] rfl
  have hD := hD.sub (ws' := (ceX11_readLawLine cyI cyB cyJ cyZ a0 a1 a2 b0_image b0_before b0_taken b0_five b0_value b0_far b0_lead b0_walk b0_ends b0_manX b0_manY b0_dogX b0_dogY b0_row b0_round b0_farOne b0_leads b0_drags b0_from b0_near g0_thrown g0_hasImage g0_remembered g0_taped g0_faultAt g0_men g0_dogs g0_end f1 g0_point g0_begin g0_deep g0_steps f2)) [1, 2, 0] (by decide) rfl
  generalize H1 = H at hP hS ⊢
  refine lv_if_ne (tgt := 19) hx hb dX11_readLawLine_14 (by decide) (fun hc => ?_) (fun hc => ?_)
  · have hw := hw.1 hc
    refine lv_aload_n hx hb dX11_readLawLine_19 rfl (lv_at hl 1 rfl) ?_
    refine va_get (D := (dC, dI)) (ci := 11) (v := .ref a2) (C := RX11) (T := TX11) (N := 34) hx hb hts inX11_readLawLine_X11 hown hK hP 0 rfl rfl 1 (by decide) (hts (.fieldLink RX11 13 "LeadParkModel" "world" "[I") (List.mem_of_getElem? (i := 1) rfl)) (fun _ h9 => h9) rfl dX11_readLawLine_20 ?_
    refine lv_iload_n hx hb dX11_readLawLine_23 rfl (lv_at hl 0 rfl) ?_
    refine lv_aload_n hx hb dX11_readLawLine_24 rfl (lv_at hl 1 rfl) ?_
    refine va_get (D := (dC, dI)) (ci := 11) (v := .int g0_steps) (C := RX11) (T := TX11) (N := 34) hx hb hts inX11_readLawLine_X11 hown hK hP 0 rfl rfl 15 (by decide) (hts (.fieldLink RX11 168 "LeadParkModel" "steps" "I") (List.mem_of_getElem? (i := 2) rfl)) (fun _ h9 => h9) rfl dX11_readLawLine_25 ?_
    obtain ⟨hi, hw⟩ := hw
    refine va_iast hx hb hK hP hD hS 2 0 rfl rfl hi dX11_readLawLine_28 (fun H locs hP hD hS => ?_)
    have hP : va_P (dC, dI) vwCl (ceX11_readLawLine cyI cyB cyJ cyZ a0 a1 a2 b0_image b0_before b0_taken b0_five b0_value b0_far b0_lead b0_walk b0_ends b0_manX b0_manY b0_dogX b0_dogY b0_row b0_round b0_farOne b0_leads b0_drags b0_from b0_near g0_thrown g0_hasImage g0_remembered g0_taped g0_faultAt g0_men g0_dogs g0_end f1 g0_point g0_begin g0_deep g0_steps (upd f2 v1.toNatClampNeg g0_steps)) H := hP
    have hD : va_D A (ceX11_readLawLine cyI cyB cyJ cyZ a0 a1 a2 b0_image b0_before b0_taken b0_five b0_value b0_far b0_lead b0_walk b0_ends b0_manX b0_manY b0_dogX b0_dogY b0_row b0_round b0_farOne b0_leads b0_drags b0_from b0_near g0_thrown g0_hasImage g0_remembered g0_taped g0_faultAt g0_men g0_dogs g0_end f1 g0_point g0_begin g0_deep g0_steps (upd f2 v1.toNatClampNeg g0_steps)) := hD
    refine lv_aload_n hx hb dX11_readLawLine_29 rfl (lv_at hl 1 rfl) ?_
    refine lv_iconst (v := 0) hx hb dX11_readLawLine_30 (by decide) ?_
    refine va_put (D := (dC, dI)) (ci := 11) (v := .int 0) (ty := .int) (C := RX11) (T := TX11) (N := 34) hx hb hts inX11_readLawLine_X11 tyX11 tyX11_ok nmX11 hown hK hP hD hS 0 rfl rfl 12 (by decide) (hts (.fieldLink RX11 195 "LeadParkModel" "deep" "I") (List.mem_of_getElem? (i := 3) rfl)) (fun _ h9 => h9) rfl (by decide +kernel) rfl rfl (Nat.le_of_ble_eq_true rfl) dX11_readLawLine_31 (fun H locs hP hD hS => ?_)
    have hP : va_P (dC, dI) vwCl (ceX11_readLawLine cyI cyB cyJ cyZ a0 a1 a2 b0_image b0_before b0_taken b0_five b0_value b0_far b0_lead b0_walk b0_ends b0_manX b0_manY b0_dogX b0_dogY b0_row b0_round b0_farOne b0_leads b0_drags b0_from b0_near g0_thrown g0_hasImage g0_remembered g0_taped g0_faultAt g0_men g0_dogs g0_end f1 g0_point g0_begin 0 g0_steps (upd f2 v1.toNatClampNeg g0_steps)) H := hP
    have hD : va_D A (ceX11_readLawLine cyI cyB cyJ cyZ a0 a1 a2 b0_image b0_before b0_taken b0_five b0_value b0_far b0_lead b0_walk b0_ends b0_manX b0_manY b0_dogX b0_dogY b0_row b0_round b0_farOne b0_leads b0_drags b0_from b0_near g0_thrown g0_hasImage g0_remembered g0_taped g0_faultAt g0_men g0_dogs g0_end f1 g0_point g0_begin 0 g0_steps (upd f2 v1.toNatClampNeg g0_steps)) := hD
    refine lv_aload_n hx hb dX11_readLawLine_34 rfl (lv_at hl 1 rfl) ?_
    refine va_ldcS hx hb hown (hXs.2 29 _ rfl).1 dX11_readLawLine_35 ?_
    have hPc := hP.sub (ws' := (ceX11_passes cyI cyB cyJ cyZ a0 a1 a2 b0_image b0_before b0_taken b0_five b0_value b0_far b0_lead b0_walk b0_ends b0_manX b0_manY b0_dogX b0_dogY b0_row b0_round b0_farOne b0_leads b0_drags b0_from b0_near g0_thrown g0_hasImage g0_remembered g0_taped 0 g0_faultAt g0_steps g0_men g0_dogs g0_end f1 g0_point g0_begin)) [0, 1] rfl
    have hDc := hD.sub (ws' := (ceX11_passes cyI cyB cyJ cyZ a0 a1 a2 b0_image b0_before b0_taken b0_five b0_value b0_far b0_lead b0_walk b0_ends b0_manX b0_manY b0_dogX b0_dogY b0_row b0_round b0_farOne b0_leads b0_drags b0_from b0_near g0_thrown g0_hasImage g0_remembered g0_taped 0 g0_faultAt g0_steps g0_men g0_dogs g0_end f1 g0_point g0_begin)) [0, 1] (by decide) rfl
    have hFc := va_free (wc := (ceX11_passes cyI cyB cyJ cyZ a0 a1 a2 b0_image b0_before b0_taken b0_five b0_value b0_far b0_lead b0_walk b0_ends b0_manX b0_manY b0_dogX b0_dogY b0_row b0_round b0_farOne b0_leads b0_drags b0_from b0_near g0_thrown g0_hasImage g0_remembered g0_taped 0 g0_faultAt g0_steps g0_men g0_dogs g0_end f1 g0_point g0_begin)) hD hS hA [0, 1] rfl
    refine va_calli (va_runV (As := [.ref (adS 29)]) (rest := []) ⟨hx, hb, hml, hown, hts⟩ (ctX11_passes l dC dI cyI cyB cyJ cyZ _ a0 a1 a2 b0_image b0_before b0_taken b0_five b0_value b0_far b0_lead b0_walk b0_ends b0_manX b0_manY b0_dogX b0_dogY b0_row b0_round b0_farOne b0_leads b0_drags b0_from b0_near g0_thrown g0_hasImage g0_remembered g0_taped 0 g0_faultAt g0_steps g0_men g0_dogs g0_end f1 g0_point g0_begin _ [105, 102] (adS 29) hw) (cwV 1 hts gX11_readLawLine_X11_passes rfl rfl rfl (by decide +kernel) ⟨Nat.le_of_ble_eq_true rfl, Nat.le_of_ble_eq_true rfl⟩) ⟨wPreX_blind (xOk_txS [105, 102] (adS 29)), va_recv hK hPc (ci := 11) (q0 := 0) rfl rfl, fun U hU hW => wPreX_of (xOk_txS [105, 102] (adS 29)) hPc hK hDc hN ⟨hXs.1, (hXs.2 29 _ rfl).2⟩ hS hFc hU hW⟩ rfl rfl hl.1 rfl (lv_room (Nat.le_of_ble_eq_true rfl)) dX11_readLawLine_37 ⟨(Nat.zero_le _), (Nat.zero_le _)⟩) hS (fun q _ h => hFc q h) hFc (fun r5 u4 t H1 locs ht hvm hw hB hz1 hk1 hS => ?_)
    obtain ⟨hP1, hK1, hD1⟩ := hB
    rw [ht] at hP1
    obtain ⟨hP, hD⟩ := va_join (wr := pickW (ceX11_readLawLine cyI cyB cyJ cyZ a0 a1 a2 b0_image b0_before b0_taken b0_five b0_value b0_far b0_lead b0_walk b0_ends b0_manX b0_manY b0_dogX b0_dogY b0_row b0_round b0_farOne b0_leads b0_drags b0_from b0_near g0_thrown g0_hasImage g0_remembered g0_taped g0_faultAt g0_men g0_dogs g0_end f1 g0_point g0_begin 0 g0_steps (upd f2 v1.toNatClampNeg g0_steps)) [2]) (w1 := (ceX11_passes cyI cyB cyJ cyZ a0 a1 a2 b0_image b0_before b0_taken b0_five b0_value b0_far b0_lead b0_walk b0_ends b0_manX b0_manY b0_dogX b0_dogY b0_row b0_round b0_farOne b0_leads b0_drags b0_from b0_near g0_thrown g0_hasImage g0_remembered g0_taped 0 g0_faultAt g0_steps g0_men g0_dogs g0_end f1 u4.1 u4.2)) hP hD [0, 1] [2] rfl rfl (by decide) (by decide) hk1 hFc hP1 hD1
    have hP := hP.sub (ws' := (ceX11_readLawLine cyI cyB cyJ cyZ a0 a1 a2 b0_image b0_before b0_taken b0_five b0_value b0_far b0_lead b0_walk b0_ends b0_manX b0_manY b0_dogX b0_dogY b0_row b0_round b0_farOne b0_leads b0_drags b0_from b0_near g0_thrown g0_hasImage g0_remembered g0_taped g0_faultAt g0_men g0_dogs g0_end f1 u4.1 u4.2 0 g0_steps (upd f2 v1.toNatClampNeg g0_steps))) [1, 2, 0] rfl
    have hD := hD.sub (ws' := (ceX11_readLawLine cyI cyB cyJ cyZ a0 a1 a2 b0_image b0_before b0_taken b0_five b0_value b0_far b0_lead b0_walk b0_ends b0_manX b0_manY b0_dogX b0_dogY b0_row b0_round b0_farOne b0_leads b0_drags b0_from b0_near g0_thrown g0_hasImage g0_remembered g0_taped g0_faultAt g0_men g0_dogs g0_end f1 u4.1 u4.2 0 g0_steps (upd f2 v1.toNatClampNeg g0_steps))) [1, 2, 0] (by decide) rfl
    generalize H1 = H at hP hS ⊢
    refine lv_if_eq (tgt := 52) hx hb dX11_readLawLine_40 (by decide) (fun hc => ?_) (fun hc => ?_)
    · have hw := hw.1 hc
      exact bX11_readLawLine_52 C0 hK hN hA hXs hQ u4.1 u4.2 0 g0_steps (upd f2 v1.toNatClampNeg g0_steps) v1 hw _ _ hP hD hS ls (lv_sub hl [1, 0] rfl)
    · have hw := hw.2 hc
      refine lv_aload_n hx hb dX11_readLawLine_43 rfl (lv_at hl 1 rfl) ?_
      have hPc := hP.sub (ws' := (ceX11_readCond cyI cyB cyJ cyZ a0 a1 a2 b0_image b0_before b0_taken b0_five b0_value b0_far b0_lead b0_walk b0_ends b0_manX b0_manY b0_dogX b0_dogY b0_row b0_round b0_farOne b0_leads b0_drags b0_from b0_near g0_thrown g0_hasImage g0_remembered g0_taped g0_faultAt g0_men g0_dogs g0_end f1 u4.1 u4.2 0 g0_steps (upd f2 v1.toNatClampNeg g0_steps))) [0, 1, 2] rfl
      have hDc := hD.sub (ws' := (ceX11_readCond cyI cyB cyJ cyZ a0 a1 a2 b0_image b0_before b0_taken b0_five b0_value b0_far b0_lead b0_walk b0_ends b0_manX b0_manY b0_dogX b0_dogY b0_row b0_round b0_farOne b0_leads b0_drags b0_from b0_near g0_thrown g0_hasImage g0_remembered g0_taped g0_faultAt g0_men g0_dogs g0_end f1 u4.1 u4.2 0 g0_steps (upd f2 v1.toNatClampNeg g0_steps))) [0, 1, 2] (by decide) rfl
      have hFc := va_free (wc := (ceX11_readCond cyI cyB cyJ cyZ a0 a1 a2 b0_image b0_before b0_taken b0_five b0_value b0_far b0_lead b0_walk b0_ends b0_manX b0_manY b0_dogX b0_dogY b0_row b0_round b0_farOne b0_leads b0_drags b0_from b0_near g0_thrown g0_hasImage g0_remembered g0_taped g0_faultAt g0_men g0_dogs g0_end f1 u4.1 u4.2 0 g0_steps (upd f2 v1.toNatClampNeg g0_steps))) hD hS hA [0, 1, 2] rfl
      obtain ⟨nG, hG, hw⟩ := hw
      refine va_calli (va_runV (As := []) (rest := []) ⟨hx, hb, hml, hown, hts⟩ ((ctX11R l dC dI cyI cyB cyJ cyZ nG).1 _ a0 a1 a2 b0_image b0_before b0_taken b0_five b0_value b0_far b0_lead b0_walk b0_ends b0_manX b0_manY b0_dogX b0_dogY b0_row b0_round b0_farOne b0_leads b0_drags b0_from b0_near g0_thrown g0_hasImage g0_remembered g0_taped g0_faultAt g0_men g0_dogs g0_end f1 u4.1 u4.2 0 g0_steps (upd f2 v1.toNatClampNeg g0_steps) _ adS hw) (cwV 0 hts gX11_readLawLine_X11_readCond rfl rfl rfl (by decide +kernel) ⟨(by simp <;> omega), (by simp <;> omega)⟩) ⟨wPreX_blind (xOk_txA adS), va_recv hK hPc (ci := 11) (q0 := 0) rfl rfl, fun U hU hW => wPreX_of (xOk_txA adS) hPc hK hDc hN hXs hS hFc hU hW⟩ rfl rfl hl.1 rfl (lv_room (Nat.le_of_ble_eq_true rfl)) dX11_readLawLine_44 ⟨(Nat.zero_le _), (Nat.zero_le _)⟩) hS (fun q _ h => hFc q h) hFc (fun r7 u6 t H1 locs ht hvm hw hB hz1 hk1 hS => ?_)
      obtain ⟨hP1, hK1, hD1⟩ := hB
      rw [ht] at hP1
      obtain ⟨hP, hD⟩ := va_join (wr := pickW (ceX11_readLawLine cyI cyB cyJ cyZ a0 a1 a2 b0_image b0_before b0_taken b0_five b0_value b0_far b0_lead b0_walk b0_ends b0_manX b0_manY b0_dogX b0_dogY b0_row b0_round b0_farOne b0_leads b0_drags b0_from b0_near g0_thrown g0_hasImage g0_remembered g0_taped g0_faultAt g0_men g0_dogs g0_end f1 u4.1 u4.2 0 g0_steps (upd f2 v1.toNatClampNeg g0_steps)) []) (w1 := (ceX11_readCond cyI cyB cyJ cyZ a0 a1 a2 b0_image b0_before b0_taken b0_five b0_value b0_far b0_lead b0_walk b0_ends b0_manX b0_manY b0_dogX b0_dogY b0_row b0_round b0_farOne b0_leads b0_drags b0_from b0_near g0_thrown g0_hasImage g0_remembered g0_taped g0_faultAt g0_men g0_dogs g0_end f1 u6.1 u6.2.1 u6.2.2.1 u6.2.2.2.1 u6.2.2.2.2)) hP hD [0, 1, 2] [] rfl rfl (by decide) (by decide) hk1 hFc hP1 hD1
      have hP := hP.sub (ws' := (ceX11_readLawLine cyI cyB cyJ cyZ a0 a1 a2 b0_image b0_before b0_taken b0_five b0_value b0_far b0_lead b0_walk b0_ends b0_manX b0_manY b0_dogX b0_dogY b0_row b0_round b0_farOne b0_leads b0_drags b0_from b0_near g0_thrown g0_hasImage g0_remembered g0_taped g0_faultAt g0_men g0_dogs g0_end f1 u6.1 u6.2.1 u6.2.2.1 u6.2.2.2.1 u6.2.2.2.2)) [0, 1, 2] rfl
      have hD := hD.sub (ws' := (ceX11_readLawLine cyI cyB cyJ cyZ a0 a1 a2 b0_image b0_before b0_taken b0_five b0_value b0_far b0_lead b0_walk b0_ends b0_manX b0_manY b0_dogX b0_dogY b0_row b0_round b0_farOne b0_leads b0_drags b0_from b0_near g0_thrown g0_hasImage g0_remembered g0_taped g0_faultAt g0_men g0_dogs g0_end f1 u6.1 u6.2.1 u6.2.2.1 u6.2.2.2.1 u6.2.2.2.2)) [0, 1, 2] (by decide) rfl
      generalize H1 = H at hP hS ⊢
      refine lv_if_ne (tgt := 52) hx hb dX11_readLawLine_47 (by decide) (fun hc => ?_) (fun hc => ?_)
      · have hw := hw.1 hc
        exact bX11_readLawLine_52 C0 hK hN hA hXs hQ u6.1 u6.2.1 u6.2.2.1 u6.2.2.2.1 u6.2.2.2.2 v1 hw _ _ hP hD hS ls (lv_sub hl [1, 0] rfl)
      · have hw := hw.2 hc
        refine lv_iconst (v := 0) hx hb dX11_readLawLine_50 (by decide) ?_
        rw [hQ]
        exact W.zret (v := 0) (ty := .boolean) hx hb hr rfl (fun t ht hW => ⟨⟨0, (u6.1, u6.2.1, u6.2.2.1, u6.2.2.2.1, u6.2.2.2.2), rfl, hw, by rw [ht]; exact hP, va_K.moved hW.alike hK, hD⟩, hS.F ht⟩) hS.2.2 dX11_readLawLine_51
  · have hw := hw.2 hc
    refine lv_iconst (v := 0) hx hb dX11_readLawLine_17 (by decide) ?_
    rw [hQ]
    exact W.zret (v := 0) (ty := .boolean) hx hb hr rfl (fun t ht hW => ⟨⟨0, (g0_point, g0_begin, g0_deep, g0_steps, f2), rfl, hw, by rw [ht]; exact hP, va_K.moved hW.alike hK, hD⟩, hS.F ht⟩) hS.2.2 dX11_readLawLine_18
/-! LeadParkModel.readLine (ZI)Z -/
abbrev ceX11_readLine (cyI cyB cyJ cyZ : ClassId) (a0 a1 a2 b0_image b0_before b0_taken b0_five b0_value b0_far b0_lead b0_walk b0_ends b0_manX b0_manY b0_dogX b0_dogY b0_row b0_round b0_farOne b0_leads b0_drags b0_from b0_near : Nat) (g0_thrown : Int32) (g0_hasImage : Int32) (g0_remembered : Int32) (g0_taped : Int32) (g0_faultAt : Int32) (g0_men : Int32) (g0_dogs : Int32) (g0_end : Int32) (f1 : Nat → Int32) (g0_point : Int32) (g0_begin : Int32) (g0_deep : Int32) (g0_steps : Int32) (f2 : Nat → Int32) : va_W := [(a0, .inr (11, [.int g0_thrown, .ref a2, .ref b0_image, .ref b0_before, .int g0_hasImage, .ref b0_taken, .int g0_remembered, .ref a1, .int g0_taped, .int g0_point, .int g0_end, .int g0_begin, .int g0_deep, .int g0_faultAt, .ref b0_five, .int g0_steps, .ref b0_value, .ref b0_far, .int g0_men, .int g0_dogs, .ref b0_lead, .ref b0_walk, .ref b0_ends, .ref b0_manX, .ref b0_manY, .ref b0_dogX, .ref b0_dogY, .ref b0_row, .ref b0_round, .ref b0_farOne, .ref b0_leads, .ref b0_drags, .ref b0_from, .ref b0_near])), (a1, .inl (cyB, 400, .inl f1)), (a2, .inl (cyI, 2508, .inl f2))]

abbrev rmX11_readLine : Room := { frames := 62, cells := 0, slots := 0, locals := 4042 }
def wpX11_readLine_16 (post : Int32 → (Int32 × Int32 × Int32 × Int32 × (Nat → Int32)) → Prop) (g0_end : Int32) (f1 : Nat → Int32) (g0_point : Int32) (g0_begin : Int32) (g0_deep : Int32) (g0_steps : Int32) (f2 : Nat → Int32) (x1 : Int32) (x2 : Int32) (s0 : Int32) (s1 : Int32) : Prop :=
  (s1 ≤ s0 →
   post 0 (g0_point, g0_begin, g0_deep, g0_steps, f2)) ∧
  (¬ s1 ≤ s0 →
   (x1 = 0 →
    wpX11_readLawLine (fun (r2 : Int32) (u1 : Int32 × Int32 × Int32 × Int32 × (Nat → Int32)) =>
     (r2 = 0 →
      post 0 (u1.1, u1.2.1, u1.2.2.1, u1.2.2.2.1, u1.2.2.2.2)) ∧
     (¬ r2 = 0 →
      post 1 (u1.1, u1.2.1, u1.2.2.1, u1.2.2.2.1, u1.2.2.2.2))) g0_end f1 g0_point g0_begin g0_deep g0_steps f2 x2) ∧
   (¬ x1 = 0 →
    wpX11_readParkLine (fun (r4 : Int32) (u3 : Int32 × Int32 × (Nat → Int32)) =>
     (r4 = 0 →
      post 0 (u3.1, u3.2.1, g0_deep, g0_steps, u3.2.2)) ∧
     (¬ r4 = 0 →
      post 1 (u3.1, u3.2.1, g0_deep, g0_steps, u3.2.2))) g0_end f1 g0_point g0_begin f2))
def wpX11_readLine (post : Int32 → (Int32 × Int32 × Int32 × Int32 × (Nat → Int32)) → Prop) (g0_end : Int32) (f1 : Nat → Int32) (g0_point : Int32) (g0_begin : Int32) (g0_deep : Int32) (g0_steps : Int32) (f2 : Nat → Int32) (p0 : Int32) (p1 : Int32) : Prop :=
  wpX11_letters (fun (u1 : Int32 × Int32) =>
   (p0 = 0 →
    wpX11_readLine_16 post g0_end f1 u1.1 u1.2 g0_deep g0_steps f2 p0 p1 p1 12) ∧
   (¬ p0 = 0 →
    wpX11_readLine_16 post g0_end f1 u1.1 u1.2 g0_deep g0_steps f2 p0 p1 p1 14)) g0_end f1 g0_point g0_begin
set_option maxRecDepth 100000 in
set_option maxHeartbeats 4000000 in
theorem bX11_readLine_16 {p : Program} {l : Launch} {e : Env} {s : State} {m : MethodId} {args : Array Value} {below : List Frame} {meth : Method} {c : Code} {dC : Nat → ClassId} {dI : Nat → Nat → Nat} {cyI cyB cyJ cyZ : ClassId} {A : Nat → Prop} {a0 a1 a2 b0_image b0_before b0_taken b0_five b0_value b0_far b0_lead b0_walk b0_ends b0_manX b0_manY b0_dogX b0_dogY b0_row b0_round b0_farOne b0_leads b0_drags b0_from b0_near : Nat} {g0_thrown : Int32} {g0_hasImage : Int32} {g0_remembered : Int32} {g0_taped : Int32} {g0_faultAt : Int32} {g0_men : Int32} {g0_dogs : Int32} {adS : Nat → Nat} (C0 : cxM p s m meth c args wsX11_readLine RX11 cX11_readLine 3 (some .boolean)) (hK : va_K (dC, dI) vwCl (tyA cyI cyB cyJ cyZ) s) (hN : nwA s) (hA : ∀ q : Nat, s.heap.size ≤ q → A q) (hXs : (txA adS) A s s.heap) {post : Int32 → (Int32 × Int32 × Int32 × Int32 × (Nat → Int32)) → Prop} {g0_end : Int32} {f1 : Nat → Int32} {Q : State → Prop} (hQ : Q = MQ below (va_Qi post (fun u : Int32 × Int32 × Int32 × Int32 × (Nat → Int32) => wAt dC dI cyI cyB cyJ cyZ A (ceX11_readLine cyI cyB cyJ cyZ a0 a1 a2 b0_image b0_before b0_taken b0_five b0_value b0_far b0_lead b0_walk b0_ends b0_manX b0_manY b0_dogX b0_dogY b0_row b0_round b0_farOne b0_leads b0_drags b0_from b0_near g0_thrown g0_hasImage g0_remembered g0_taped g0_faultAt g0_men g0_dogs g0_end f1 u.1 u.2.1 u.2.2.1 u.2.2.2.1 u.2.2.2.2)) A) args s 0 0 A) : ∀ (g0_point : Int32) (g0_begin : Int32) (g0_deep : Int32) (g0_steps : Int32) (f2 : Nat → Int32) (x1 : Int32) (x2 : Int32) (s0 : Int32) (s1 : Int32), wpX11_readLine_16 post g0_end f1 g0_point g0_begin g0_deep g0_steps f2 x1 x2 s0 s1 → AtW p l e rmX11_readLine s m args below meth c dC dI A Q 3 0 0 (ceX11_readLine cyI cyB cyJ cyZ a0 a1 a2 b0_image b0_before b0_taken b0_five b0_value b0_far b0_lead b0_walk b0_ends b0_manX b0_manY b0_dogX b0_dogY b0_row b0_round b0_farOne b0_leads b0_drags b0_from b0_near g0_thrown g0_hasImage g0_remembered g0_taped g0_faultAt g0_men g0_dogs g0_end f1 g0_point g0_begin g0_deep g0_steps f2) [(0, .ref a0), (1, .int x1), (2, .int x2)] 16 [.int s1, .int s0] := by
  intro g0_point g0_begin g0_deep g0_steps f2 x1 x2 s0 s1 hw H locs hP hD hS ls hl
  have C1 := C0
  obtain ⟨hx, hb, hr, hml, hown, hts, hlocks⟩ := C1
  refine lv_icmp_ge (tgt := 45) hx hb dX11_readLine_16 (by decide) (fun hc => ?_) (fun hc => ?_)
  · have hw := hw.1 hc
    refine lv_iconst (v := 0) hx hb dX11_readLine_45 (by decide) ?_
    rw [hQ]
    exact W.zret (v := 0) (ty := .boolean) hx hb hr rfl (fun t ht hW => ⟨⟨0, (g0_point, g0_begin, g0_deep, g0_steps, f2), rfl, hw, by rw [ht]; exact hP, va_K.moved hW.alike hK, hD⟩, hS.F ht⟩) hS.2.2 dX11_readLine_46
  · have hw := hw.2 hc
    refine lv_iload_n hx hb dX11_readLine_19 rfl (lv_at hl 1 rfl) ?_
    refine lv_if_eq (tgt := 33) hx hb dX11_readLine_20 (by decide) (fun hc => ?_) (fun hc => ?_)
    · have hw := hw.1 hc
      refine lv_aload_n hx hb dX11_readLine_33 rfl (lv_at hl 0 rfl) ?_
      refine lv_iload_n hx hb dX11_readLine_34 rfl (lv_at hl 2 rfl) ?_
      have hPc := hP.sub (ws' := (ceX11_readLawLine cyI cyB cyJ cyZ a0 a1 a2 b0_image b0_before b0_taken b0_five b0_value b0_far b0_lead b0_walk b0_ends b0_manX b0_manY b0_dogX b0_dogY b0_row b0_round b0_farOne b0_leads b0_drags b0_from b0_near g0_thrown g0_hasImage g0_remembered g0_taped g0_faultAt g0_men g0_dogs g0_end f1 g0_point g0_begin g0_deep g0_steps f2)) [0, 1, 2] rfl
      have hDc := hD.sub (ws' := (ceX11_readLawLine cyI cyB cyJ cyZ a0 a1 a2 b0_image b0_before b0_taken b0_five b0_value b0_far b0_lead b0_walk b0_ends b0_manX b0_manY b0_dogX b0_dogY b0_row b0_round b0_farOne b0_leads b0_drags b0_from b0_near g0_thrown g0_hasImage g0_remembered g0_taped g0_faultAt g0_men g0_dogs g0_end f1 g0_point g0_begin g0_deep g0_steps f2)) [0, 1, 2] (by decide) rfl
      have hFc := va_free (wc := (ceX11_readLawLine cyI cyB cyJ cyZ a0 a1 a2 b0_image b0_before b0_taken b0_five b0_value b0_far b0_lead b0_walk b0_ends b0_manX b0_manY b0_dogX b0_dogY b0_row b0_round b0_farOne b0_leads b0_drags b0_from b0_near g0_thrown g0_hasImage g0_remembered g0_taped g0_faultAt g0_men g0_dogs g0_end f1 g0_point g0_begin g0_deep g0_steps f2)) hD hS hA [0, 1, 2] rfl
      refine va_calli (va_runV (As := [.int x2]) (rest := []) ⟨hx, hb, hml, hown, hts⟩ (ctX11_readLawLine l dC dI cyI cyB cyJ cyZ _ a0 a1 a2 b0_image b0_before b0_taken b0_five b0_value b0_far b0_lead b0_walk b0_ends b0_manX b0_manY b0_dogX b0_dogY b0_row b0_round b0_farOne b0_leads b0_drags b0_from b0_near g0_thrown g0_hasImage g0_remembered g0_taped g0_faultAt g0_men g0_dogs g0_end f1 g0_point g0_begin g0_deep g0_steps f2 x2 _ adS hw) (cwV 1 hts gX11_readLine_X11_readLawLine rfl rfl rfl (by decide +kernel) ⟨Nat.le_of_ble_eq_true rfl, Nat.le_of_ble_eq_true rfl⟩) ⟨wPreX_blind (xOk_txA adS), va_recv hK hPc (ci := 11) (q0 := 0) rfl rfl, fun U hU hW => wPreX_of (xOk_txA adS) hPc hK hDc hN hXs hS hFc hU hW⟩ rfl rfl hl.1 rfl (lv_room (Nat.le_of_ble_eq_true rfl)) dX11_readLine_35 ⟨(Nat.zero_le _), (Nat.zero_le _)⟩) hS (fun q _ h => hFc q h) hFc (fun r2 u1 t H1 locs ht hvm hw hB hz1 hk1 hS => ?_)
      obtain ⟨hP1, hK1, hD1⟩ := hB
      rw [ht] at hP1
      obtain ⟨hP, hD⟩ := va_join (wr := pickW (ceX11_readLine cyI cyB cyJ cyZ a0 a1 a2 b0_image b0_before b0_taken b0_five b0_value b0_far b0_lead b0_walk b0_ends b0_manX b0_manY b0_dogX b0_dogY b0_row b0_round b0_farOne b0_leads b0_drags b0_from b0_near g0_thrown g0_hasImage g0_remembered g0_taped g0_faultAt g0_men g0_dogs g0_end f1 g0_point g0_begin g0_deep g0_steps f2) []) (w1 := (ceX11_readLawLine cyI cyB cyJ cyZ a0 a1 a2 b0_image b0_before b0_taken b0_five b0_value b0_far b0_lead b0_walk b0_ends b0_manX b0_manY b0_dogX b0_dogY b0_row b0_round b0_farOne b0_leads b0_drags b0_from b0_near g0_thrown g0_hasImage g0_remembered g0_taped g0_faultAt g0_men g0_dogs g0_end f1 u1.1 u1.2.1 u1.2.2.1 u1.2.2.2.1 u1.2.2.2.2)) hP hD [0, 1, 2] [] rfl rfl (by decide) (by decide) hk1 hFc hP1 hD1
      have hP := hP.sub (ws' := (ceX11_readLine cyI cyB cyJ cyZ a0 a1 a2 b0_image b0_before b0_taken b0_five b0_value b0_far b0_lead b0_walk b0_ends b0_manX b0_manY b0_dogX b0_dogY b0_row b0_round b0_farOne b0_leads b0_drags b0_from b0_near g0_thrown g0_hasImage g0_remembered g0_taped g0_faultAt g0_men g0_dogs g0_end f1 u1.1 u1.2.1 u1.2.2.1 u1.2.2.2.1 u1.2.2.2.2)) [0, 1, 2] rfl
      have hD := hD.sub (ws' := (ceX11_readLine cyI cyB cyJ cyZ a0 a1 a2 b0_image b0_before b0_taken b0_five b0_value b0_far b0_lead b0_walk b0_ends b0_manX b0_manY b0_dogX b0_dogY b0_row b0_round b0_farOne b0_leads b0_drags b0_from b0_near g0_thrown g0_hasImage g0_remembered g0_taped g0_faultAt g0_men g0_dogs g0_end f1 u1.1 u1.2.1 u1.2.2.1 u1.2.2.2.1 u1.2.2.2.2)) [0, 1, 2] (by decide) rfl
      generalize H1 = H at hP hS ⊢
      refine lv_if_eq (tgt := 45) hx hb dX11_readLine_38 (by decide) (fun hc => ?_) (fun hc => ?_)
      · have hw := hw.1 hc
        refine lv_iconst (v := 0) hx hb dX11_readLine_45 (by decide) ?_
        rw [hQ]
        exact W.zret (v := 0) (ty := .boolean) hx hb hr rfl (fun t ht hW => ⟨⟨0, (u1.1, u1.2.1, u1.2.2.1, u1.2.2.2.1, u1.2.2.2.2), rfl, hw, by rw [ht]; exact hP, va_K.moved hW.alike hK, hD⟩, hS.F ht⟩) hS.2.2 dX11_readLine_46
      · have hw := hw.2 hc
        refine lv_iconst (v := 1) hx hb dX11_readLine_41 (by decide) ?_
        refine lv_goto (tgt := 46) hx hb dX11_readLine_42 (by decide) ?_
        rw [hQ]
        exact W.zret (v := 1) (ty := .boolean) hx hb hr rfl (fun t ht hW => ⟨⟨1, (u1.1, u1.2.1, u1.2.2.1, u1.2.2.2.1, u1.2.2.2.2), rfl, hw, by rw [ht]; exact hP, va_K.moved hW.alike hK, hD⟩, hS.F ht⟩) hS.2.2 dX11_readLine_46
    · have hw := hw.2 hc
      refine lv_aload_n hx hb dX11_readLine_23 rfl (lv_at hl 0 rfl) ?_
      have hPc := hP.sub (ws' := (ceX11_readParkLine cyI cyB cyJ cyZ a0 a1 a2 b0_image b0_before b0_taken b0_five b0_value b0_far b0_lead b0_walk b0_ends b0_manX b0_manY b0_dogX b0_dogY b0_row b0_round b0_farOne b0_leads b0_drags b0_from b0_near g0_thrown g0_hasImage g0_remembered g0_taped g0_deep g0_faultAt g0_steps g0_men g0_dogs g0_end f1 g0_point g0_begin f2)) [0, 1, 2] rfl
      have hDc := hD.sub (ws' := (ceX11_readParkLine cyI cyB cyJ cyZ a0 a1 a2 b0_image b0_before b0_taken b0_five b0_value b0_far b0_lead b0_walk b0_ends b0_manX b0_manY b0_dogX b0_dogY b0_row b0_round b0_farOne b0_leads b0_drags b0_from b0_near g0_thrown g0_hasImage g0_remembered g0_taped g0_deep g0_faultAt g0_steps g0_men g0_dogs g0_end f1 g0_point g0_begin f2)) [0, 1, 2] (by decide) rfl
      have hFc := va_free (wc := (ceX11_readParkLine cyI cyB cyJ cyZ a0 a1 a2 b0_image b0_before b0_taken b0_five b0_value b0_far b0_lead b0_walk b0_ends b0_manX b0_manY b0_dogX b0_dogY b0_row b0_round b0_farOne b0_leads b0_drags b0_from b0_near g0_thrown g0_hasImage g0_remembered g0_taped g0_deep g0_faultAt g0_steps g0_men g0_dogs g0_end f1 g0_point g0_begin f2)) hD hS hA [0, 1, 2] rfl
      refine va_calli (va_runV (As := []) (rest := []) ⟨hx, hb, hml, hown, hts⟩ (ctX11_readParkLine l dC dI cyI cyB cyJ cyZ _ a0 a1 a2 b0_image b0_before b0_taken b0_five b0_value b0_far b0_lead b0_walk b0_ends b0_manX b0_manY b0_dogX b0_dogY b0_row b0_round b0_farOne b0_leads b0_drags b0_from b0_near g0_thrown g0_hasImage g0_remembered g0_taped g0_deep g0_faultAt g0_steps g0_men g0_dogs g0_end f1 g0_point g0_begin f2 _ adS hw) (cwV 0 hts gX11_readLine_X11_readParkLine rfl rfl rfl (by decide +kernel) ⟨Nat.le_of_ble_eq_true rfl, Nat.le_of_ble_eq_true rfl⟩) ⟨wPreX_blind (xOk_txA adS), va_recv hK hPc (ci := 11) (q0 := 0) rfl rfl, fun U hU hW => wPreX_of (xOk_txA adS) hPc hK hDc hN hXs hS hFc hU hW⟩ rfl rfl hl.1 rfl (lv_room (Nat.le_of_ble_eq_true rfl)) dX11_readLine_24 ⟨(Nat.zero_le _), (Nat.zero_le _)⟩) hS (fun q _ h => hFc q h) hFc (fun r4 u3 t H1 locs ht hvm hw hB hz1 hk1 hS => ?_)
      obtain ⟨hP1, hK1, hD1⟩ := hB
      rw [ht] at hP1
      obtain ⟨hP, hD⟩ := va_join (wr := pickW (ceX11_readLine cyI cyB cyJ cyZ a0 a1 a2 b0_image b0_before b0_taken b0_five b0_value b0_far b0_lead b0_walk b0_ends b0_manX b0_manY b0_dogX b0_dogY b0_row b0_round b0_farOne b0_leads b0_drags b0_from b0_near g0_thrown g0_hasImage g0_remembered g0_taped g0_faultAt g0_men g0_dogs g0_end f1 g0_point g0_begin g0_deep g0_steps f2) []) (w1 := (ceX11_readParkLine cyI cyB cyJ cyZ a0 a1 a2 b0_image b0_before b0_taken b0_five b0_value b0_far b0_lead b0_walk b0_ends b0_manX b0_manY b0_dogX b0_dogY b0_row b0_round b0_farOne b0_leads b0_drags b0_from b0_near g0_thrown g0_hasImage g0_remembered g0_taped g0_deep g0_faultAt g0_steps g0_men g0_dogs g0_end f1 u3.1 u3.2.1 u3.2.2)) hP hD [0, 1, 2] [] rfl rfl (by decide) (by decide) hk1 hFc hP1 hD1
      have hP := hP.sub (ws' := (ceX11_readLine cyI cyB cyJ cyZ a0 a1 a2 b0_image b0_before b0_taken b0_five b0_value b0_far b0_lead b0_walk b0_ends b0_manX b0_manY b0_dogX b0_dogY b0_row b0_round b0_farOne b0_leads b0_drags b0_from b0_near g0_thrown g0_hasImage g0_remembered g0_taped g0_faultAt g0_men g0_dogs g0_end f1 u3.1 u3.2.1 g0_deep g0_steps u3.2.2)) [0, 1, 2] rfl
      have hD := hD.sub (ws' := (ceX11_readLine cyI cyB cyJ cyZ a0 a1 a2 b0_image b0_before b0_taken b0_five b0_value b0_far b0_lead b0_walk b0_ends b0_manX b0_manY b0_dogX b0_dogY b0_row b0_round b0_farOne b0_leads b0_drags b0_from b0_near g0_thrown g0_hasImage g0_remembered g0_taped g0_faultAt g0_men g0_dogs g0_end f1 u3.1 u3.2.1 g0_deep g0_steps u3.2.2)) [0, 1, 2] (by decide) rfl
      generalize H1 = H at hP hS ⊢
      refine lv_if_eq (tgt := 45) hx hb dX11_readLine_27 (by decide) (fun hc => ?_) (fun hc => ?_)
      · have hw := hw.1 hc
        refine lv_iconst (v := 0) hx hb dX11_readLine_45 (by decide) ?_
        rw [hQ]
        exact W.zret (v := 0) (ty := .boolean) hx hb hr rfl (fun t ht hW => ⟨⟨0, (u3.1, u3.2.1, g0_deep, g0_steps, u3.2.2), rfl, hw, by rw [ht]; exact hP, va_K.moved hW.alike hK, hD⟩, hS.F ht⟩) hS.2.2 dX11_readLine_46
      · have hw := hw.2 hc
        refine lv_goto (tgt := 41) hx hb dX11_readLine_30 (by decide) ?_
        refine lv_iconst (v := 1) hx hb dX11_readLine_41 (by decide) ?_
        refine lv_goto (tgt := 46) hx hb dX11_readLine_42 (by decide) ?_
        rw [hQ]
        exact W.zret (v := 1) (ty := .boolean) hx hb hr rfl (fun t ht hW => ⟨⟨1, (u3.1, u3.2.1, g0_deep, g0_steps, u3.2.2), rfl, hw, by rw [ht]; exact hP, va_K.moved hW.alike hK, hD⟩, hS.F ht⟩) hS.2.2 dX11_readLine_46
set_option maxRecDepth 100000 in
set_option maxHeartbeats 4000000 in
theorem ctX11_readLine (l : Launch) (dC : Nat → ClassId) (dI : Nat → Nat → Nat) (cyI cyB cyJ cyZ : ClassId) (sz : Nat) (a0 a1 a2 b0_image b0_before b0_taken b0_five b0_value b0_far b0_lead b0_walk b0_ends b0_manX b0_manY b0_dogX b0_dogY b0_row b0_round b0_farOne b0_leads b0_drags b0_from b0_near : Nat) (g0_thrown : Int32) (g0_hasImage : Int32) (g0_remembered : Int32) (g0_taped : Int32) (g0_faultAt : Int32) (g0_men : Int32) (g0_dogs : Int32) (g0_end : Int32) (f1 : Nat → Int32) (g0_point : Int32) (g0_begin : Int32) (g0_deep : Int32) (g0_steps : Int32) (f2 : Nat → Int32) (p0 : Int32) (p1 : Int32) (post : Int32 → (Int32 × Int32 × Int32 × Int32 × (Nat → Int32)) → Prop) (adS : Nat → Nat) (hw : wpX11_readLine post g0_end f1 g0_point g0_begin g0_deep g0_steps f2 p0 p1) : Met l yX11_readLine wsX11_readLine rmX11_readLine (va_Pc [.ref a0, .int p0, .int p1] (wPreX dC dI cyI cyB cyJ cyZ sz (ceX11_readLine cyI cyB cyJ cyZ a0 a1 a2 b0_image b0_before b0_taken b0_five b0_value b0_far b0_lead b0_walk b0_ends b0_manX b0_manY b0_dogX b0_dogY b0_row b0_round b0_farOne b0_leads b0_drags b0_from b0_near g0_thrown g0_hasImage g0_remembered g0_taped g0_faultAt g0_men g0_dogs g0_end f1 g0_point g0_begin g0_deep g0_steps f2) (txA adS))) (va_Qi post (fun u : Int32 × Int32 × Int32 × Int32 × (Nat → Int32) => wAt dC dI cyI cyB cyJ cyZ (va_A (ceX11_readLine cyI cyB cyJ cyZ a0 a1 a2 b0_image b0_before b0_taken b0_five b0_value b0_far b0_lead b0_walk b0_ends b0_manX b0_manY b0_dogX b0_dogY b0_row b0_round b0_farOne b0_leads b0_drags b0_from b0_near g0_thrown g0_hasImage g0_remembered g0_taped g0_faultAt g0_men g0_dogs g0_end f1 g0_point g0_begin g0_deep g0_steps f2) sz) (ceX11_readLine cyI cyB cyJ cyZ a0 a1 a2 b0_image b0_before b0_taken b0_five b0_value b0_far b0_lead b0_walk b0_ends b0_manX b0_manY b0_dogX b0_dogY b0_row b0_round b0_farOne b0_leads b0_drags b0_from b0_near g0_thrown g0_hasImage g0_remembered g0_taped g0_faultAt g0_men g0_dogs g0_end f1 u.1 u.2.1 u.2.2.1 u.2.2.2.1 u.2.2.2.2)) (va_A (ceX11_readLine cyI cyB cyJ cyZ a0 a1 a2 b0_image b0_before b0_taken b0_five b0_value b0_far b0_lead b0_walk b0_ends b0_manX b0_manY b0_dogX b0_dogY b0_row b0_round b0_farOne b0_leads b0_drags b0_from b0_near g0_thrown g0_hasImage g0_remembered g0_taped g0_faultAt g0_men g0_dogs g0_end f1 g0_point g0_begin g0_deep g0_steps f2) sz)) 0 0 (va_A (ceX11_readLine cyI cyB cyJ cyZ a0 a1 a2 b0_image b0_before b0_taken b0_five b0_value b0_far b0_lead b0_walk b0_ends b0_manX b0_manY b0_dogX b0_dogY b0_row b0_round b0_farOne b0_leads b0_drags b0_from b0_near g0_thrown g0_hasImage g0_remembered g0_taped g0_faultAt g0_men g0_dogs g0_end f1 g0_point g0_begin g0_deep g0_steps f2) sz) := by
  refine Met.ofW (cc := cX11_readLine) (maxL := 3) (ret := (some .boolean)) (by decide) rfl ?_
  intro p e s m args below meth c s₁ B hml hv
  obtain ⟨rfl, ⟨hsz, hP, hK, hD0, hN⟩, hXs⟩ := hv
  have hx := B.exec
  have hb := B.bytes
  have hr := B.returns
  have hts := atoms_spec (ws := wsX11_readLine) B.pre
  have hown : s.vm.findClass RX11 = some m.cls := findClass_of_methodNamed B.named
  have hlocks := B.notSynchronized
  subst hsz
  have hD := hD0.self (sz := s.heap.size)
  generalize hAe : va_A (ceX11_readLine cyI cyB cyJ cyZ a0 a1 a2 b0_image b0_before b0_taken b0_five b0_value b0_far b0_lead b0_walk b0_ends b0_manX b0_manY b0_dogX b0_dogY b0_row b0_round b0_farOne b0_leads b0_drags b0_from b0_near g0_thrown g0_hasImage g0_remembered g0_taped g0_faultAt g0_men g0_dogs g0_end f1 g0_point g0_begin g0_deep g0_steps f2) s.heap.size = A at hD hXs ⊢
  have hA : ∀ q : Nat, s.heap.size ≤ q → A q := fun q h => by rw [← hAe]; exact Or.inr h
  have hS : va_S A s.heap s.heap [] := va_S.rf
  have C0 : cxM p s m meth c _ wsX11_readLine RX11 cX11_readLine 3 (some .boolean) := ⟨hx, hb, hr, hml, hown, hts, hlocks⟩
  have hl := lv_entry ([.ref a0, .int p0, .int p1]) (n := 3) (Nat.le_of_ble_eq_true rfl)
  rw [lg_entry_eq]
  generalize (lg_sl ([.ref a0, .int p0, .int p1]) ++ List.replicate (3 - (lg_sl ([.ref a0, .int p0, .int p1])).length) Slot.unset).toArray = ls at hl ⊢
  have hl : lv_has ls 3 [(0, .ref a0), (1, .int p0), (2, .int p1)] := hl
  show W p l e rmX11_readLine s m _ below meth c _ _ _ _ _ _
  refine wq (fun Q hQ => ?_)
  refine lv_aload_n hx hb dX11_readLine_0 rfl (lv_at hl 0 rfl) ?_
  have hPc := hP.sub (ws' := (ceX11_letters cyI cyB cyJ cyZ a0 a1 a2 b0_image b0_before b0_taken b0_five b0_value b0_far b0_lead b0_walk b0_ends b0_manX b0_manY b0_dogX b0_dogY b0_row b0_round b0_farOne b0_leads b0_drags b0_from b0_near g0_thrown g0_hasImage g0_remembered g0_taped g0_deep g0_faultAt g0_steps g0_men g0_dogs g0_end f1 g0_point g0_begin)) [0, 1] rfl
  have hDc := hD.sub (ws' := (ceX11_letters cyI cyB cyJ cyZ a0 a1 a2 b0_image b0_before b0_taken b0_five b0_value b0_far b0_lead b0_walk b0_ends b0_manX b0_manY b0_dogX b0_dogY b0_row b0_round b0_farOne b0_leads b0_drags b0_from b0_near g0_thrown g0_hasImage g0_remembered g0_taped g0_deep g0_faultAt g0_steps g0_men g0_dogs g0_end f1 g0_point g0_begin)) [0, 1] (by decide) rfl
  have hFc := va_free (wc := (ceX11_letters cyI cyB cyJ cyZ a0 a1 a2 b0_image b0_before b0_taken b0_five b0_value b0_far b0_lead b0_walk b0_ends b0_manX b0_manY b0_dogX b0_dogY b0_row b0_round b0_farOne b0_leads b0_drags b0_from b0_near g0_thrown g0_hasImage g0_remembered g0_taped g0_deep g0_faultAt g0_steps g0_men g0_dogs g0_end f1 g0_point g0_begin)) hD hS hA [0, 1] rfl
  refine va_callv (va_runV (As := []) (rest := []) ⟨hx, hb, hml, hown, hts⟩ (ctX11_letters l dC dI cyI cyB cyJ cyZ _ a0 a1 a2 b0_image b0_before b0_taken b0_five b0_value b0_far b0_lead b0_walk b0_ends b0_manX b0_manY b0_dogX b0_dogY b0_row b0_round b0_farOne b0_leads b0_drags b0_from b0_near g0_thrown g0_hasImage g0_remembered g0_taped g0_deep g0_faultAt g0_steps g0_men g0_dogs g0_end f1 g0_point g0_begin _ hw) (cwV 0 hts gX11_readLine_X11_letters rfl rfl rfl (by decide +kernel) ⟨Nat.le_of_ble_eq_true rfl, Nat.le_of_ble_eq_true rfl⟩) ⟨wPre_blind, va_recv hK hPc (ci := 11) (q0 := 0) rfl rfl, fun U hU hW => wPre_of hPc hK hDc hN hU hW⟩ rfl rfl hl.1 rfl (lv_room (Nat.le_of_ble_eq_true rfl)) dX11_readLine_1 ⟨(Nat.zero_le _), (Nat.zero_le _)⟩) hS (fun q _ h => hFc q h) hFc (fun u1 t H1 locs ht hvm hw hB hz1 hk1 hS => ?_)
  obtain ⟨hP1, hK1, hD1⟩ := hB
  rw [ht] at hP1
  obtain ⟨hP, hD⟩ := va_join (wr := pickW (ceX11_readLine cyI cyB cyJ cyZ a0 a1 a2 b0_image b0_before b0_taken b0_five b0_value b0_far b0_lead b0_walk b0_ends b0_manX b0_manY b0_dogX b0_dogY b0_row b0_round b0_farOne b0_leads b0_drags b0_from b0_near g0_thrown g0_hasImage g0_remembered g0_taped g0_faultAt g0_men g0_dogs g0_end f1 g0_point g0_begin g0_deep g0_steps f2) [2]) (w1 := (ceX11_letters cyI cyB cyJ cyZ a0 a1 a2 b0_image b0_before b0_taken b0_five b0_value b0_far b0_lead b0_walk b0_ends b0_manX b0_manY b0_dogX b0_dogY b0_row b0_round b0_farOne b0_leads b0_drags b0_from b0_near g0_thrown g0_hasImage g0_remembered g0_taped g0_deep g0_faultAt g0_steps g0_men g0_dogs g0_end f1 u1.1 u1.2)) hP hD [0, 1] [2] rfl rfl (by decide) (by decide) hk1 hFc hP1 hD1
  have hP := hP.sub (ws' := (ceX11_readLine cyI cyB cyJ cyZ a0 a1 a2 b0_image b0_before b0_taken b0_five b0_value b0_far b0_lead b0_walk b0_ends b0_manX b0_manY b0_dogX b0_dogY b0_row b0_round b0_farOne b0_leads b0_drags b0_from b0_near g0_thrown g0_hasImage g0_remembered g0_taped g0_faultAt g0_men g0_dogs g0_end f1 u1.1 u1.2 g0_deep g0_steps f2)) [1, 2, 0] rfl
  have hD := hD.sub (ws' := (ceX11_readLine cyI cyB cyJ cyZ a0 a1 a2 b0_image b0_before b0_taken b0_five b0_value b0_far b0_lead b0_walk b0_ends b0_manX b0_manY b0_dogX b0_dogY b0_row b0_round b0_farOne b0_leads b0_drags b0_from b0_near g0_thrown g0_hasImage g0_remembered g0_taped g0_faultAt g0_men g0_dogs g0_end f1 u1.1 u1.2 g0_deep g0_steps f2)) [1, 2, 0] (by decide) rfl
  generalize H1 = H at hP hS ⊢
  refine lv_iload_n hx hb dX11_readLine_4 rfl (lv_at hl 2 rfl) ?_
  refine lv_iload_n hx hb dX11_readLine_5 rfl (lv_at hl 1 rfl) ?_
  refine lv_if_eq (tgt := 14) hx hb dX11_readLine_6 (by decide) (fun hc => ?_) (fun hc => ?_)
  · have hw := hw.1 hc
    refine lv_bipush (v := 12) hx hb dX11_readLine_14 (by decide) ?_
    exact bX11_readLine_16 C0 hK hN hA hXs hQ u1.1 u1.2 g0_deep g0_steps f2 p0 p1 p1 12 hw _ _ hP hD hS ls (lv_sub hl [0, 1, 2] rfl)
  · have hw := hw.2 hc
    refine lv_bipush (v := 14) hx hb dX11_readLine_9 (by decide) ?_
    refine lv_goto (tgt := 16) hx hb dX11_readLine_11 (by decide) ?_
    exact bX11_readLine_16 C0 hK hN hA hXs hQ u1.1 u1.2 g0_deep g0_steps f2 p0 p1 p1 14 hw _ _ hP hD hS ls (lv_sub hl [0, 1, 2] rfl)
/-! LeadParkModel.readAll (Z)I -/
abbrev ceX11_readAll (cyI cyB cyJ cyZ : ClassId) (a0 a1 a2 b0_image b0_before b0_taken b0_five b0_value b0_far b0_lead b0_walk b0_ends b0_manX b0_manY b0_dogX b0_dogY b0_row b0_round b0_farOne b0_leads b0_drags b0_from b0_near : Nat) (g0_hasImage : Int32) (g0_remembered : Int32) (g0_faultAt : Int32) (g0_men : Int32) (g0_dogs : Int32) (f1 : Nat → Int32) (g0_thrown : Int32) (g0_taped : Int32) (g0_point : Int32) (g0_end : Int32) (g0_begin : Int32) (g0_deep : Int32) (g0_steps : Int32) (f2 : Nat → Int32) : va_W := [(a0, .inr (11, [.int g0_thrown, .ref a2, .ref b0_image, .ref b0_before, .int g0_hasImage, .ref b0_taken, .int g0_remembered, .ref a1, .int g0_taped, .int g0_point, .int g0_end, .int g0_begin, .int g0_deep, .int g0_faultAt, .ref b0_five, .int g0_steps, .ref b0_value, .ref b0_far, .int g0_men, .int g0_dogs, .ref b0_lead, .ref b0_walk, .ref b0_ends, .ref b0_manX, .ref b0_manY, .ref b0_dogX, .ref b0_dogY, .ref b0_row, .ref b0_round, .ref b0_farOne, .ref b0_leads, .ref b0_drags, .ref b0_from, .ref b0_near])), (a1, .inl (cyB, 400, .inl f1)), (a2, .inl (cyI, 2508, .inl f2))]

theorem inX11_readAll_X11 : ∀ w ∈ wsX110, w ∈ wsX11_readAll := fun _ h => List.mem_cons_of_mem _ (List.mem_append_right _ h)
abbrev rmX11_readAll : Room := { frames := 63, cells := 0, slots := 0, locals := 4064 }
def wpX11_readAll_28 (post : Int32 → (Int32 × Int32 × Int32 × Int32 × Int32 × Int32 × Int32 × (Nat → Int32)) → Prop) (f1 : Nat → Int32) : Nat → Int32 → Int32 → Int32 → Int32 → Int32 → Int32 → Int32 → (Nat → Int32) → Int32 → Int32 → Prop
  | 0, _, _, _, _, _, _, _, _, _, _ => False
  | n_28 + 1, g0_thrown, g0_taped, g0_point, g0_end, g0_begin, g0_deep, g0_steps, f2, x1, x2 =>
    wpX11_readLine (fun (r2 : Int32) (u1 : Int32 × Int32 × Int32 × Int32 × (Nat → Int32)) =>
     (¬ r2 = 0 →
      wpX11_blanks (fun (u3 : Int32 × Int32) =>
       (¬ u3.1 = g0_end →
        wpX11_isAt (fun (r5 : Int32) (u4 : Unit) =>
         (¬ r5 = 0 →
          ∀ v6 : Int32, v6 = u3.1 + 1 →
          ∀ v7 : Int32, v7 = x2 + 1 →
          wpX11_readAll_28 post f1 n_28 g0_thrown g0_taped v6 g0_end u3.2 u1.2.2.1 u1.2.2.2.1 u1.2.2.2.2 x1 v7) ∧
         (r5 = 0 →
          post (-1) (g0_thrown, g0_taped, u3.1, g0_end, u3.2, u1.2.2.1, u1.2.2.2.1, u1.2.2.2.2))) u3.1 g0_end f1 59 59) ∧
       (u3.1 = g0_end →
        post (x2 + 1) (g0_thrown, g0_taped, u3.1, g0_end, u3.2, u1.2.2.1, u1.2.2.2.1, u1.2.2.2.2))) g0_end f1 u1.1 u1.2.1) ∧
     (r2 = 0 →
      post (-1) (g0_thrown, g0_taped, u1.1, g0_end, u1.2.1, u1.2.2.1, u1.2.2.2.1, u1.2.2.2.2))) g0_end f1 g0_point g0_begin g0_deep g0_steps f2 x1 x2
def wpX11_readAll (post : Int32 → (Int32 × Int32 × Int32 × Int32 × Int32 × Int32 × Int32 × (Nat → Int32)) → Prop) (f1 : Nat → Int32) (g0_thrown : Int32) (g0_taped : Int32) (g0_point : Int32) (g0_end : Int32) (g0_begin : Int32) (g0_deep : Int32) (g0_steps : Int32) (f2 : Nat → Int32) (p0 : Int32) : Prop :=
  wpX11_uses (fun (u1 : Int32 × Int32 × Int32 × Int32) =>
   wpX11_blanks (fun (u2 : Int32 × Int32) =>
    (¬ u2.1 = u1.2.2.2 →
     ∃ n_28 : Nat, wpX11_readAll_28 post f1 n_28 u1.1 u1.2.1 u2.1 u1.2.2.2 u2.2 g0_deep 0 f2 p0 0) ∧
    (u2.1 = u1.2.2.2 →
     post 0 (u1.1, u1.2.1, u2.1, u1.2.2.2, u2.2, g0_deep, 0, f2))) u1.2.2.2 f1 u1.2.2.1 g0_begin) g0_thrown g0_taped g0_point g0_end
set_option maxRecDepth 100000 in
set_option maxHeartbeats 4000000 in
theorem bX11_readAll_28 {p : Program} {l : Launch} {e : Env} {s : State} {m : MethodId} {args : Array Value} {below : List Frame} {meth : Method} {c : Code} {dC : Nat → ClassId} {dI : Nat → Nat → Nat} {cyI cyB cyJ cyZ : ClassId} {A : Nat → Prop} {a0 a1 a2 b0_image b0_before b0_taken b0_five b0_value b0_far b0_lead b0_walk b0_ends b0_manX b0_manY b0_dogX b0_dogY b0_row b0_round b0_farOne b0_leads b0_drags b0_from b0_near : Nat} {g0_hasImage : Int32} {g0_remembered : Int32} {g0_faultAt : Int32} {g0_men : Int32} {g0_dogs : Int32} {adS : Nat → Nat} (C0 : cxM p s m meth c args wsX11_readAll RX11 cX11_readAll 3 (some .int)) (hK : va_K (dC, dI) vwCl (tyA cyI cyB cyJ cyZ) s) (hN : nwA s) (hA : ∀ q : Nat, s.heap.size ≤ q → A q) (hXs : (txA adS) A s s.heap) {post : Int32 → (Int32 × Int32 × Int32 × Int32 × Int32 × Int32 × Int32 × (Nat → Int32)) → Prop} {f1 : Nat → Int32} {Q : State → Prop} (hQ : Q = MQ below (va_Qi post (fun u : Int32 × Int32 × Int32 × Int32 × Int32 × Int32 × Int32 × (Nat → Int32) => wAt dC dI cyI cyB cyJ cyZ A (ceX11_readAll cyI cyB cyJ cyZ a0 a1 a2 b0_image b0_before b0_taken b0_five b0_value b0_far b0_lead b0_walk b0_ends b0_manX b0_manY b0_dogX b0_dogY b0_row b0_round b0_farOne b0_leads b0_drags b0_from b0_near g0_hasImage g0_remembered g0_faultAt g0_men g0_dogs f1 u.1 u.2.1 u.2.2.1 u.2.2.2.1 u.2.2.2.2.1 u.2.2.2.2.2.1 u.2.2.2.2.2.2.1 u.2.2.2.2.2.2.2)) A) args s 0 0 A) : ∀ (n : Nat) (g0_thrown : Int32) (g0_taped : Int32) (g0_point : Int32) (g0_end : Int32) (g0_begin : Int32) (g0_deep : Int32) (g0_steps : Int32) (f2 : Nat → Int32) (x1 : Int32) (x2 : Int32), wpX11_readAll_28 post f1 n g0_thrown g0_taped g0_point g0_end g0_begin g0_deep g0_steps f2 x1 x2 → AtW p l e rmX11_readAll s m args below meth c dC dI A Q 3 0 0 (ceX11_readAll cyI cyB cyJ cyZ a0 a1 a2 b0_image b0_before b0_taken b0_five b0_value b0_far b0_lead b0_walk b0_ends b0_manX b0_manY b0_dogX b0_dogY b0_row b0_round b0_farOne b0_leads b0_drags b0_from b0_near g0_hasImage g0_remembered g0_faultAt g0_men g0_dogs f1 g0_thrown g0_taped g0_point g0_end g0_begin g0_deep g0_steps f2) [(0, .ref a0), (1, .int x1), (2, .int x2)] 28 [] := by
  intro n
  induction n with
  | zero => intro g0_thrown g0_taped g0_point g0_end g0_begin g0_deep g0_steps f2 x1 x2 hw; exact False.elim hw
  | succ n ih =>
    intro g0_thrown g0_taped g0_point g0_end g0_begin g0_deep g0_steps f2 x1 x2 hw H locs hP hD hS ls hl
    have C1 := C0
    obtain ⟨hx, hb, hr, hml, hown, hts, hlocks⟩ := C1
    refine lv_aload_n hx hb dX11_readAll_28 rfl (lv_at hl 0 rfl) ?_
    refine lv_iload_n hx hb dX11_readAll_29 rfl (lv_at hl 1 rfl) ?_
    refine lv_iload_n hx hb dX11_readAll_30 rfl (lv_at hl 2 rfl) ?_
    have hPc := hP.sub (ws' := (ceX11_readLine cyI cyB cyJ cyZ a0 a1 a2 b0_image b0_before b0_taken b0_five b0_value b0_far b0_lead b0_walk b0_ends b0_manX b0_manY b0_dogX b0_dogY b0_row b0_round b0_farOne b0_leads b0_drags b0_from b0_near g0_thrown g0_hasImage g0_remembered g0_taped g0_faultAt g0_men g0_dogs g0_end f1 g0_point g0_begin g0_deep g0_steps f2)) [0, 1, 2] rfl
    have hDc := hD.sub (ws' := (ceX11_readLine cyI cyB cyJ cyZ a0 a1 a2 b0_image b0_before b0_taken b0_five b0_value b0_far b0_lead b0_walk b0_ends b0_manX b0_manY b0_dogX b0_dogY b0_row b0_round b0_farOne b0_leads b0_drags b0_from b0_near g0_thrown g0_hasImage g0_remembered g0_taped g0_faultAt g0_men g0_dogs g0_end f1 g0_point g0_begin g0_deep g0_steps f2)) [0, 1, 2] (by decide) rfl
    have hFc := va_free (wc := (ceX11_readLine cyI cyB cyJ cyZ a0 a1 a2 b0_image b0_before b0_taken b0_five b0_value b0_far b0_lead b0_walk b0_ends b0_manX b0_manY b0_dogX b0_dogY b0_row b0_round b0_farOne b0_leads b0_drags b0_from b0_near g0_thrown g0_hasImage g0_remembered g0_taped g0_faultAt g0_men g0_dogs g0_end f1 g0_point g0_begin g0_deep g0_steps f2)) hD hS hA [0, 1, 2] rfl
    refine va_calli (va_runV (As := [.int x1, .int x2]) (rest := []) ⟨hx, hb, hml, hown, hts⟩ (ctX11_readLine l dC dI cyI cyB cyJ cyZ _ a0 a1 a2 b0_image b0_before b0_taken b0_five b0_value b0_far b0_lead b0_walk b0_ends b0_manX b0_manY b0_dogX b0_dogY b0_row b0_round b0_farOne b0_leads b0_drags b0_from b0_near g0_thrown g0_hasImage g0_remembered g0_taped g0_faultAt g0_men g0_dogs g0_end f1 g0_point g0_begin g0_deep g0_steps f2 x1 x2 _ adS hw) (cwV 2 hts gX11_readAll_X11_readLine rfl rfl rfl (by decide +kernel) ⟨Nat.le_of_ble_eq_true rfl, Nat.le_of_ble_eq_true rfl⟩) ⟨wPreX_blind (xOk_txA adS), va_recv hK hPc (ci := 11) (q0 := 0) rfl rfl, fun U hU hW => wPreX_of (xOk_txA adS) hPc hK hDc hN hXs hS hFc hU hW⟩ rfl rfl hl.1 rfl (lv_room (Nat.le_of_ble_eq_true rfl)) dX11_readAll_31 ⟨(Nat.zero_le _), (Nat.zero_le _)⟩) hS (fun q _ h => hFc q h) hFc (fun r2 u1 t H1 locs ht hvm hw hB hz1 hk1 hS => ?_)
    obtain ⟨hP1, hK1, hD1⟩ := hB
    rw [ht] at hP1
    obtain ⟨hP, hD⟩ := va_join (wr := pickW (ceX11_readAll cyI cyB cyJ cyZ a0 a1 a2 b0_image b0_before b0_taken b0_five b0_value b0_far b0_lead b0_walk b0_ends b0_manX b0_manY b0_dogX b0_dogY b0_row b0_round b0_farOne b0_leads b0_drags b0_from b0_near g0_hasImage g0_remembered g0_faultAt g0_men g0_dogs f1 g0_thrown g0_taped g0_point g0_end g0_begin g0_deep g0_steps f2) []) (w1 := (ceX11_readLine cyI cyB cyJ cyZ a0 a1 a2 b0_image b0_before b0_taken b0_five b0_value b0_far b0_lead b0_walk b0_ends b0_manX b0_manY b0_dogX b0_dogY b0_row b0_round b0_farOne b0_leads b0_drags b0_from b0_near g0_thrown g0_hasImage g0_remembered g0_taped g0_faultAt g0_men g0_dogs g0_end f1 u1.1 u1.2.1 u1.2.2.1 u1.2.2.2.1 u1.2.2.2.2)) hP hD [0, 1, 2] [] rfl rfl (by decide) (by decide) hk1 hFc hP1 hD1
    have hP := hP.sub (ws' := (ceX11_readAll cyI cyB cyJ cyZ a0 a1 a2 b0_image b0_before b0_taken b0_five b0_value b0_far b0_lead b0_walk b0_ends b0_manX b0_manY b0_dogX b0_dogY b0_row b0_round b0_farOne b0_leads b0_drags b0_from b0_near g0_hasImage g0_remembered g0_faultAt g0_men g0_dogs f1 g0_thrown g0_taped u1.1 g0_end u1.2.1 u1.2.2.1 u1.2.2.2.1 u1.2.2.2.2)) [0, 1, 2] rfl
    have hD := hD.sub (ws' := (ceX11_readAll cyI cyB cyJ cyZ a0 a1 a2 b0_image b0_before b0_taken b0_five b0_value b0_far b0_lead b0_walk b0_ends b0_manX b0_manY b0_dogX b0_dogY b0_row b0_round b0_farOne b0_leads b0_drags b0_from b0_near g0_hasImage g0_remembered g0_faultAt g0_men g0_dogs f1 g0_thrown g0_taped u1.1 g0_end u1.2.1 u1.2.2.1 u1.2.2.2.1 u1.2.2.2.2)) [0, 1, 2] (by decide) rfl
    generalize H1 = H at hP hS ⊢
    refine lv_if_ne (tgt := 39) hx hb dX11_readAll_34 (by decide) (fun hc => ?_) (fun hc => ?_)
    · have hw := hw.1 hc
      refine lv_aload_n hx hb dX11_readAll_39 rfl (lv_at hl 0 rfl) ?_
      have hPc := hP.sub (ws' := (ceX11_blanks cyI cyB cyJ cyZ a0 a1 a2 b0_image b0_before b0_taken b0_five b0_value b0_far b0_lead b0_walk b0_ends b0_manX b0_manY b0_dogX b0_dogY b0_row b0_round b0_farOne b0_leads b0_drags b0_from b0_near g0_thrown g0_hasImage g0_remembered g0_taped u1.2.2.1 g0_faultAt u1.2.2.2.1 g0_men g0_dogs g0_end f1 u1.1 u1.2.1)) [0, 1] rfl
      have hDc := hD.sub (ws' := (ceX11_blanks cyI cyB cyJ cyZ a0 a1 a2 b0_image b0_before b0_taken b0_five b0_value b0_far b0_lead b0_walk b0_ends b0_manX b0_manY b0_dogX b0_dogY b0_row b0_round b0_farOne b0_leads b0_drags b0_from b0_near g0_thrown g0_hasImage g0_remembered g0_taped u1.2.2.1 g0_faultAt u1.2.2.2.1 g0_men g0_dogs g0_end f1 u1.1 u1.2.1)) [0, 1] (by decide) rfl
      have hFc := va_free (wc := (ceX11_blanks cyI cyB cyJ cyZ a0 a1 a2 b0_image b0_before b0_taken b0_five b0_value b0_far b0_lead b0_walk b0_ends b0_manX b0_manY b0_dogX b0_dogY b0_row b0_round b0_farOne b0_leads b0_drags b0_from b0_near g0_thrown g0_hasImage g0_remembered g0_taped u1.2.2.1 g0_faultAt u1.2.2.2.1 g0_men g0_dogs g0_end f1 u1.1 u1.2.1)) hD hS hA [0, 1] rfl
      refine va_callv (va_runV (As := []) (rest := []) ⟨hx, hb, hml, hown, hts⟩ (ctX11_blanks l dC dI cyI cyB cyJ cyZ _ a0 a1 a2 b0_image b0_before b0_taken b0_five b0_value b0_far b0_lead b0_walk b0_ends b0_manX b0_manY b0_dogX b0_dogY b0_row b0_round b0_farOne b0_leads b0_drags b0_from b0_near g0_thrown g0_hasImage g0_remembered g0_taped u1.2.2.1 g0_faultAt u1.2.2.2.1 g0_men g0_dogs g0_end f1 u1.1 u1.2.1 _ hw) (cwV 0 hts gX11_readAll_X11_blanks rfl rfl rfl (by decide +kernel) ⟨Nat.le_of_ble_eq_true rfl, Nat.le_of_ble_eq_true rfl⟩) ⟨wPre_blind, va_recv hK hPc (ci := 11) (q0 := 0) rfl rfl, fun U hU hW => wPre_of hPc hK hDc hN hU hW⟩ rfl rfl hl.1 rfl (lv_room (Nat.le_of_ble_eq_true rfl)) dX11_readAll_40 ⟨(Nat.zero_le _), (Nat.zero_le _)⟩) hS (fun q _ h => hFc q h) hFc (fun u3 t H1 locs ht hvm hw hB hz1 hk1 hS => ?_)
      obtain ⟨hP1, hK1, hD1⟩ := hB
      rw [ht] at hP1
      obtain ⟨hP, hD⟩ := va_join (wr := pickW (ceX11_readAll cyI cyB cyJ cyZ a0 a1 a2 b0_image b0_before b0_taken b0_five b0_value b0_far b0_lead b0_walk b0_ends b0_manX b0_manY b0_dogX b0_dogY b0_row b0_round b0_farOne b0_leads b0_drags b0_from b0_near g0_hasImage g0_remembered g0_faultAt g0_men g0_dogs f1 g0_thrown g0_taped u1.1 g0_end u1.2.1 u1.2.2.1 u1.2.2.2.1 u1.2.2.2.2) [2]) (w1 := (ceX11_blanks cyI cyB cyJ cyZ a0 a1 a2 b0_image b0_before b0_taken b0_five b0_value b0_far b0_lead b0_walk b0_ends b0_manX b0_manY b0_dogX b0_dogY b0_row b0_round b0_farOne b0_leads b0_drags b0_from b0_near g0_thrown g0_hasImage g0_remembered g0_taped u1.2.2.1 g0_faultAt u1.2.2.2.1 g0_men g0_dogs g0_end f1 u3.1 u3.2)) hP hD [0, 1] [2] rfl rfl (by decide) (by decide) hk1 hFc hP1 hD1
      have hP := hP.sub (ws' := (ceX11_readAll cyI cyB cyJ cyZ a0 a1 a2 b0_image b0_before b0_taken b0_five b0_value b0_far b0_lead b0_walk b0_ends b0_manX b0_manY b0_dogX b0_dogY b0_row b0_round b0_farOne b0_leads b0_drags b0_from b0_near g0_hasImage g0_remembered g0_faultAt g0_men g0_dogs f1 g0_thrown g0_taped u3.1 g0_end u3.2 u1.2.2.1 u1.2.2.2.1 u1.2.2.2.2)) [1, 2, 0] rfl
      have hD := hD.sub (ws' := (ceX11_readAll cyI cyB cyJ cyZ a0 a1 a2 b0_image b0_before b0_taken b0_five b0_value b0_far b0_lead b0_walk b0_ends b0_manX b0_manY b0_dogX b0_dogY b0_row b0_round b0_farOne b0_leads b0_drags b0_from b0_near g0_hasImage g0_remembered g0_faultAt g0_men g0_dogs f1 g0_thrown g0_taped u3.1 g0_end u3.2 u1.2.2.1 u1.2.2.2.1 u1.2.2.2.2)) [1, 2, 0] (by decide) rfl
      generalize H1 = H at hP hS ⊢
      refine lv_aload_n hx hb dX11_readAll_43 rfl (lv_at hl 0 rfl) ?_
      refine va_get (D := (dC, dI)) (ci := 11) (v := .int u3.1) (C := RX11) (T := TX11) (N := 34) hx hb hts inX11_readAll_X11 hown hK hP 0 rfl rfl 9 (by decide) (hts (.fieldLink RX11 112 "LeadParkModel" "point" "I") (List.mem_of_getElem? (i := 2) rfl)) (fun _ h9 => h9) rfl dX11_readAll_44 ?_
      refine lv_aload_n hx hb dX11_readAll_47 rfl (lv_at hl 0 rfl) ?_
      refine va_get (D := (dC, dI)) (ci := 11) (v := .int g0_end) (C := RX11) (T := TX11) (N := 34) hx hb hts inX11_readAll_X11 hown hK hP 0 rfl rfl 10 (by decide) (hts (.fieldLink RX11 115 "LeadParkModel" "end" "I") (List.mem_of_getElem? (i := 3) rfl)) (fun _ h9 => h9) rfl dX11_readAll_48 ?_
      refine lv_icmp_ne (tgt := 58) hx hb dX11_readAll_51 (by decide) (fun hc => ?_) (fun hc => ?_)
      · have hw := hw.1 hc
        refine lv_aload_n hx hb dX11_readAll_58 rfl (lv_at hl 0 rfl) ?_
        refine lv_bipush (v := 59) hx hb dX11_readAll_59 (by decide) ?_
        refine lv_bipush (v := 59) hx hb dX11_readAll_61 (by decide) ?_
        have hPc := hP.sub (ws' := (ceX11_isAt cyI cyB cyJ cyZ a0 a1 a2 b0_image b0_before b0_taken b0_five b0_value b0_far b0_lead b0_walk b0_ends b0_manX b0_manY b0_dogX b0_dogY b0_row b0_round b0_farOne b0_leads b0_drags b0_from b0_near g0_thrown g0_hasImage g0_remembered g0_taped u3.2 u1.2.2.1 g0_faultAt u1.2.2.2.1 g0_men g0_dogs u3.1 g0_end f1)) [0, 1] rfl
        have hDc := hD.sub (ws' := (ceX11_isAt cyI cyB cyJ cyZ a0 a1 a2 b0_image b0_before b0_taken b0_five b0_value b0_far b0_lead b0_walk b0_ends b0_manX b0_manY b0_dogX b0_dogY b0_row b0_round b0_farOne b0_leads b0_drags b0_from b0_near g0_thrown g0_hasImage g0_remembered g0_taped u3.2 u1.2.2.1 g0_faultAt u1.2.2.2.1 g0_men g0_dogs u3.1 g0_end f1)) [0, 1] (by decide) rfl
        have hFc := va_free (wc := (ceX11_isAt cyI cyB cyJ cyZ a0 a1 a2 b0_image b0_before b0_taken b0_five b0_value b0_far b0_lead b0_walk b0_ends b0_manX b0_manY b0_dogX b0_dogY b0_row b0_round b0_farOne b0_leads b0_drags b0_from b0_near g0_thrown g0_hasImage g0_remembered g0_taped u3.2 u1.2.2.1 g0_faultAt u1.2.2.2.1 g0_men g0_dogs u3.1 g0_end f1)) hD hS hA [0, 1] rfl
        refine va_calli (va_runV (As := [.int 59, .int 59]) (rest := []) ⟨hx, hb, hml, hown, hts⟩ (ctX11_isAt l dC dI cyI cyB cyJ cyZ _ a0 a1 a2 b0_image b0_before b0_taken b0_five b0_value b0_far b0_lead b0_walk b0_ends b0_manX b0_manY b0_dogX b0_dogY b0_row b0_round b0_farOne b0_leads b0_drags b0_from b0_near g0_thrown g0_hasImage g0_remembered g0_taped u3.2 u1.2.2.1 g0_faultAt u1.2.2.2.1 g0_men g0_dogs u3.1 g0_end f1 59 59 _ hw) (cwV 2 hts gX11_readAll_X11_isAt rfl rfl rfl (by decide +kernel) ⟨Nat.le_of_ble_eq_true rfl, Nat.le_of_ble_eq_true rfl⟩) ⟨wPre_blind, va_recv hK hPc (ci := 11) (q0 := 0) rfl rfl, fun U hU hW => wPre_of hPc hK hDc hN hU hW⟩ rfl rfl hl.1 rfl (lv_room (Nat.le_of_ble_eq_true rfl)) dX11_readAll_63 ⟨(Nat.zero_le _), (Nat.zero_le _)⟩) hS (fun q _ h => hFc q h) hFc (fun r5 u4 t H1 locs ht hvm hw hB hz1 hk1 hS => ?_)
        obtain ⟨hP1, hK1, hD1⟩ := hB
        rw [ht] at hP1
        obtain ⟨hP, hD⟩ := va_join (wr := pickW (ceX11_readAll cyI cyB cyJ cyZ a0 a1 a2 b0_image b0_before b0_taken b0_five b0_value b0_far b0_lead b0_walk b0_ends b0_manX b0_manY b0_dogX b0_dogY b0_row b0_round b0_farOne b0_leads b0_drags b0_from b0_near g0_hasImage g0_remembered g0_faultAt g0_men g0_dogs f1 g0_thrown g0_taped u3.1 g0_end u3.2 u1.2.2.1 u1.2.2.2.1 u1.2.2.2.2) [2]) (w1 := (ceX11_isAt cyI cyB cyJ cyZ a0 a1 a2 b0_image b0_before b0_taken b0_five b0_value b0_far b0_lead b0_walk b0_ends b0_manX b0_manY b0_dogX b0_dogY b0_row b0_round b0_farOne b0_leads b0_drags b0_from b0_near g0_thrown g0_hasImage g0_remembered g0_taped u3.2 u1.2.2.1 g0_faultAt u1.2.2.2.1 g0_men g0_dogs u3.1 g0_end f1)) hP hD [0, 1] [2] rfl rfl (by decide) (by decide) hk1 hFc hP1 hD1
        have hP := hP.sub (ws' := (ceX11_readAll cyI cyB cyJ cyZ a0 a1 a2 b0_image b0_before b0_taken b0_five b0_value b0_far b0_lead b0_walk b0_ends b0_manX b0_manY b0_dogX b0_dogY b0_row b0_round b0_farOne b0_leads b0_drags b0_from b0_near g0_hasImage g0_remembered g0_faultAt g0_men g0_dogs f1 g0_thrown g0_taped u3.1 g0_end u3.2 u1.2.2.1 u1.2.2.2.1 u1.2.2.2.2)) [1, 2, 0] rfl
        have hD := hD.sub (ws' := (ceX11_readAll cyI cyB cyJ cyZ a0 a1 a2 b0_image b0_before b0_taken b0_five b0_value b0_far b0_lead b0_walk b0_ends b0_manX b0_manY b0_dogX b0_dogY b0_row b0_round b0_farOne b0_leads b0_drags b0_from b0_near g0_hasImage g0_remembered g0_faultAt g0_men g0_dogs f1 g0_thrown g0_taped u3.1 g0_end u3.2 u1.2.2.1 u1.2.2.2.1 u1.2.2.2.2)) [1, 2, 0] (by decide) rfl
        generalize H1 = H at hP hS ⊢
        refine lv_if_ne (tgt := 71) hx hb dX11_readAll_66 (by decide) (fun hc => ?_) (fun hc => ?_)
        · have hw := hw.1 hc
          refine lv_aload_n hx hb dX11_readAll_71 rfl (lv_at hl 0 rfl) ?_
          refine lv_dup hx hb dX11_readAll_72 rfl ?_
          refine va_get (D := (dC, dI)) (ci := 11) (v := .int u3.1) (C := RX11) (T := TX11) (N := 34) hx hb hts inX11_readAll_X11 hown hK hP 0 rfl rfl 9 (by decide) (hts (.fieldLink RX11 112 "LeadParkModel" "point" "I") (List.mem_of_getElem? (i := 2) rfl)) (fun _ h9 => h9) rfl dX11_readAll_73 ?_
          refine lv_iconst (v := 1) hx hb dX11_readAll_76 (by decide) ?_
          refine lv_iadd hx hb dX11_readAll_77 ?_
          refine lv_topi (fun v6 ev6 => ?_)
          have hw := hw v6 ev6
          refine va_put (D := (dC, dI)) (ci := 11) (v := .int v6) (ty := .int) (C := RX11) (T := TX11) (N := 34) hx hb hts inX11_readAll_X11 tyX11 tyX11_ok nmX11 hown hK hP hD hS 0 rfl rfl 9 (by decide) (hts (.fieldLink RX11 112 "LeadParkModel" "point" "I") (List.mem_of_getElem? (i := 2) rfl)) (fun _ h9 => h9) rfl (by decide +kernel) rfl rfl (Nat.le_of_ble_eq_true rfl) dX11_readAll_78 (fun H locs hP hD hS => ?_)
          have hP : va_P (dC, dI) vwCl (ceX11_readAll cyI cyB cyJ cyZ a0 a1 a2 b0_image b0_before b0_taken b0_five b0_value b0_far b0_lead b0_walk b0_ends b0_manX b0_manY b0_dogX b0_dogY b0_row b0_round b0_farOne b0_leads b0_drags b0_from b0_near g0_hasImage g0_remembered g0_faultAt g0_men g0_dogs f1 g0_thrown g0_taped v6 g0_end u3.2 u1.2.2.1 u1.2.2.2.1 u1.2.2.2.2) H := hP
          have hD : va_D A (ceX11_readAll cyI cyB cyJ cyZ a0 a1 a2 b0_image b0_before b0_taken b0_five b0_value b0_far b0_lead b0_walk b0_ends b0_manX b0_manY b0_dogX b0_dogY b0_row b0_round b0_farOne b0_leads b0_drags b0_from b0_near g0_hasImage g0_remembered g0_faultAt g0_men g0_dogs f1 g0_thrown g0_taped v6 g0_end u3.2 u1.2.2.1 u1.2.2.2.1 u1.2.2.2.2) := hD
          obtain ⟨v7, ev7⟩ : ∃ y : Int32, y = x2 + 1 := ⟨_, rfl⟩
          have hw := hw v7 ev7
          refine lv_iinc (v := v7) (lv' := [(2, .int v7), (0, .ref a0), (1, .int x1)]) hx hb dX11_readAll_81 hl (k := 2) rfl (by rw [ev7]; rfl) (by decide) rfl (fun ls hl => ?_)
          refine lv_goto (tgt := 28) hx hb dX11_readAll_84 (by decide) ?_
          exact ih g0_thrown g0_taped v6 g0_end u3.2 u1.2.2.1 u1.2.2.2.1 u1.2.2.2.2 x1 v7 hw H locs hP hD hS ls (lv_sub hl [1, 2, 0] rfl)
        · have hw := hw.2 hc
          refine lv_iconst (v := (-1)) hx hb dX11_readAll_69 (by decide) ?_
          rw [hQ]
          exact W.iret (v := (-1)) hx hb hr (fun t ht hW => ⟨⟨(-1), (g0_thrown, g0_taped, u3.1, g0_end, u3.2, u1.2.2.1, u1.2.2.2.1, u1.2.2.2.2), rfl, hw, by rw [ht]; exact hP, va_K.moved hW.alike hK, hD⟩, hS.F ht⟩) hS.2.2 dX11_readAll_70
      · have hw := hw.2 hc
        refine lv_iload_n hx hb dX11_readAll_54 rfl (lv_at hl 2 rfl) ?_
        refine lv_iconst (v := 1) hx hb dX11_readAll_55 (by decide) ?_
        refine lv_iadd hx hb dX11_readAll_56 ?_
        rw [hQ]
        exact W.iret (v := x2 + 1) hx hb hr (fun t ht hW => ⟨⟨x2 + 1, (g0_thrown, g0_taped, u3.1, g0_end, u3.2, u1.2.2.1, u1.2.2.2.1, u1.2.2.2.2), rfl, hw, by rw [ht]; exact hP, va_K.moved hW.alike hK, hD⟩, hS.F ht⟩) hS.2.2 dX11_readAll_57
    · have hw := hw.2 hc
      refine lv_iconst (v := (-1)) hx hb dX11_readAll_37 (by decide) ?_
      rw [hQ]
      exact W.iret (v := (-1)) hx hb hr (fun t ht hW => ⟨⟨(-1), (g0_thrown, g0_taped, u1.1, g0_end, u1.2.1, u1.2.2.1, u1.2.2.2.1, u1.2.2.2.2), rfl, hw, by rw [ht]; exact hP, va_K.moved hW.alike hK, hD⟩, hS.F ht⟩) hS.2.2 dX11_readAll_38
set_option maxRecDepth 100000 in
set_option maxHeartbeats 4000000 in
theorem ctX11_readAll (l : Launch) (dC : Nat → ClassId) (dI : Nat → Nat → Nat) (cyI cyB cyJ cyZ : ClassId) (sz : Nat) (a0 a1 a2 b0_image b0_before b0_taken b0_five b0_value b0_far b0_lead b0_walk b0_ends b0_manX b0_manY b0_dogX b0_dogY b0_row b0_round b0_farOne b0_leads b0_drags b0_from b0_near : Nat) (g0_hasImage : Int32) (g0_remembered : Int32) (g0_faultAt : Int32) (g0_men : Int32) (g0_dogs : Int32) (f1 : Nat → Int32) (g0_thrown : Int32) (g0_taped : Int32) (g0_point : Int32) (g0_end : Int32) (g0_begin : Int32) (g0_deep : Int32) (g0_steps : Int32) (f2 : Nat → Int32) (p0 : Int32) (post : Int32 → (Int32 × Int32 × Int32 × Int32 × Int32 × Int32 × Int32 × (Nat → Int32)) → Prop) (adS : Nat → Nat) (hw : wpX11_readAll post f1 g0_thrown g0_taped g0_point g0_end g0_begin g0_deep g0_steps f2 p0) : Met l yX11_readAll wsX11_readAll rmX11_readAll (va_Pc [.ref a0, .int p0] (wPreX dC dI cyI cyB cyJ cyZ sz (ceX11_readAll cyI cyB cyJ cyZ a0 a1 a2 b0_image b0_before b0_taken b0_five b0_value b0_far b0_lead b0_walk b0_ends b0_manX b0_manY b0_dogX b0_dogY b0_row b0_round b0_farOne b0_leads b0_drags b0_from b0_near g0_hasImage g0_remembered g0_faultAt g0_men g0_dogs f1 g0_thrown g0_taped g0_point g0_end g0_begin g0_deep g0_steps f2) (txA adS))) (va_Qi post (fun u : Int32 × Int32 × Int32 × Int32 × Int32 × Int32 × Int32 × (Nat → Int32) => wAt dC dI cyI cyB cyJ cyZ (va_A (ceX11_readAll cyI cyB cyJ cyZ a0 a1 a2 b0_image b0_before b0_taken b0_five b0_value b0_far b0_lead b0_walk b0_ends b0_manX b0_manY b0_dogX b0_dogY b0_row b0_round b0_farOne b0_leads b0_drags b0_from b0_near g0_hasImage g0_remembered g0_faultAt g0_men g0_dogs f1 g0_thrown g0_taped g0_point g0_end g0_begin g0_deep g0_steps f2) sz) (ceX11_readAll cyI cyB cyJ cyZ a0 a1 a2 b0_image b0_before b0_taken b0_five b0_value b0_far b0_lead b0_walk b0_ends b0_manX b0_manY b0_dogX b0_dogY b0_row b0_round b0_farOne b0_leads b0_drags b0_from b0_near g0_hasImage g0_remembered g0_faultAt g0_men g0_dogs f1 u.1 u.2.1 u.2.2.1 u.2.2.2.1 u.2.2.2.2.1 u.2.2.2.2.2.1 u.2.2.2.2.2.2.1 u.2.2.2.2.2.2.2)) (va_A (ceX11_readAll cyI cyB cyJ cyZ a0 a1 a2 b0_image b0_before b0_taken b0_five b0_value b0_far b0_lead b0_walk b0_ends b0_manX b0_manY b0_dogX b0_dogY b0_row b0_round b0_farOne b0_leads b0_drags b0_from b0_near g0_hasImage g0_remembered g0_faultAt g0_men g0_dogs f1 g0_thrown g0_taped g0_point g0_end g0_begin g0_deep g0_steps f2) sz)) 0 0 (va_A (ceX11_readAll cyI cyB cyJ cyZ a0 a1 a2 b0_image b0_before b0_taken b0_five b0_value b0_far b0_lead b0_walk b0_ends b0_manX b0_manY b0_dogX b0_dogY b0_row b0_round b0_farOne b0_leads b0_drags b0_from b0_near g0_hasImage g0_remembered g0_faultAt g0_men g0_dogs f1 g0_thrown g0_taped g0_point g0_end g0_begin g0_deep g0_steps f2) sz) := by
  refine Met.ofW (cc := cX11_readAll) (maxL := 3) (ret := (some .int)) (by decide) rfl ?_
  intro p e s m args below meth c s₁ B hml hv
  obtain ⟨rfl, ⟨hsz, hP, hK, hD0, hN⟩, hXs⟩ := hv
  have hx := B.exec
  have hb := B.bytes
  have hr := B.returns
  have hts := atoms_spec (ws := wsX11_readAll) B.pre
  have hown : s.vm.findClass RX11 = some m.cls := findClass_of_methodNamed B.named
  have hlocks := B.notSynchronized
  subst hsz
  have hD := hD0.self (sz := s.heap.size)
  generalize hAe : va_A (ceX11_readAll cyI cyB cyJ cyZ a0 a1 a2 b0_image b0_before b0_taken b0_five b0_value b0_far b0_lead b0_walk b0_ends b0_manX b0_manY b0_dogX b0_dogY b0_row b0_round b0_farOne b0_leads b0_drags b0_from b0_near g0_hasImage g0_remembered g0_faultAt g0_men g0_dogs f1 g0_thrown g0_taped g0_point g0_end g0_begin g0_deep g0_steps f2) s.heap.size = A at hD hXs ⊢
  have hA : ∀ q : Nat, s.heap.size ≤ q → A q := fun q h => by rw [← hAe]; exact Or.inr h
  have hS : va_S A s.heap s.heap [] := va_S.rf
  have C0 : cxM p s m meth c _ wsX11_readAll RX11 cX11_readAll 3 (some .int) := ⟨hx, hb, hr, hml, hown, hts, hlocks⟩
  have hl := lv_entry ([.ref a0, .int p0]) (n := 3) (Nat.le_of_ble_eq_true rfl)
  rw [lg_entry_eq]
  generalize (lg_sl ([.ref a0, .int p0]) ++ List.replicate (3 - (lg_sl ([.ref a0, .int p0])).length) Slot.unset).toArray = ls at hl ⊢
  have hl : lv_has ls 3 [(0, .ref a0), (1, .int p0)] := hl
  show W p l e rmX11_readAll s m _ below meth c _ _ _ _ _ _
  refine wq (fun Q hQ => ?_)
  refine lv_aload_n hx hb dX11_readAll_0 rfl (lv_at hl 0 rfl) ?_
  have hPc := hP.sub (ws' := (ceX11_uses cyI cyB cyJ cyZ a0 a2 b0_image b0_before b0_taken a1 b0_five b0_value b0_far b0_lead b0_walk b0_ends b0_manX b0_manY b0_dogX b0_dogY b0_row b0_round b0_farOne b0_leads b0_drags b0_from b0_near g0_hasImage g0_remembered g0_begin g0_deep g0_faultAt g0_steps g0_men g0_dogs g0_thrown g0_taped g0_point g0_end)) [0] rfl
  have hDc := hD.sub (ws' := (ceX11_uses cyI cyB cyJ cyZ a0 a2 b0_image b0_before b0_taken a1 b0_five b0_value b0_far b0_lead b0_walk b0_ends b0_manX b0_manY b0_dogX b0_dogY b0_row b0_round b0_farOne b0_leads b0_drags b0_from b0_near g0_hasImage g0_remembered g0_begin g0_deep g0_faultAt g0_steps g0_men g0_dogs g0_thrown g0_taped g0_point g0_end)) [0] (by decide) rfl
  have hFc := va_free (wc := (ceX11_uses cyI cyB cyJ cyZ a0 a2 b0_image b0_before b0_taken a1 b0_five b0_value b0_far b0_lead b0_walk b0_ends b0_manX b0_manY b0_dogX b0_dogY b0_row b0_round b0_farOne b0_leads b0_drags b0_from b0_near g0_hasImage g0_remembered g0_begin g0_deep g0_faultAt g0_steps g0_men g0_dogs g0_thrown g0_taped g0_point g0_end)) hD hS hA [0] rfl
  refine va_callv (va_runV (As := []) (rest := []) ⟨hx, hb, hml, hown, hts⟩ (ctX11_uses l dC dI cyI cyB cyJ cyZ _ a0 a2 b0_image b0_before b0_taken a1 b0_five b0_value b0_far b0_lead b0_walk b0_ends b0_manX b0_manY b0_dogX b0_dogY b0_row b0_round b0_farOne b0_leads b0_drags b0_from b0_near g0_hasImage g0_remembered g0_begin g0_deep g0_faultAt g0_steps g0_men g0_dogs g0_thrown g0_taped g0_point g0_end _ hw) (cwV 0 hts gX11_readAll_X11_uses rfl rfl rfl (by decide +kernel) ⟨Nat.le_of_ble_eq_true rfl, Nat.le_of_ble_eq_true rfl⟩) ⟨wPre_blind, va_recv hK hPc (ci := 11) (q0 := 0) rfl rfl, fun U hU hW => wPre_of hPc hK hDc hN hU hW⟩ rfl rfl hl.1 rfl (lv_room (Nat.le_of_ble_eq_true rfl)) dX11_readAll_1 ⟨(Nat.zero_le _), (Nat.zero_le _)⟩) hS (fun q _ h => hFc q h) hFc (fun u1 t H1 locs ht hvm hw hB hz1 hk1 hS => ?_)
  obtain ⟨hP1, hK1, hD1⟩ := hB
  rw [ht] at hP1
  obtain ⟨hP, hD⟩ := va_join (wr := pickW (ceX11_readAll cyI cyB cyJ cyZ a0 a1 a2 b0_image b0_before b0_taken b0_five b0_value b0_far b0_lead b0_walk b0_ends b0_manX b0_manY b0_dogX b0_dogY b0_row b0_round b0_farOne b0_leads b0_drags b0_from b0_near g0_hasImage g0_remembered g0_faultAt g0_men g0_dogs f1 g0_thrown g0_taped g0_point g0_end g0_begin g0_deep g0_steps f2) [1, 2]) (w1 := (ceX11_uses cyI cyB cyJ cyZ a0 a2 b0_image b0_before b0_taken a1 b0_five b0_value b0_far b0_lead b0_walk b0_ends b0_manX b0_manY b0_dogX b0_dogY b0_row b0_round b0_farOne b0_leads b0_drags b0_from b0_near g0_hasImage g0_remembered g0_begin g0_deep g0_faultAt g0_steps g0_men g0_dogs u1.1 u1.2.1 u1.2.2.1 u1.2.2.2)) hP hD [0] [1, 2] rfl rfl (by decide) (by decide) hk1 hFc hP1 hD1
  have hP := hP.sub (ws' := (ceX11_readAll cyI cyB cyJ cyZ a0 a1 a2 b0_image b0_before b0_taken b0_five b0_value b0_far b0_lead b0_walk b0_ends b0_manX b0_manY b0_dogX b0_dogY b0_row b0_round b0_farOne b0_leads b0_drags b0_from b0_near g0_hasImage g0_remembered g0_faultAt g0_men g0_dogs f1 u1.1 u1.2.1 u1.2.2.1 u1.2.2.2 g0_begin g0_deep g0_steps f2)) [2, 0, 1] rfl
  have hD := hD.sub (ws' := (ceX11_readAll cyI cyB cyJ cyZ a0 a1 a2 b0_image b0_before b0_taken b0_five b0_value b0_far b0_lead b0_walk b0_ends b0_manX b0_manY b0_dogX b0_dogY b0_row b0_round b0_farOne b0_leads b0_drags b0_from b0_near g0_hasImage g0_remembered g0_faultAt g0_men g0_dogs f1 u1.1 u1.2.1 u1.2.2.1 u1.2.2.2 g0_begin g0_deep g0_steps f2)) [2, 0, 1] (by decide) rfl
  generalize H1 = H at hP hS ⊢
  refine lv_aload_n hx hb dX11_readAll_4 rfl (lv_at hl 0 rfl) ?_
  refine lv_iconst (v := 0) hx hb dX11_readAll_5 (by decide) ?_
  refine va_put (D := (dC, dI)) (ci := 11) (v := .int 0) (ty := .int) (C := RX11) (T := TX11) (N := 34) hx hb hts inX11_readAll_X11 tyX11 tyX11_ok nmX11 hown hK hP hD hS 0 rfl rfl 15 (by decide) (hts (.fieldLink RX11 168 "LeadParkModel" "steps" "I") (List.mem_of_getElem? (i := 1) rfl)) (fun _ h9 => h9) rfl (by decide +kernel) rfl rfl (Nat.le_of_ble_eq_true rfl) dX11_readAll_6 (fun H locs hP hD hS => ?_)
  have hP : va_P (dC, dI) vwCl (ceX11_readAll cyI cyB cyJ cyZ a0 a1 a2 b0_image b0_before b0_taken b0_five b0_value b0_far b0_lead b0_walk b0_ends b0_manX b0_manY b0_dogX b0_dogY b0_row b0_round b0_farOne b0_leads b0_drags b0_from b0_near g0_hasImage g0_remembered g0_faultAt g0_men g0_dogs f1 u1.1 u1.2.1 u1.2.2.1 u1.2.2.2 g0_begin g0_deep 0 f2) H := hP
  have hD : va_D A (ceX11_readAll cyI cyB cyJ cyZ a0 a1 a2 b0_image b0_before b0_taken b0_five b0_value b0_far b0_lead b0_walk b0_ends b0_manX b0_manY b0_dogX b0_dogY b0_row b0_round b0_farOne b0_leads b0_drags b0_from b0_near g0_hasImage g0_remembered g0_faultAt g0_men g0_dogs f1 u1.1 u1.2.1 u1.2.2.1 u1.2.2.2 g0_begin g0_deep 0 f2) := hD
  refine lv_aload_n hx hb dX11_readAll_9 rfl (lv_at hl 0 rfl) ?_
  have hPc := hP.sub (ws' := (ceX11_blanks cyI cyB cyJ cyZ a0 a1 a2 b0_image b0_before b0_taken b0_five b0_value b0_far b0_lead b0_walk b0_ends b0_manX b0_manY b0_dogX b0_dogY b0_row b0_round b0_farOne b0_leads b0_drags b0_from b0_near u1.1 g0_hasImage g0_remembered u1.2.1 g0_deep g0_faultAt 0 g0_men g0_dogs u1.2.2.2 f1 u1.2.2.1 g0_begin)) [0, 1] rfl
  have hDc := hD.sub (ws' := (ceX11_blanks cyI cyB cyJ cyZ a0 a1 a2 b0_image b0_before b0_taken b0_five b0_value b0_far b0_lead b0_walk b0_ends b0_manX b0_manY b0_dogX b0_dogY b0_row b0_round b0_farOne b0_leads b0_drags b0_from b0_near u1.1 g0_hasImage g0_remembered u1.2.1 g0_deep g0_faultAt 0 g0_men g0_dogs u1.2.2.2 f1 u1.2.2.1 g0_begin)) [0, 1] (by decide) rfl
  have hFc := va_free (wc := (ceX11_blanks cyI cyB cyJ cyZ a0 a1 a2 b0_image b0_before b0_taken b0_five b0_value b0_far b0_lead b0_walk b0_ends b0_manX b0_manY b0_dogX b0_dogY b0_row b0_round b0_farOne b0_leads b0_drags b0_from b0_near u1.1 g0_hasImage g0_remembered u1.2.1 g0_deep g0_faultAt 0 g0_men g0_dogs u1.2.2.2 f1 u1.2.2.1 g0_begin)) hD hS hA [0, 1] rfl
  refine va_callv (va_runV (As := []) (rest := []) ⟨hx, hb, hml, hown, hts⟩ (ctX11_blanks l dC dI cyI cyB cyJ cyZ _ a0 a1 a2 b0_image b0_before b0_taken b0_five b0_value b0_far b0_lead b0_walk b0_ends b0_manX b0_manY b0_dogX b0_dogY b0_row b0_round b0_farOne b0_leads b0_drags b0_from b0_near u1.1 g0_hasImage g0_remembered u1.2.1 g0_deep g0_faultAt 0 g0_men g0_dogs u1.2.2.2 f1 u1.2.2.1 g0_begin _ hw) (cwV 0 hts gX11_readAll_X11_blanks rfl rfl rfl (by decide +kernel) ⟨Nat.le_of_ble_eq_true rfl, Nat.le_of_ble_eq_true rfl⟩) ⟨wPre_blind, va_recv hK hPc (ci := 11) (q0 := 0) rfl rfl, fun U hU hW => wPre_of hPc hK hDc hN hU hW⟩ rfl rfl hl.1 rfl (lv_room (Nat.le_of_ble_eq_true rfl)) dX11_readAll_10 ⟨(Nat.zero_le _), (Nat.zero_le _)⟩) hS (fun q _ h => hFc q h) hFc (fun u2 t H1 locs ht hvm hw hB hz1 hk1 hS => ?_)
  obtain ⟨hP1, hK1, hD1⟩ := hB
  rw [ht] at hP1
  obtain ⟨hP, hD⟩ := va_join (wr := pickW (ceX11_readAll cyI cyB cyJ cyZ a0 a1 a2 b0_image b0_before b0_taken b0_five b0_value b0_far b0_lead b0_walk b0_ends b0_manX b0_manY b0_dogX b0_dogY b0_row b0_round b0_farOne b0_leads b0_drags b0_from b0_near g0_hasImage g0_remembered g0_faultAt g0_men g0_dogs f1 u1.1 u1.2.1 u1.2.2.1 u1.2.2.2 g0_begin g0_deep 0 f2) [2]) (w1 := (ceX11_blanks cyI cyB cyJ cyZ a0 a1 a2 b0_image b0_before b0_taken b0_five b0_value b0_far b0_lead b0_walk b0_ends b0_manX b0_manY b0_dogX b0_dogY b0_row b0_round b0_farOne b0_leads b0_drags b0_from b0_near u1.1 g0_hasImage g0_remembered u1.2.1 g0_deep g0_faultAt 0 g0_men g0_dogs u1.2.2.2 f1 u2.1 u2.2)) hP hD [0, 1] [2] rfl rfl (by decide) (by decide) hk1 hFc hP1 hD1
  have hP := hP.sub (ws' := (ceX11_readAll cyI cyB cyJ cyZ a0 a1 a2 b0_image b0_before b0_taken b0_five b0_value b0_far b0_lead b0_walk b0_ends b0_manX b0_manY b0_dogX b0_dogY b0_row b0_round b0_farOne b0_leads b0_drags b0_from b0_near g0_hasImage g0_remembered g0_faultAt g0_men g0_dogs f1 u1.1 u1.2.1 u2.1 u1.2.2.2 u2.2 g0_deep 0 f2)) [1, 2, 0] rfl
  have hD := hD.sub (ws' := (ceX11_readAll cyI cyB cyJ cyZ a0 a1 a2 b0_image b0_before b0_taken b0_five b0_value b0_far b0_lead b0_walk b0_ends b0_manX b0_manY b0_dogX b0_dogY b0_row b0_round b0_farOne b0_leads b0_drags b0_from b0_near g0_hasImage g0_remembered g0_faultAt g0_men g0_dogs f1 u1.1 u1.2.1 u2.1 u1.2.2.2 u2.2 g0_deep 0 f2)) [1, 2, 0] (by decide) rfl
  generalize H1 = H at hP hS ⊢
  refine lv_aload_n hx hb dX11_readAll_13 rfl (lv_at hl 0 rfl) ?_
  refine va_get (D := (dC, dI)) (ci := 11) (v := .int u2.1) (C := RX11) (T := TX11) (N := 34) hx hb hts inX11_readAll_X11 hown hK hP 0 rfl rfl 9 (by decide) (hts (.fieldLink RX11 112 "LeadParkModel" "point" "I") (List.mem_of_getElem? (i := 2) rfl)) (fun _ h9 => h9) rfl dX11_readAll_14 ?_
  refine lv_aload_n hx hb dX11_readAll_17 rfl (lv_at hl 0 rfl) ?_
  refine va_get (D := (dC, dI)) (ci := 11) (v := .int u1.2.2.2) (C := RX11) (T := TX11) (N := 34) hx hb hts inX11_readAll_X11 hown hK hP 0 rfl rfl 10 (by decide) (hts (.fieldLink RX11 115 "LeadParkModel" "end" "I") (List.mem_of_getElem? (i := 3) rfl)) (fun _ h9 => h9) rfl dX11_readAll_18 ?_
  refine lv_icmp_ne (tgt := 26) hx hb dX11_readAll_21 (by decide) (fun hc => ?_) (fun hc => ?_)
  · have hw := hw.1 hc
    refine lv_iconst (v := 0) hx hb dX11_readAll_26 (by decide) ?_
    refine lv_istore_n (lv' := [(2, .int 0), (0, .ref a0), (1, .int p0)]) hx hb dX11_readAll_27 rfl hl (by decide) rfl (fun ls hl => ?_)
    obtain ⟨nn, hw⟩ := hw
    exact bX11_readAll_28 C0 hK hN hA hXs hQ nn u1.1 u1.2.1 u2.1 u1.2.2.2 u2.2 g0_deep 0 f2 p0 0 hw _ _ hP hD hS ls (lv_sub hl [1, 2, 0] rfl)
  · have hw := hw.2 hc
    refine lv_iconst (v := 0) hx hb dX11_readAll_24 (by decide) ?_
    rw [hQ]
    exact W.iret (v := 0) hx hb hr (fun t ht hW => ⟨⟨0, (u1.1, u1.2.1, u2.1, u1.2.2.2, u2.2, g0_deep, 0, f2), rfl, hw, by rw [ht]; exact hP, va_K.moved hW.alike hK, hD⟩, hS.F ht⟩) hS.2.2 dX11_readAll_25
/-! LeadParkModel.park ()I -/
abbrev ceX11_park (cyI cyB cyJ cyZ : ClassId) (a0 a1 a2 a3 b0_image b0_taken b0_five b0_value b0_far b0_lead b0_walk b0_ends b0_manX b0_manY b0_dogX b0_dogY b0_row b0_round b0_farOne b0_leads b0_drags b0_from b0_near : Nat) (g0_hasImage : Int32) (g0_men : Int32) (g0_dogs : Int32) (f3 : Nat → Int32) (g0_thrown : Int32) (g0_remembered : Int32) (g0_taped : Int32) (g0_point : Int32) (g0_end : Int32) (g0_begin : Int32) (g0_deep : Int32) (g0_faultAt : Int32) (g0_steps : Int32) (f1 : Nat → Int32) (f2 : Nat → Int32) : va_W := [(a0, .inr (11, [.int g0_thrown, .ref a1, .ref b0_image, .ref a2, .int g0_hasImage, .ref b0_taken, .int g0_remembered, .ref a3, .int g0_taped, .int g0_point, .int g0_end, .int g0_begin, .int g0_deep, .int g0_faultAt, .ref b0_five, .int g0_steps, .ref b0_value, .ref b0_far, .int g0_men, .int g0_dogs, .ref b0_lead, .ref b0_walk, .ref b0_ends, .ref b0_manX, .ref b0_manY, .ref b0_dogX, .ref b0_dogY, .ref b0_row, .ref b0_round, .ref b0_farOne, .ref b0_leads, .ref b0_drags, .ref b0_from, .ref b0_near])), (a1, .inl (cyI, 2508, .inl f1)), (a2, .inl (cyI, 1683, .inl f2)), (a3, .inl (cyB, 400, .inl f3))]

theorem inX11_park_X11 : ∀ w ∈ wsX110, w ∈ wsX11_park := fun _ h => List.mem_cons_of_mem _ (List.mem_append_right _ h)
abbrev rmX11_park : Room := { frames := 64, cells := 0, slots := 0, locals := 4086 }
def wpX11_park_92 (post : Int32 → (Int32 × Int32 × Int32 × Int32 × Int32 × Int32 × Int32 × Int32 × Int32 × (Nat → Int32) × (Nat → Int32)) → Prop) (f3 : Nat → Int32) : Nat → Int32 → Int32 → Int32 → Int32 → Int32 → Int32 → Int32 → Int32 → Int32 → (Nat → Int32) → (Nat → Int32) → Int32 → Prop
  | 0, _, _, _, _, _, _, _, _, _, _, _, _ => False
  | n_92 + 1, g0_thrown, g0_remembered, g0_taped, g0_point, g0_end, g0_begin, g0_deep, g0_faultAt, g0_steps, f1, f2, x2 =>
    (1683 ≤ x2 →
     post 0 (g0_thrown, g0_remembered, g0_taped, g0_point, g0_end, g0_begin, g0_deep, g0_faultAt, g0_steps, f1, f2)) ∧
    (¬ 1683 ≤ x2 →
     vp_in x2 1683 ∧
     vp_in x2 2508 ∧
     ∀ v1 : Int32, v1 = x2 + 1 →
     wpX11_park_92 post f3 n_92 g0_thrown g0_remembered g0_taped g0_point g0_end g0_begin g0_deep g0_faultAt g0_steps (upd f1 x2.toNatClampNeg (f2 x2.toNatClampNeg)) f2 v1)
def wpX11_park_90 (post : Int32 → (Int32 × Int32 × Int32 × Int32 × Int32 × Int32 × Int32 × Int32 × Int32 × (Nat → Int32) × (Nat → Int32)) → Prop) (f3 : Nat → Int32) (g0_thrown : Int32) (g0_remembered : Int32) (g0_taped : Int32) (g0_point : Int32) (g0_end : Int32) (g0_begin : Int32) (g0_deep : Int32) (g0_faultAt : Int32) (g0_steps : Int32) (f1 : Nat → Int32) (f2 : Nat → Int32) : Prop :=
  ∃ n_92 : Nat, wpX11_park_92 post f3 n_92 g0_thrown g0_remembered g0_taped g0_point g0_end g0_begin g0_deep g0_faultAt g0_steps f1 f2 0
def wpX11_park_83 (post : Int32 → (Int32 × Int32 × Int32 × Int32 × Int32 × Int32 × Int32 × Int32 × Int32 × (Nat → Int32) × (Nat → Int32)) → Prop) (f3 : Nat → Int32) (g0_thrown : Int32) (g0_remembered : Int32) (g0_taped : Int32) (g0_point : Int32) (g0_end : Int32) (g0_begin : Int32) (g0_deep : Int32) (g0_faultAt : Int32) (g0_steps : Int32) (f1 : Nat → Int32) (f2 : Nat → Int32) (s1 : Int32) : Prop :=
  wpX11_throwsIf (fun (r2 : Int32) (u1 : Int32) =>
   (r2 = 0 →
    vp_in 2 2508 ∧
    vp_in 2 2508 ∧
    wpX11_endsWalk (fun (u3 : Int32 × (Nat → Int32)) =>
     vp_in 2 2508 ∧
     post (u3.2 (2 : Int32).toNatClampNeg) (u1, u3.1, g0_taped, g0_point, g0_end, g0_begin, g0_deep, g0_faultAt, g0_steps, u3.2, f2)) g0_remembered (upd f1 (2 : Int32).toNatClampNeg ((f1 (2 : Int32).toNatClampNeg) + 1))) ∧
   (¬ r2 = 0 →
    wpX11_park_90 post f3 u1 g0_remembered g0_taped g0_point g0_end g0_begin g0_deep g0_faultAt g0_steps f1 f2)) g0_thrown s1 2
def wpX11_park_59 (post : Int32 → (Int32 × Int32 × Int32 × Int32 × Int32 × Int32 × Int32 × Int32 × Int32 × (Nat → Int32) × (Nat → Int32)) → Prop) (f3 : Nat → Int32) (g0_thrown : Int32) (g0_remembered : Int32) (g0_taped : Int32) (g0_point : Int32) (g0_end : Int32) (g0_begin : Int32) (g0_deep : Int32) (g0_faultAt : Int32) (g0_steps : Int32) (f1 : Nat → Int32) (f2 : Nat → Int32) (s1 : Int32) : Prop :=
  wpX11_throwsIf (fun (r2 : Int32) (u1 : Int32) =>
   (¬ r2 = 0 →
    wpX11_park_90 post f3 u1 g0_remembered g0_taped g0_point g0_end g0_begin g0_deep g0_faultAt g0_steps f1 f2) ∧
   (r2 = 0 →
    vp_in 2 2508 ∧
    (¬ (f1 (2 : Int32).toNatClampNeg) = 16 →
     wpX11_park_83 post f3 u1 g0_remembered g0_taped g0_point g0_end g0_begin g0_deep g0_faultAt g0_steps f1 f2 0) ∧
    ((f1 (2 : Int32).toNatClampNeg) = 16 →
     wpX11_park_83 post f3 u1 g0_remembered g0_taped g0_point g0_end g0_begin g0_deep g0_faultAt g0_steps f1 f2 1))) g0_thrown s1 1
def wpX11_park_46 (post : Int32 → (Int32 × Int32 × Int32 × Int32 × Int32 × Int32 × Int32 × Int32 × Int32 × (Nat → Int32) × (Nat → Int32)) → Prop) (f3 : Nat → Int32) (g0_thrown : Int32) (g0_remembered : Int32) (g0_taped : Int32) (g0_point : Int32) (g0_end : Int32) (g0_begin : Int32) (g0_deep : Int32) (g0_faultAt : Int32) (g0_steps : Int32) (f1 : Nat → Int32) (f2 : Nat → Int32) (x1 : Int32) (s1 : Int32) : Prop :=
  (0 ≤ x1 →
   wpX11_park_59 post f3 g0_thrown g0_remembered g0_taped g0_point g0_end g0_begin g0_deep s1 g0_steps f1 f2 0) ∧
  (¬ 0 ≤ x1 →
   wpX11_park_59 post f3 g0_thrown g0_remembered g0_taped g0_point g0_end g0_begin g0_deep s1 g0_steps f1 f2 1)
def wpX11_park_2 (post : Int32 → (Int32 × Int32 × Int32 × Int32 × Int32 × Int32 × Int32 × Int32 × Int32 × (Nat → Int32) × (Nat → Int32)) → Prop) (f3 : Nat → Int32) : Nat → Int32 → Int32 → Int32 → Int32 → Int32 → Int32 → Int32 → Int32 → Int32 → (Nat → Int32) → (Nat → Int32) → Int32 → Prop
  | 0, _, _, _, _, _, _, _, _, _, _, _, _ => False
  | n_2 + 1, g0_thrown, g0_remembered, g0_taped, g0_point, g0_end, g0_begin, g0_deep, g0_faultAt, g0_steps, f1, f2, x1 =>
    (1683 ≤ x1 →
     wpX11_readAll (fun (r2 : Int32) (u1 : Int32 × Int32 × Int32 × Int32 × Int32 × Int32 × Int32 × (Nat → Int32)) =>
      (0 ≤ r2 →
       wpX11_park_46 post f3 u1.1 g0_remembered u1.2.1 u1.2.2.1 u1.2.2.2.1 u1.2.2.2.2.1 u1.2.2.2.2.2.1 g0_faultAt u1.2.2.2.2.2.2.1 u1.2.2.2.2.2.2.2 f2 r2 (-1)) ∧
      (¬ 0 ≤ r2 →
       wpX11_park_46 post f3 u1.1 g0_remembered u1.2.1 u1.2.2.1 u1.2.2.2.1 u1.2.2.2.2.1 u1.2.2.2.2.2.1 g0_faultAt u1.2.2.2.2.2.2.1 u1.2.2.2.2.2.2.2 f2 r2 u1.2.2.2.2.1)) f3 g0_thrown g0_taped g0_point g0_end g0_begin g0_deep g0_steps f1 1) ∧
    (¬ 1683 ≤ x1 →
     vp_in x1 2508 ∧
     vp_in x1 1683 ∧
     ∀ v3 : Int32, v3 = x1 + 1 →
     wpX11_park_2 post f3 n_2 g0_thrown g0_remembered g0_taped g0_point g0_end g0_begin g0_deep g0_faultAt g0_steps f1 (upd f2 x1.toNatClampNeg (f1 x1.toNatClampNeg)) v3)
def wpX11_park (post : Int32 → (Int32 × Int32 × Int32 × Int32 × Int32 × Int32 × Int32 × Int32 × Int32 × (Nat → Int32) × (Nat → Int32)) → Prop) (f3 : Nat → Int32) (g0_thrown : Int32) (g0_remembered : Int32) (g0_taped : Int32) (g0_point : Int32) (g0_end : Int32) (g0_begin : Int32) (g0_deep : Int32) (g0_faultAt : Int32) (g0_steps : Int32) (f1 : Nat → Int32) (f2 : Nat → Int32) : Prop :=
  ∃ n_2 : Nat, wpX11_park_2 post f3 n_2 g0_thrown g0_remembered g0_taped g0_point g0_end g0_begin g0_deep g0_faultAt g0_steps f1 f2 0
set_option maxRecDepth 100000 in
set_option maxHeartbeats 4000000 in
theorem bX11_park_92 {p : Program} {l : Launch} {e : Env} {s : State} {m : MethodId} {args : Array Value} {below : List Frame} {meth : Method} {c : Code} {dC : Nat → ClassId} {dI : Nat → Nat → Nat} {cyI cyB cyJ cyZ : ClassId} {A : Nat → Prop} {a0 a1 a2 a3 b0_image b0_taken b0_five b0_value b0_far b0_lead b0_walk b0_ends b0_manX b0_manY b0_dogX b0_dogY b0_row b0_round b0_farOne b0_leads b0_drags b0_from b0_near : Nat} {g0_hasImage : Int32} {g0_men : Int32} {g0_dogs : Int32} {adS : Nat → Nat} (C0 : cxM p s m meth c args wsX11_park RX11 cX11_park 3 (some .int)) (hK : va_K (dC, dI) vwCl (tyA cyI cyB cyJ cyZ) s) (hN : nwA s) (hA : ∀ q : Nat, s.heap.size ≤ q → A q) (hXs : (txA adS) A s s.heap) {post : Int32 → (Int32 × Int32 × Int32 × Int32 × Int32 × Int32 × Int32 × Int32 × Int32 × (Nat → Int32) × (Nat → Int32)) → Prop} {f3 : Nat → Int32} {Q : State → Prop} (hQ : Q = MQ below (va_Qi post (fun u : Int32 × Int32 × Int32 × Int32 × Int32 × Int32 × Int32 × Int32 × Int32 × (Nat → Int32) × (Nat → Int32) => wAt dC dI cyI cyB cyJ cyZ A (ceX11_park cyI cyB cyJ cyZ a0 a1 a2 a3 b0_image b0_taken b0_five b0_value b0_far b0_lead b0_walk b0_ends b0_manX b0_manY b0_dogX b0_dogY b0_row b0_round b0_farOne b0_leads b0_drags b0_from b0_near g0_hasImage g0_men g0_dogs f3 u.1 u.2.1 u.2.2.1 u.2.2.2.1 u.2.2.2.2.1 u.2.2.2.2.2.1 u.2.2.2.2.2.2.1 u.2.2.2.2.2.2.2.1 u.2.2.2.2.2.2.2.2.1 u.2.2.2.2.2.2.2.2.2.1 u.2.2.2.2.2.2.2.2.2.2)) A) args s 0 0 A) : ∀ (n : Nat) (g0_thrown : Int32) (g0_remembered : Int32) (g0_taped : Int32) (g0_point : Int32) (g0_end : Int32) (g0_begin : Int32) (g0_deep : Int32) (g0_faultAt : Int32) (g0_steps : Int32) (f1 : Nat → Int32) (f2 : Nat → Int32) (x2 : Int32), wpX11_park_92 post f3 n g0_thrown g0_remembered g0_taped g0_point g0_end g0_begin g0_deep g0_faultAt g0_steps f1 f2 x2 → AtW p l e rmX11_park s m args below meth c dC dI A Q 3 0 0 (ceX11_park cyI cyB cyJ cyZ a0 a1 a2 a3 b0_image b0_taken b0_five b0_value b0_far b0_lead b0_walk b0_ends b0_manX b0_manY b0_dogX b0_dogY b0_row b0_round b0_farOne b0_leads b0_drags b0_from b0_near g0_hasImage g0_men g0_dogs f3 g0_thrown g0_remembered g0_taped g0_point g0_end g0_begin g0_deep g0_faultAt g0_steps f1 f2) [(0, .ref a0), (2, .int x2)] 92 [] := by
  intro n
  induction n with
  | zero => intro g0_thrown g0_remembered g0_taped g0_point g0_end g0_begin g0_deep g0_faultAt g0_steps f1 f2 x2 hw; exact False.elim hw
  | succ n ih =>
    intro g0_thrown g0_remembered g0_taped g0_point g0_end g0_begin g0_deep g0_faultAt g0_steps f1 f2 x2 hw H locs hP hD hS ls hl
    have C1 := C0
    obtain ⟨hx, hb, hr, hml, hown, hts, hlocks⟩ := C1
    refine lv_iload_n hx hb dX11_park_92 rfl (lv_at hl 1 rfl) ?_
    refine lv_sipush (v := 1683) hx hb dX11_park_93 (by decide) ?_
    refine lv_icmp_ge (tgt := 117) hx hb dX11_park_96 (by decide) (fun hc => ?_) (fun hc => ?_)
    · have hw := hw.1 hc
      refine lv_iconst (v := 0) hx hb dX11_park_117 (by decide) ?_
      rw [hQ]
      exact W.iret (v := 0) hx hb hr (fun t ht hW => ⟨⟨0, (g0_thrown, g0_remembered, g0_taped, g0_point, g0_end, g0_begin, g0_deep, g0_faultAt, g0_steps, f1, f2), rfl, hw, by rw [ht]; exact hP, va_K.moved hW.alike hK, hD⟩, hS.F ht⟩) hS.2.2 dX11_park_118
    · have hw := hw.2 hc
      refine lv_aload_n hx hb dX11_park_99 rfl (lv_at hl 0 rfl) ?_
      refine va_get (D := (dC, dI)) (ci := 11) (v := .ref a1) (C := RX11) (T := TX11) (N := 34) hx hb hts inX11_park_X11 hown hK hP 0 rfl rfl 1 (by decide) (hts (.fieldLink RX11 13 "LeadParkModel" "world" "[I") (List.mem_of_getElem? (i := 2) rfl)) (fun _ h9 => h9) rfl dX11_park_100 ?_
      refine lv_iload_n hx hb dX11_park_103 rfl (lv_at hl 1 rfl) ?_
      refine lv_aload_n hx hb dX11_park_104 rfl (lv_at hl 0 rfl) ?_
      refine va_get (D := (dC, dI)) (ci := 11) (v := .ref a2) (C := RX11) (T := TX11) (N := 34) hx hb hts inX11_park_X11 hown hK hP 0 rfl rfl 3 (by decide) (hts (.fieldLink RX11 20 "LeadParkModel" "before" "[I") (List.mem_of_getElem? (i := 1) rfl)) (fun _ h9 => h9) rfl dX11_park_105 ?_
      refine lv_iload_n hx hb dX11_park_108 rfl (lv_at hl 1 rfl) ?_
      obtain ⟨hi, hw⟩ := hw
      refine va_iald hx hb hK hP 2 0 rfl rfl hi dX11_park_109 ?_
      obtain ⟨hi, hw⟩ := hw
      refine va_iast hx hb hK hP hD hS 1 0 rfl rfl hi dX11_park_110 (fun H locs hP hD hS => ?_)
      have hP : va_P (dC, dI) vwCl (ceX11_park cyI cyB cyJ cyZ a0 a1 a2 a3 b0_image b0_taken b0_five b0_value b0_far b0_lead b0_walk b0_ends b0_manX b0_manY b0_dogX b0_dogY b0_row b0_round b0_farOne b0_leads b0_drags b0_from b0_near g0_hasImage g0_men g0_dogs f3 g0_thrown g0_remembered g0_taped g0_point g0_end g0_begin g0_deep g0_faultAt g0_steps (upd f1 x2.toNatClampNeg (f2 x2.toNatClampNeg)) f2) H := hP
      have hD : va_D A (ceX11_park cyI cyB cyJ cyZ a0 a1 a2 a3 b0_image b0_taken b0_five b0_value b0_far b0_lead b0_walk b0_ends b0_manX b0_manY b0_dogX b0_dogY b0_row b0_round b0_farOne b0_leads b0_drags b0_from b0_near g0_hasImage g0_men g0_dogs f3 g0_thrown g0_remembered g0_taped g0_point g0_end g0_begin g0_deep g0_faultAt g0_steps (upd f1 x2.toNatClampNeg (f2 x2.toNatClampNeg)) f2) := hD
      obtain ⟨v1, ev1⟩ : ∃ y : Int32, y = x2 + 1 := ⟨_, rfl⟩
      have hw := hw v1 ev1
      refine lv_iinc (v := v1) (lv' := [(2, .int v1), (0, .ref a0)]) hx hb dX11_park_111 hl (k := 1) rfl (by rw [ev1]; rfl) (by decide) rfl (fun ls hl => ?_)
      refine lv_goto (tgt := 92) hx hb dX11_park_114 (by decide) ?_
      exact ih g0_thrown g0_remembered g0_taped g0_point g0_end g0_begin g0_deep g0_faultAt g0_steps (upd f1 x2.toNatClampNeg (f2 x2.toNatClampNeg)) f2 v1 hw H locs hP hD hS ls (lv_sub hl [1, 0] rfl)
set_option maxRecDepth 100000 in
set_option maxHeartbeats 4000000 in
theorem bX11_park_90 {p : Program} {l : Launch} {e : Env} {s : State} {m : MethodId} {args : Array Value} {below : List Frame} {meth : Method} {c : Code} {dC : Nat → ClassId} {dI : Nat → Nat → Nat} {cyI cyB cyJ cyZ : ClassId} {A : Nat → Prop} {a0 a1 a2 a3 b0_image b0_taken b0_five b0_value b0_far b0_lead b0_walk b0_ends b0_manX b0_manY b0_dogX b0_dogY b0_row b0_round b0_farOne b0_leads b0_drags b0_from b0_near : Nat} {g0_hasImage : Int32} {g0_men : Int32} {g0_dogs : Int32} {adS : Nat → Nat} (C0 : cxM p s m meth c args wsX11_park RX11 cX11_park 3 (some .int)) (hK : va_K (dC, dI) vwCl (tyA cyI cyB cyJ cyZ) s) (hN : nwA s) (hA : ∀ q : Nat, s.heap.size ≤ q → A q) (hXs : (txA adS) A s s.heap) {post : Int32 → (Int32 × Int32 × Int32 × Int32 × Int32 × Int32 × Int32 × Int32 × Int32 × (Nat → Int32) × (Nat → Int32)) → Prop} {f3 : Nat → Int32} {Q : State → Prop} (hQ : Q = MQ below (va_Qi post (fun u : Int32 × Int32 × Int32 × Int32 × Int32 × Int32 × Int32 × Int32 × Int32 × (Nat → Int32) × (Nat → Int32) => wAt dC dI cyI cyB cyJ cyZ A (ceX11_park cyI cyB cyJ cyZ a0 a1 a2 a3 b0_image b0_taken b0_five b0_value b0_far b0_lead b0_walk b0_ends b0_manX b0_manY b0_dogX b0_dogY b0_row b0_round b0_farOne b0_leads b0_drags b0_from b0_near g0_hasImage g0_men g0_dogs f3 u.1 u.2.1 u.2.2.1 u.2.2.2.1 u.2.2.2.2.1 u.2.2.2.2.2.1 u.2.2.2.2.2.2.1 u.2.2.2.2.2.2.2.1 u.2.2.2.2.2.2.2.2.1 u.2.2.2.2.2.2.2.2.2.1 u.2.2.2.2.2.2.2.2.2.2)) A) args s 0 0 A) : ∀ (g0_thrown : Int32) (g0_remembered : Int32) (g0_taped : Int32) (g0_point : Int32) (g0_end : Int32) (g0_begin : Int32) (g0_deep : Int32) (g0_faultAt : Int32) (g0_steps : Int32) (f1 : Nat → Int32) (f2 : Nat → Int32), wpX11_park_90 post f3 g0_thrown g0_remembered g0_taped g0_point g0_end g0_begin g0_deep g0_faultAt g0_steps f1 f2 → AtW p l e rmX11_park s m args below meth c dC dI A Q 3 0 0 (ceX11_park cyI cyB cyJ cyZ a0 a1 a2 a3 b0_image b0_taken b0_five b0_value b0_far b0_lead b0_walk b0_ends b0_manX b0_manY b0_dogX b0_dogY b0_row b0_round b0_farOne b0_leads b0_drags b0_from b0_near g0_hasImage g0_men g0_dogs f3 g0_thrown g0_remembered g0_taped g0_point g0_end g0_begin g0_deep g0_faultAt g0_steps f1 f2) [(0, .ref a0)] 90 [] := by
  intro g0_thrown g0_remembered g0_taped g0_point g0_end g0_begin g0_deep g0_faultAt g0_steps f1 f2 hw H locs hP hD hS ls hl
  have C1 := C0
  obtain ⟨hx, hb, hr, hml, hown, hts, hlocks⟩ := C1
  refine lv_iconst (v := 0) hx hb dX11_park_90 (by decide) ?_
  refine lv_istore_n (lv' := [(2, .int 0), (0, .ref a0)]) hx hb dX11_park_91 rfl hl (by decide) rfl (fun ls hl => ?_)
  obtain ⟨nn, hw⟩ := hw
  exact bX11_park_92 C0 hK hN hA hXs hQ nn g0_thrown g0_remembered g0_taped g0_point g0_end g0_begin g0_deep g0_faultAt g0_steps f1 f2 0 hw _ _ hP hD hS ls (lv_sub hl [1, 0] rfl)
set_option maxRecDepth 100000 in
set_option maxHeartbeats 4000000 in
theorem bX11_park_83 {p : Program} {l : Launch} {e : Env} {s : State} {m : MethodId} {args : Array Value} {below : List Frame} {meth : Method} {c : Code} {dC : Nat → ClassId} {dI : Nat → Nat → Nat} {cyI cyB cyJ cyZ : ClassId} {A : Nat → Prop} {a0 a1 a2 a3 b0_image b0_taken b0_five b0_value b0_far b0_lead b0_walk b0_ends b0_manX b0_manY b0_dogX b0_dogY b0_row b0_round b0_farOne b0_leads b0_drags b0_from b0_near : Nat} {g0_hasImage : Int32} {g0_men : Int32} {g0_dogs : Int32} {adS : Nat → Nat} (C0 : cxM p s m meth c args wsX11_park RX11 cX11_park 3 (some .int)) (hK : va_K (dC, dI) vwCl (tyA cyI cyB cyJ cyZ) s) (hN : nwA s) (hA : ∀ q : Nat, s.heap.size ≤ q → A q) (hXs : (txA adS) A s s.heap) {post : Int32 → (Int32 × Int32 × Int32 × Int32 × Int32 × Int32 × Int32 × Int32 × Int32 × (Nat → Int32) × (Nat → Int32)) → Prop} {f3 : Nat → Int32} {Q : State → Prop} (hQ : Q = MQ below (va_Qi post (fun u : Int32 × Int32 × Int32 × Int32 × Int32 × Int32 × Int32 × Int32 × Int32 × (Nat → Int32) × (Nat → Int32) => wAt dC dI cyI cyB cyJ cyZ A (ceX11_park cyI cyB cyJ cyZ a0 a1 a2 a3 b0_image b0_taken b0_five b0_value b0_far b0_lead b0_walk b0_ends b0_manX b0_manY b0_dogX b0_dogY b0_row b0_round b0_farOne b0_leads b0_drags b0_from b0_near g0_hasImage g0_men g0_dogs f3 u.1 u.2.1 u.2.2.1 u.2.2.2.1 u.2.2.2.2.1 u.2.2.2.2.2.1 u.2.2.2.2.2.2.1 u.2.2.2.2.2.2.2.1 u.2.2.2.2.2.2.2.2.1 u.2.2.2.2.2.2.2.2.2.1 u.2.2.2.2.2.2.2.2.2.2)) A) args s 0 0 A) : ∀ (g0_thrown : Int32) (g0_remembered : Int32) (g0_taped : Int32) (g0_point : Int32) (g0_end : Int32) (g0_begin : Int32) (g0_deep : Int32) (g0_faultAt : Int32) (g0_steps : Int32) (f1 : Nat → Int32) (f2 : Nat → Int32) (s1 : Int32), wpX11_park_83 post f3 g0_thrown g0_remembered g0_taped g0_point g0_end g0_begin g0_deep g0_faultAt g0_steps f1 f2 s1 → AtW p l e rmX11_park s m args below meth c dC dI A Q 3 0 0 (ceX11_park cyI cyB cyJ cyZ a0 a1 a2 a3 b0_image b0_taken b0_five b0_value b0_far b0_lead b0_walk b0_ends b0_manX b0_manY b0_dogX b0_dogY b0_row b0_round b0_farOne b0_leads b0_drags b0_from b0_near g0_hasImage g0_men g0_dogs f3 g0_thrown g0_remembered g0_taped g0_point g0_end g0_begin g0_deep g0_faultAt g0_steps f1 f2) [(0, .ref a0)] 83 [.int s1, .ref a0] := by
  intro g0_thrown g0_remembered g0_taped g0_point g0_end g0_begin g0_deep g0_faultAt g0_steps f1 f2 s1 hw H locs hP hD hS ls hl
  have C1 := C0
  obtain ⟨hx, hb, hr, hml, hown, hts, hlocks⟩ := C1
  refine lv_iconst (v := 2) hx hb dX11_park_83 (by decide) ?_
  have hPc := hP.sub (ws' := (ceX11_throwsIf cyI cyB cyJ cyZ a0 a1 b0_image a2 b0_taken a3 b0_five b0_value b0_far b0_lead b0_walk b0_ends b0_manX b0_manY b0_dogX b0_dogY b0_row b0_round b0_farOne b0_leads b0_drags b0_from b0_near g0_hasImage g0_remembered g0_taped g0_point g0_end g0_begin g0_deep g0_faultAt g0_steps g0_men g0_dogs g0_thrown)) [0] rfl
  have hDc := hD.sub (ws' := (ceX11_throwsIf cyI cyB cyJ cyZ a0 a1 b0_image a2 b0_taken a3 b0_five b0_value b0_far b0_lead b0_walk b0_ends b0_manX b0_manY b0_dogX b0_dogY b0_row b0_round b0_farOne b0_leads b0_drags b0_from b0_near g0_hasImage g0_remembered g0_taped g0_point g0_end g0_begin g0_deep g0_faultAt g0_steps g0_men g0_dogs g0_thrown)) [0] (by decide) rfl
  have hFc := va_free (wc := (ceX11_throwsIf cyI cyB cyJ cyZ a0 a1 b0_image a2 b0_taken a3 b0_five b0_value b0_far b0_lead b0_walk b0_ends b0_manX b0_manY b0_dogX b0_dogY b0_row b0_round b0_farOne b0_leads b0_drags b0_from b0_near g0_hasImage g0_remembered g0_taped g0_point g0_end g0_begin g0_deep g0_faultAt g0_steps g0_men g0_dogs g0_thrown)) hD hS hA [0] rfl
  refine va_calli (va_runV (As := [.int s1, .int 2]) (rest := []) ⟨hx, hb, hml, hown, hts⟩ (ctX11_throwsIf l dC dI cyI cyB cyJ cyZ _ a0 a1 b0_image a2 b0_taken a3 b0_five b0_value b0_far b0_lead b0_walk b0_ends b0_manX b0_manY b0_dogX b0_dogY b0_row b0_round b0_farOne b0_leads b0_drags b0_from b0_near g0_hasImage g0_remembered g0_taped g0_point g0_end g0_begin g0_deep g0_faultAt g0_steps g0_men g0_dogs g0_thrown s1 2 _ hw) (cwV 2 hts gX11_park_X11_throwsIf rfl rfl rfl (by decide +kernel) ⟨Nat.le_of_ble_eq_true rfl, Nat.le_of_ble_eq_true rfl⟩) ⟨wPre_blind, va_recv hK hPc (ci := 11) (q0 := 0) rfl rfl, fun U hU hW => wPre_of hPc hK hDc hN hU hW⟩ rfl rfl hl.1 rfl (lv_room (Nat.le_of_ble_eq_true rfl)) dX11_park_84 ⟨(Nat.zero_le _), (Nat.zero_le _)⟩) hS (fun q _ h => hFc q h) hFc (fun r2 u1 t H1 locs ht hvm hw hB hz1 hk1 hS => ?_)
  obtain ⟨hP1, hK1, hD1⟩ := hB
  rw [ht] at hP1
  obtain ⟨hP, hD⟩ := va_join (wr := pickW (ceX11_park cyI cyB cyJ cyZ a0 a1 a2 a3 b0_image b0_taken b0_five b0_value b0_far b0_lead b0_walk b0_ends b0_manX b0_manY b0_dogX b0_dogY b0_row b0_round b0_farOne b0_leads b0_drags b0_from b0_near g0_hasImage g0_men g0_dogs f3 g0_thrown g0_remembered g0_taped g0_point g0_end g0_begin g0_deep g0_faultAt g0_steps f1 f2) [1, 2, 3]) (w1 := (ceX11_throwsIf cyI cyB cyJ cyZ a0 a1 b0_image a2 b0_taken a3 b0_five b0_value b0_far b0_lead b0_walk b0_ends b0_manX b0_manY b0_dogX b0_dogY b0_row b0_round b0_farOne b0_leads b0_drags b0_from b0_near g0_hasImage g0_remembered g0_taped g0_point g0_end g0_begin g0_deep g0_faultAt g0_steps g0_men g0_dogs u1)) hP hD [0] [1, 2, 3] rfl rfl (by decide) (by decide) hk1 hFc hP1 hD1
  have hP := hP.sub (ws' := (ceX11_park cyI cyB cyJ cyZ a0 a1 a2 a3 b0_image b0_taken b0_five b0_value b0_far b0_lead b0_walk b0_ends b0_manX b0_manY b0_dogX b0_dogY b0_row b0_round b0_farOne b0_leads b0_drags b0_from b0_near g0_hasImage g0_men g0_dogs f3 u1 g0_remembered g0_taped g0_point g0_end g0_begin g0_deep g0_faultAt g0_steps f1 f2)) [3, 0, 1, 2] rfl
  have hD := hD.sub (ws' := (ceX11_park cyI cyB cyJ cyZ a0 a1 a2 a3 b0_image b0_taken b0_five b0_value b0_far b0_lead b0_walk b0_ends b0_manX b0_manY b0_dogX b0_dogY b0_row b0_round b0_farOne b0_leads b0_drags b0_from b0_near g0_hasImage g0_men g0_dogs f3 u1 g0_remembered g0_taped g0_point g0_end g0_begin g0_deep g0_faultAt g0_steps f1 f2)) [3, 0, 1, 2] (by decide) rfl
  generalize H1 = H at hP hS ⊢
  refine lv_if_eq (tgt := 119) hx hb dX11_park_87 (by decide) (fun hc => ?_) (fun hc => ?_)
  · have hw := hw.1 hc
    refine lv_aload_n hx hb dX11_park_119 rfl (lv_at hl 0 rfl) ?_
    refine va_get (D := (dC, dI)) (ci := 11) (v := .ref a1) (C := RX11) (T := TX11) (N := 34) hx hb hts inX11_park_X11 hown hK hP 0 rfl rfl 1 (by decide) (hts (.fieldLink RX11 13 "LeadParkModel" "world" "[I") (List.mem_of_getElem? (i := 2) rfl)) (fun _ h9 => h9) rfl dX11_park_120 ?_
    refine lv_iconst (v := 2) hx hb dX11_park_123 (by decide) ?_
    refine lv_dup2_11 hx hb dX11_park_124 rfl rfl ?_
    obtain ⟨hi, hw⟩ := hw
    refine va_iald hx hb hK hP 1 0 rfl rfl hi dX11_park_125 ?_
    refine lv_iconst (v := 1) hx hb dX11_park_126 (by decide) ?_
    refine lv_iadd hx hb dX11_park_127 ?_
    obtain ⟨hi, hw⟩ := hw
    refine va_iast hx hb hK hP hD hS 1 0 rfl rfl hi dX11_park_128 (fun H locs hP hD hS => ?_)
    have hP : va_P (dC, dI) vwCl (ceX11_park cyI cyB cyJ cyZ a0 a1 a2 a3 b0_image b0_taken b0_five b0_value b0_far b0_lead b0_walk b0_ends b0_manX b0_manY b0_dogX b0_dogY b0_row b0_round b0_farOne b0_leads b0_drags b0_from b0_near g0_hasImage g0_men g0_dogs f3 u1 g0_remembered g0_taped g0_point g0_end g0_begin g0_deep g0_faultAt g0_steps (upd f1 (2 : Int32).toNatClampNeg ((f1 (2 : Int32).toNatClampNeg) + 1)) f2) H := hP
    have hD : va_D A (ceX11_park cyI cyB cyJ cyZ a0 a1 a2 a3 b0_image b0_taken b0_five b0_value b0_far b0_lead b0_walk b0_ends b0_manX b0_manY b0_dogX b0_dogY b0_row b0_round b0_farOne b0_leads b0_drags b0_from b0_near g0_hasImage g0_men g0_dogs f3 u1 g0_remembered g0_taped g0_point g0_end g0_begin g0_deep g0_faultAt g0_steps (upd f1 (2 : Int32).toNatClampNeg ((f1 (2 : Int32).toNatClampNeg) + 1)) f2) := hD
    refine lv_aload_n hx hb dX11_park_129 rfl (lv_at hl 0 rfl) ?_
    have hPc := hP.sub (ws' := (ceX11_endsWalk cyI cyB cyJ cyZ a0 a1 b0_image a2 b0_taken a3 b0_five b0_value b0_far b0_lead b0_walk b0_ends b0_manX b0_manY b0_dogX b0_dogY b0_row b0_round b0_farOne b0_leads b0_drags b0_from b0_near u1 g0_hasImage g0_taped g0_point g0_end g0_begin g0_deep g0_faultAt g0_steps g0_men g0_dogs g0_remembered (upd f1 (2 : Int32).toNatClampNeg ((f1 (2 : Int32).toNatClampNeg) + 1)))) [0, 1] rfl
    have hDc := hD.sub (ws' := (ceX11_endsWalk cyI cyB cyJ cyZ a0 a1 b0_image a2 b0_taken a3 b0_five b0_value b0_far b0_lead b0_walk b0_ends b0_manX b0_manY b0_dogX b0_dogY b0_row b0_round b0_farOne b0_leads b0_drags b0_from b0_near u1 g0_hasImage g0_taped g0_point g0_end g0_begin g0_deep g0_faultAt g0_steps g0_men g0_dogs g0_remembered (upd f1 (2 : Int32).toNatClampNeg ((f1 (2 : Int32).toNatClampNeg) + 1)))) [0, 1] (by decide) rfl
    have hFc := va_free (wc := (ceX11_endsWalk cyI cyB cyJ cyZ a0 a1 b0_image a2 b0_taken a3 b0_five b0_value b0_far b0_lead b0_walk b0_ends b0_manX b0_manY b0_dogX b0_dogY b0_row b0_round b0_farOne b0_leads b0_drags b0_from b0_near u1 g0_hasImage g0_taped g0_point g0_end g0_begin g0_deep g0_faultAt g0_steps g0_men g0_dogs g0_remembered (upd f1 (2 : Int32).toNatClampNeg ((f1 (2 : Int32).toNatClampNeg) + 1)))) hD hS hA [0, 1] rfl
    refine va_callv (va_runV (As := []) (rest := []) ⟨hx, hb, hml, hown, hts⟩ (ctX11_endsWalk l dC dI cyI cyB cyJ cyZ _ a0 a1 b0_image a2 b0_taken a3 b0_five b0_value b0_far b0_lead b0_walk b0_ends b0_manX b0_manY b0_dogX b0_dogY b0_row b0_round b0_farOne b0_leads b0_drags b0_from b0_near u1 g0_hasImage g0_taped g0_point g0_end g0_begin g0_deep g0_faultAt g0_steps g0_men g0_dogs g0_remembered (upd f1 (2 : Int32).toNatClampNeg ((f1 (2 : Int32).toNatClampNeg) + 1)) _ hw) (cwV 0 hts gX11_park_X11_endsWalk rfl rfl rfl (by decide +kernel) ⟨Nat.le_of_ble_eq_true rfl, Nat.le_of_ble_eq_true rfl⟩) ⟨wPre_blind, va_recv hK hPc (ci := 11) (q0 := 0) rfl rfl, fun U hU hW => wPre_of hPc hK hDc hN hU hW⟩ rfl rfl hl.1 rfl (lv_room (Nat.le_of_ble_eq_true rfl)) dX11_park_130 ⟨(Nat.zero_le _), (Nat.zero_le _)⟩) hS (fun q _ h => hFc q h) hFc (fun u3 t H1 locs ht hvm hw hB hz1 hk1 hS => ?_)
    obtain ⟨hP1, hK1, hD1⟩ := hB
    rw [ht] at hP1
    obtain ⟨hP, hD⟩ := va_join (wr := pickW (ceX11_park cyI cyB cyJ cyZ a0 a1 a2 a3 b0_image b0_taken b0_five b0_value b0_far b0_lead b0_walk b0_ends b0_manX b0_manY b0_dogX b0_dogY b0_row b0_round b0_farOne b0_leads b0_drags b0_from b0_near g0_hasImage g0_men g0_dogs f3 u1 g0_remembered g0_taped g0_point g0_end g0_begin g0_deep g0_faultAt g0_steps (upd f1 (2 : Int32).toNatClampNeg ((f1 (2 : Int32).toNatClampNeg) + 1)) f2) [2, 3]) (w1 := (ceX11_endsWalk cyI cyB cyJ cyZ a0 a1 b0_image a2 b0_taken a3 b0_five b0_value b0_far b0_lead b0_walk b0_ends b0_manX b0_manY b0_dogX b0_dogY b0_row b0_round b0_farOne b0_leads b0_drags b0_from b0_near u1 g0_hasImage g0_taped g0_point g0_end g0_begin g0_deep g0_faultAt g0_steps g0_men g0_dogs u3.1 u3.2)) hP hD [0, 1] [2, 3] rfl rfl (by decide) (by decide) hk1 hFc hP1 hD1
    have hP := hP.sub (ws' := (ceX11_park cyI cyB cyJ cyZ a0 a1 a2 a3 b0_image b0_taken b0_five b0_value b0_far b0_lead b0_walk b0_ends b0_manX b0_manY b0_dogX b0_dogY b0_row b0_round b0_farOne b0_leads b0_drags b0_from b0_near g0_hasImage g0_men g0_dogs f3 u1 u3.1 g0_taped g0_point g0_end g0_begin g0_deep g0_faultAt g0_steps u3.2 f2)) [2, 3, 0, 1] rfl
    have hD := hD.sub (ws' := (ceX11_park cyI cyB cyJ cyZ a0 a1 a2 a3 b0_image b0_taken b0_five b0_value b0_far b0_lead b0_walk b0_ends b0_manX b0_manY b0_dogX b0_dogY b0_row b0_round b0_farOne b0_leads b0_drags b0_from b0_near g0_hasImage g0_men g0_dogs f3 u1 u3.1 g0_taped g0_point g0_end g0_begin g0_deep g0_faultAt g0_steps u3.2 f2)) [2, 3, 0, 1] (by decide) rfl
    generalize H1 = H at hP hS ⊢
    refine lv_aload_n hx hb dX11_park_133 rfl (lv_at hl 0 rfl) ?_
    refine va_get (D := (dC, dI)) (ci := 11) (v := .ref a1) (C := RX11) (T := TX11) (N := 34) hx hb hts inX11_park_X11 hown hK hP 0 rfl rfl 1 (by decide) (hts (.fieldLink RX11 13 "LeadParkModel" "world" "[I") (List.mem_of_getElem? (i := 2) rfl)) (fun _ h9 => h9) rfl dX11_park_134 ?_
    refine lv_iconst (v := 2) hx hb dX11_park_137 (by decide) ?_
    obtain ⟨hi, hw⟩ := hw
    refine va_iald hx hb hK hP 1 0 rfl rfl hi dX11_park_138 ?_
    rw [hQ]
    exact W.iret (v := u3.2 (2 : Int32).toNatClampNeg) hx hb hr (fun t ht hW => ⟨⟨u3.2 (2 : Int32).toNatClampNeg, (u1, u3.1, g0_taped, g0_point, g0_end, g0_begin, g0_deep, g0_faultAt, g0_steps, u3.2, f2), rfl, hw, by rw [ht]; exact hP, va_K.moved hW.alike hK, hD⟩, hS.F ht⟩) hS.2.2 dX11_park_139
  · have hw := hw.2 hc
    exact bX11_park_90 C0 hK hN hA hXs hQ u1 g0_remembered g0_taped g0_point g0_end g0_begin g0_deep g0_faultAt g0_steps f1 f2 hw _ _ hP hD hS ls (lv_sub hl [0] rfl)
set_option maxRecDepth 100000 in
set_option maxHeartbeats 4000000 in
theorem bX11_park_59 {p : Program} {l : Launch} {e : Env} {s : State} {m : MethodId} {args : Array Value} {below : List Frame} {meth : Method} {c : Code} {dC : Nat → ClassId} {dI : Nat → Nat → Nat} {cyI cyB cyJ cyZ : ClassId} {A : Nat → Prop} {a0 a1 a2 a3 b0_image b0_taken b0_five b0_value b0_far b0_lead b0_walk b0_ends b0_manX b0_manY b0_dogX b0_dogY b0_row b0_round b0_farOne b0_leads b0_drags b0_from b0_near : Nat} {g0_hasImage : Int32} {g0_men : Int32} {g0_dogs : Int32} {adS : Nat → Nat} (C0 : cxM p s m meth c args wsX11_park RX11 cX11_park 3 (some .int)) (hK : va_K (dC, dI) vwCl (tyA cyI cyB cyJ cyZ) s) (hN : nwA s) (hA : ∀ q : Nat, s.heap.size ≤ q → A q) (hXs : (txA adS) A s s.heap) {post : Int32 → (Int32 × Int32 × Int32 × Int32 × Int32 × Int32 × Int32 × Int32 × Int32 × (Nat → Int32) × (Nat → Int32)) → Prop} {f3 : Nat → Int32} {Q : State → Prop} (hQ : Q = MQ below (va_Qi post (fun u : Int32 × Int32 × Int32 × Int32 × Int32 × Int32 × Int32 × Int32 × Int32 × (Nat → Int32) × (Nat → Int32) => wAt dC dI cyI cyB cyJ cyZ A (ceX11_park cyI cyB cyJ cyZ a0 a1 a2 a3 b0_image b0_taken b0_five b0_value b0_far b0_lead b0_walk b0_ends b0_manX b0_manY b0_dogX b0_dogY b0_row b0_round b0_farOne b0_leads b0_drags b0_from b0_near g0_hasImage g0_men g0_dogs f3 u.1 u.2.1 u.2.2.1 u.2.2.2.1 u.2.2.2.2.1 u.2.2.2.2.2.1 u.2.2.2.2.2.2.1 u.2.2.2.2.2.2.2.1 u.2.2.2.2.2.2.2.2.1 u.2.2.2.2.2.2.2.2.2.1 u.2.2.2.2.2.2.2.2.2.2)) A) args s 0 0 A) : ∀ (g0_thrown : Int32) (g0_remembered : Int32) (g0_taped : Int32) (g0_point : Int32) (g0_end : Int32) (g0_begin : Int32) (g0_deep : Int32) (g0_faultAt : Int32) (g0_steps : Int32) (f1 : Nat → Int32) (f2 : Nat → Int32) (s1 : Int32), wpX11_park_59 post f3 g0_thrown g0_remembered g0_taped g0_point g0_end g0_begin g0_deep g0_faultAt g0_steps f1 f2 s1 → AtW p l e rmX11_park s m args below meth c dC dI A Q 3 0 0 (ceX11_park cyI cyB cyJ cyZ a0 a1 a2 a3 b0_image b0_taken b0_five b0_value b0_far b0_lead b0_walk b0_ends b0_manX b0_manY b0_dogX b0_dogY b0_row b0_round b0_farOne b0_leads b0_drags b0_from b0_near g0_hasImage g0_men g0_dogs f3 g0_thrown g0_remembered g0_taped g0_point g0_end g0_begin g0_deep g0_faultAt g0_steps f1 f2) [(0, .ref a0)] 59 [.int s1, .ref a0] := by
  intro g0_thrown g0_remembered g0_taped g0_point g0_end g0_begin g0_deep g0_faultAt g0_steps f1 f2 s1 hw H locs hP hD hS ls hl
  have C1 := C0
  obtain ⟨hx, hb, hr, hml, hown, hts, hlocks⟩ := C1
  refine lv_iconst (v := 1) hx hb dX11_park_59 (by decide) ?_
  have hPc := hP.sub (ws' := (ceX11_throwsIf cyI cyB cyJ cyZ a0 a1 b0_image a2 b0_taken a3 b0_five b0_value b0_far b0_lead b0_walk b0_ends b0_manX b0_manY b0_dogX b0_dogY b0_row b0_round b0_farOne b0_leads b0_drags b0_from b0_near g0_hasImage g0_remembered g0_taped g0_point g0_end g0_begin g0_deep g0_faultAt g0_steps g0_men g0_dogs g0_thrown)) [0] rfl
  have hDc := hD.sub (ws' := (ceX11_throwsIf cyI cyB cyJ cyZ a0 a1 b0_image a2 b0_taken a3 b0_five b0_value b0_far b0_lead b0_walk b0_ends b0_manX b0_manY b0_dogX b0_dogY b0_row b0_round b0_farOne b0_leads b0_drags b0_from b0_near g0_hasImage g0_remembered g0_taped g0_point g0_end g0_begin g0_deep g0_faultAt g0_steps g0_men g0_dogs g0_thrown)) [0] (by decide) rfl
  have hFc := va_free (wc := (ceX11_throwsIf cyI cyB cyJ cyZ a0 a1 b0_image a2 b0_taken a3 b0_five b0_value b0_far b0_lead b0_walk b0_ends b0_manX b0_manY b0_dogX b0_dogY b0_row b0_round b0_farOne b0_leads b0_drags b0_from b0_near g0_hasImage g0_remembered g0_taped g0_point g0_end g0_begin g0_deep g0_faultAt g0_steps g0_men g0_dogs g0_thrown)) hD hS hA [0] rfl
  refine va_calli (va_runV (As := [.int s1, .int 1]) (rest := []) ⟨hx, hb, hml, hown, hts⟩ (ctX11_throwsIf l dC dI cyI cyB cyJ cyZ _ a0 a1 b0_image a2 b0_taken a3 b0_five b0_value b0_far b0_lead b0_walk b0_ends b0_manX b0_manY b0_dogX b0_dogY b0_row b0_round b0_farOne b0_leads b0_drags b0_from b0_near g0_hasImage g0_remembered g0_taped g0_point g0_end g0_begin g0_deep g0_faultAt g0_steps g0_men g0_dogs g0_thrown s1 1 _ hw) (cwV 2 hts gX11_park_X11_throwsIf rfl rfl rfl (by decide +kernel) ⟨Nat.le_of_ble_eq_true rfl, Nat.le_of_ble_eq_true rfl⟩) ⟨wPre_blind, va_recv hK hPc (ci := 11) (q0 := 0) rfl rfl, fun U hU hW => wPre_of hPc hK hDc hN hU hW⟩ rfl rfl hl.1 rfl (lv_room (Nat.le_of_ble_eq_true rfl)) dX11_park_60 ⟨(Nat.zero_le _), (Nat.zero_le _)⟩) hS (fun q _ h => hFc q h) hFc (fun r2 u1 t H1 locs ht hvm hw hB hz1 hk1 hS => ?_)
  obtain ⟨hP1, hK1, hD1⟩ := hB
  rw [ht] at hP1
  obtain ⟨hP, hD⟩ := va_join (wr := pickW (ceX11_park cyI cyB cyJ cyZ a0 a1 a2 a3 b0_image b0_taken b0_five b0_value b0_far b0_lead b0_walk b0_ends b0_manX b0_manY b0_dogX b0_dogY b0_row b0_round b0_farOne b0_leads b0_drags b0_from b0_near g0_hasImage g0_men g0_dogs f3 g0_thrown g0_remembered g0_taped g0_point g0_end g0_begin g0_deep g0_faultAt g0_steps f1 f2) [1, 2, 3]) (w1 := (ceX11_throwsIf cyI cyB cyJ cyZ a0 a1 b0_image a2 b0_taken a3 b0_five b0_value b0_far b0_lead b0_walk b0_ends b0_manX b0_manY b0_dogX b0_dogY b0_row b0_round b0_farOne b0_leads b0_drags b0_from b0_near g0_hasImage g0_remembered g0_taped g0_point g0_end g0_begin g0_deep g0_faultAt g0_steps g0_men g0_dogs u1)) hP hD [0] [1, 2, 3] rfl rfl (by decide) (by decide) hk1 hFc hP1 hD1
  have hP := hP.sub (ws' := (ceX11_park cyI cyB cyJ cyZ a0 a1 a2 a3 b0_image b0_taken b0_five b0_value b0_far b0_lead b0_walk b0_ends b0_manX b0_manY b0_dogX b0_dogY b0_row b0_round b0_farOne b0_leads b0_drags b0_from b0_near g0_hasImage g0_men g0_dogs f3 u1 g0_remembered g0_taped g0_point g0_end g0_begin g0_deep g0_faultAt g0_steps f1 f2)) [3, 0, 1, 2] rfl
  have hD := hD.sub (ws' := (ceX11_park cyI cyB cyJ cyZ a0 a1 a2 a3 b0_image b0_taken b0_five b0_value b0_far b0_lead b0_walk b0_ends b0_manX b0_manY b0_dogX b0_dogY b0_row b0_round b0_farOne b0_leads b0_drags b0_from b0_near g0_hasImage g0_men g0_dogs f3 u1 g0_remembered g0_taped g0_point g0_end g0_begin g0_deep g0_faultAt g0_steps f1 f2)) [3, 0, 1, 2] (by decide) rfl
  generalize H1 = H at hP hS ⊢
  refine lv_if_ne (tgt := 90) hx hb dX11_park_63 (by decide) (fun hc => ?_) (fun hc => ?_)
  · have hw := hw.1 hc
    exact bX11_park_90 C0 hK hN hA hXs hQ u1 g0_remembered g0_taped g0_point g0_end g0_begin g0_deep g0_faultAt g0_steps f1 f2 hw _ _ hP hD hS ls (lv_sub hl [0] rfl)
  · have hw := hw.2 hc
    refine lv_aload_n hx hb dX11_park_66 rfl (lv_at hl 0 rfl) ?_
    refine lv_aload_n hx hb dX11_park_67 rfl (lv_at hl 0 rfl) ?_
    refine va_get (D := (dC, dI)) (ci := 11) (v := .ref a1) (C := RX11) (T := TX11) (N := 34) hx hb hts inX11_park_X11 hown hK hP 0 rfl rfl 1 (by decide) (hts (.fieldLink RX11 13 "LeadParkModel" "world" "[I") (List.mem_of_getElem? (i := 2) rfl)) (fun _ h9 => h9) rfl dX11_park_68 ?_
    refine lv_iconst (v := 2) hx hb dX11_park_71 (by decide) ?_
    obtain ⟨hi, hw⟩ := hw
    refine va_iald hx hb hK hP 1 0 rfl rfl hi dX11_park_72 ?_
    refine lv_bipush (v := 16) hx hb dX11_park_73 (by decide) ?_
    refine lv_icmp_ne (tgt := 82) hx hb dX11_park_75 (by decide) (fun hc => ?_) (fun hc => ?_)
    · have hw := hw.1 hc
      refine lv_iconst (v := 0) hx hb dX11_park_82 (by decide) ?_
      exact bX11_park_83 C0 hK hN hA hXs hQ u1 g0_remembered g0_taped g0_point g0_end g0_begin g0_deep g0_faultAt g0_steps f1 f2 0 hw _ _ hP hD hS ls (lv_sub hl [0] rfl)
    · have hw := hw.2 hc
      refine lv_iconst (v := 1) hx hb dX11_park_78 (by decide) ?_
      refine lv_goto (tgt := 83) hx hb dX11_park_79 (by decide) ?_
      exact bX11_park_83 C0 hK hN hA hXs hQ u1 g0_remembered g0_taped g0_point g0_end g0_begin g0_deep g0_faultAt g0_steps f1 f2 1 hw _ _ hP hD hS ls (lv_sub hl [0] rfl)
set_option maxRecDepth 100000 in
set_option maxHeartbeats 4000000 in
theorem bX11_park_46 {p : Program} {l : Launch} {e : Env} {s : State} {m : MethodId} {args : Array Value} {below : List Frame} {meth : Method} {c : Code} {dC : Nat → ClassId} {dI : Nat → Nat → Nat} {cyI cyB cyJ cyZ : ClassId} {A : Nat → Prop} {a0 a1 a2 a3 b0_image b0_taken b0_five b0_value b0_far b0_lead b0_walk b0_ends b0_manX b0_manY b0_dogX b0_dogY b0_row b0_round b0_farOne b0_leads b0_drags b0_from b0_near : Nat} {g0_hasImage : Int32} {g0_men : Int32} {g0_dogs : Int32} {adS : Nat → Nat} (C0 : cxM p s m meth c args wsX11_park RX11 cX11_park 3 (some .int)) (hK : va_K (dC, dI) vwCl (tyA cyI cyB cyJ cyZ) s) (hN : nwA s) (hA : ∀ q : Nat, s.heap.size ≤ q → A q) (hXs : (txA adS) A s s.heap) {post : Int32 → (Int32 × Int32 × Int32 × Int32 × Int32 × Int32 × Int32 × Int32 × Int32 × (Nat → Int32) × (Nat → Int32)) → Prop} {f3 : Nat → Int32} {Q : State → Prop} (hQ : Q = MQ below (va_Qi post (fun u : Int32 × Int32 × Int32 × Int32 × Int32 × Int32 × Int32 × Int32 × Int32 × (Nat → Int32) × (Nat → Int32) => wAt dC dI cyI cyB cyJ cyZ A (ceX11_park cyI cyB cyJ cyZ a0 a1 a2 a3 b0_image b0_taken b0_five b0_value b0_far b0_lead b0_walk b0_ends b0_manX b0_manY b0_dogX b0_dogY b0_row b0_round b0_farOne b0_leads b0_drags b0_from b0_near g0_hasImage g0_men g0_dogs f3 u.1 u.2.1 u.2.2.1 u.2.2.2.1 u.2.2.2.2.1 u.2.2.2.2.2.1 u.2.2.2.2.2.2.1 u.2.2.2.2.2.2.2.1 u.2.2.2.2.2.2.2.2.1 u.2.2.2.2.2.2.2.2.2.1 u.2.2.2.2.2.2.2.2.2.2)) A) args s 0 0 A) : ∀ (g0_thrown : Int32) (g0_remembered : Int32) (g0_taped : Int32) (g0_point : Int32) (g0_end : Int32) (g0_begin : Int32) (g0_deep : Int32) (g0_faultAt : Int32) (g0_steps : Int32) (f1 : Nat → Int32) (f2 : Nat → Int32) (x1 : Int32) (s1 : Int32), wpX11_park_46 post f3 g0_thrown g0_remembered g0_taped g0_point g0_end g0_begin g0_deep g0_faultAt g0_steps f1 f2 x1 s1 → AtW p l e rmX11_park s m args below meth c dC dI A Q 3 0 0 (ceX11_park cyI cyB cyJ cyZ a0 a1 a2 a3 b0_image b0_taken b0_five b0_value b0_far b0_lead b0_walk b0_ends b0_manX b0_manY b0_dogX b0_dogY b0_row b0_round b0_farOne b0_leads b0_drags b0_from b0_near g0_hasImage g0_men g0_dogs f3 g0_thrown g0_remembered g0_taped g0_point g0_end g0_begin g0_deep g0_faultAt g0_steps f1 f2) [(0, .ref a0), (1, .int x1)] 46 [.int s1, .ref a0] := by
  intro g0_thrown g0_remembered g0_taped g0_point g0_end g0_begin g0_deep g0_faultAt g0_steps f1 f2 x1 s1 hw H locs hP hD hS ls hl
  have C1 := C0
  obtain ⟨hx, hb, hr, hml, hown, hts, hlocks⟩ := C1
  refine va_put (D := (dC, dI)) (ci := 11) (v := .int s1) (ty := .int) (C := RX11) (T := TX11) (N := 34) hx hb hts inX11_park_X11 tyX11 tyX11_ok nmX11 hown hK hP hD hS 0 rfl rfl 13 (by decide) (hts (.fieldLink RX11 30 "LeadParkModel" "faultAt" "I") (List.mem_of_getElem? (i := 4) rfl)) (fun _ h9 => h9) rfl (by decide +kernel) rfl rfl (Nat.le_of_ble_eq_true rfl) dX11_park_46 (fun H locs hP hD hS => ?_)
  have hP : va_P (dC, dI) vwCl (ceX11_park cyI cyB cyJ cyZ a0 a1 a2 a3 b0_image b0_taken b0_five b0_value b0_far b0_lead b0_walk b0_ends b0_manX b0_manY b0_dogX b0_dogY b0_row b0_round b0_farOne b0_leads b0_drags b0_from b0_near g0_hasImage g0_men g0_dogs f3 g0_thrown g0_remembered g0_taped g0_point g0_end g0_begin g0_deep s1 g0_steps f1 f2) H := hP
  have hD : va_D A (ceX11_park cyI cyB cyJ cyZ a0 a1 a2 a3 b0_image b0_taken b0_five b0_value b0_far b0_lead b0_walk b0_ends b0_manX b0_manY b0_dogX b0_dogY b0_row b0_round b0_farOne b0_leads b0_drags b0_from b0_near g0_hasImage g0_men g0_dogs f3 g0_thrown g0_remembered g0_taped g0_point g0_end g0_begin g0_deep s1 g0_steps f1 f2) := hD
  refine lv_aload_n hx hb dX11_park_49 rfl (lv_at hl 0 rfl) ?_
  refine lv_iload_n hx hb dX11_park_50 rfl (lv_at hl 1 rfl) ?_
  refine lv_if_ge (tgt := 58) hx hb dX11_park_51 (by decide) (fun hc => ?_) (fun hc => ?_)
  · have hw := hw.1 hc
    refine lv_iconst (v := 0) hx hb dX11_park_58 (by decide) ?_
    exact bX11_park_59 C0 hK hN hA hXs hQ g0_thrown g0_remembered g0_taped g0_point g0_end g0_begin g0_deep s1 g0_steps f1 f2 0 hw _ _ hP hD hS ls (lv_sub hl [0] rfl)
  · have hw := hw.2 hc
    refine lv_iconst (v := 1) hx hb dX11_park_54 (by decide) ?_
    refine lv_goto (tgt := 59) hx hb dX11_park_55 (by decide) ?_
    exact bX11_park_59 C0 hK hN hA hXs hQ g0_thrown g0_remembered g0_taped g0_point g0_end g0_begin g0_deep s1 g0_steps f1 f2 1 hw _ _ hP hD hS ls (lv_sub hl [0] rfl)
set_option maxRecDepth 100000 in
set_option maxHeartbeats 4000000 in
theorem bX11_park_2 {p : Program} {l : Launch} {e : Env} {s : State} {m : MethodId} {args : Array Value} {below : List Frame} {meth : Method} {c : Code} {dC : Nat → ClassId} {dI : Nat → Nat → Nat} {cyI cyB cyJ cyZ : ClassId} {A : Nat → Prop} {a0 a1 a2 a3 b0_image b0_taken b0_five b0_value b0_far b0_lead b0_walk b0_ends b0_manX b0_manY b0_dogX b0_dogY b0_row b0_round b0_farOne b0_leads b0_drags b0_from b0_near : Nat} {g0_hasImage : Int32} {g0_men : Int32} {g0_dogs : Int32} {adS : Nat → Nat} (C0 : cxM p s m meth c args wsX11_park RX11 cX11_park 3 (some .int)) (hK : va_K (dC, dI) vwCl (tyA cyI cyB cyJ cyZ) s) (hN : nwA s) (hA : ∀ q : Nat, s.heap.size ≤ q → A q) (hXs : (txA adS) A s s.heap) {post : Int32 → (Int32 × Int32 × Int32 × Int32 × Int32 × Int32 × Int32 × Int32 × Int32 × (Nat → Int32) × (Nat → Int32)) → Prop} {f3 : Nat → Int32} {Q : State → Prop} (hQ : Q = MQ below (va_Qi post (fun u : Int32 × Int32 × Int32 × Int32 × Int32 × Int32 × Int32 × Int32 × Int32 × (Nat → Int32) × (Nat → Int32) => wAt dC dI cyI cyB cyJ cyZ A (ceX11_park cyI cyB cyJ cyZ a0 a1 a2 a3 b0_image b0_taken b0_five b0_value b0_far b0_lead b0_walk b0_ends b0_manX b0_manY b0_dogX b0_dogY b0_row b0_round b0_farOne b0_leads b0_drags b0_from b0_near g0_hasImage g0_men g0_dogs f3 u.1 u.2.1 u.2.2.1 u.2.2.2.1 u.2.2.2.2.1 u.2.2.2.2.2.1 u.2.2.2.2.2.2.1 u.2.2.2.2.2.2.2.1 u.2.2.2.2.2.2.2.2.1 u.2.2.2.2.2.2.2.2.2.1 u.2.2.2.2.2.2.2.2.2.2)) A) args s 0 0 A) : ∀ (n : Nat) (g0_thrown : Int32) (g0_remembered : Int32) (g0_taped : Int32) (g0_point : Int32) (g0_end : Int32) (g0_begin : Int32) (g0_deep : Int32) (g0_faultAt : Int32) (g0_steps : Int32) (f1 : Nat → Int32) (f2 : Nat → Int32) (x1 : Int32), wpX11_park_2 post f3 n g0_thrown g0_remembered g0_taped g0_point g0_end g0_begin g0_deep g0_faultAt g0_steps f1 f2 x1 → AtW p l e rmX11_park s m args below meth c dC dI A Q 3 0 0 (ceX11_park cyI cyB cyJ cyZ a0 a1 a2 a3 b0_image b0_taken b0_five b0_value b0_far b0_lead b0_walk b0_ends b0_manX b0_manY b0_dogX b0_dogY b0_row b0_round b0_farOne b0_leads b0_drags b0_from b0_near g0_hasImage g0_men g0_dogs f3 g0_thrown g0_remembered g0_taped g0_point g0_end g0_begin g0_deep g0_faultAt g0_steps f1 f2) [(0, .ref a0), (1, .int x1)] 2 [] := by
  intro n
  induction n with
  | zero => intro g0_thrown g0_remembered g0_taped g0_point g0_end g0_begin g0_deep g0_faultAt g0_steps f1 f2 x1 hw; exact False.elim hw
  | succ n ih =>
    intro g0_thrown g0_remembered g0_taped g0_point g0_end g0_begin g0_deep g0_faultAt g0_steps f1 f2 x1 hw H locs hP hD hS ls hl
    have C1 := C0
    obtain ⟨hx, hb, hr, hml, hown, hts, hlocks⟩ := C1
    refine lv_iload_n hx hb dX11_park_2 rfl (lv_at hl 1 rfl) ?_
    refine lv_sipush (v := 1683) hx hb dX11_park_3 (by decide) ?_
    refine lv_icmp_ge (tgt := 27) hx hb dX11_park_6 (by decide) (fun hc => ?_) (fun hc => ?_)
    · have hw := hw.1 hc
      refine lv_aload_n hx hb dX11_park_27 rfl (lv_at hl 0 rfl) ?_
      refine lv_iconst (v := 1) hx hb dX11_park_28 (by decide) ?_
      have hPc := hP.sub (ws' := (ceX11_readAll cyI cyB cyJ cyZ a0 a3 a1 b0_image a2 b0_taken b0_five b0_value b0_far b0_lead b0_walk b0_ends b0_manX b0_manY b0_dogX b0_dogY b0_row b0_round b0_farOne b0_leads b0_drags b0_from b0_near g0_hasImage g0_remembered g0_faultAt g0_men g0_dogs f3 g0_thrown g0_taped g0_point g0_end g0_begin g0_deep g0_steps f1)) [0, 3, 1] rfl
      have hDc := hD.sub (ws' := (ceX11_readAll cyI cyB cyJ cyZ a0 a3 a1 b0_image a2 b0_taken b0_five b0_value b0_far b0_lead b0_walk b0_ends b0_manX b0_manY b0_dogX b0_dogY b0_row b0_round b0_farOne b0_leads b0_drags b0_from b0_near g0_hasImage g0_remembered g0_faultAt g0_men g0_dogs f3 g0_thrown g0_taped g0_point g0_end g0_begin g0_deep g0_steps f1)) [0, 3, 1] (by decide) rfl
      have hFc := va_free (wc := (ceX11_readAll cyI cyB cyJ cyZ a0 a3 a1 b0_image a2 b0_taken b0_five b0_value b0_far b0_lead b0_walk b0_ends b0_manX b0_manY b0_dogX b0_dogY b0_row b0_round b0_farOne b0_leads b0_drags b0_from b0_near g0_hasImage g0_remembered g0_faultAt g0_men g0_dogs f3 g0_thrown g0_taped g0_point g0_end g0_begin g0_deep g0_steps f1)) hD hS hA [0, 3, 1] rfl
      refine va_calli (va_runV (As := [.int 1]) (rest := []) ⟨hx, hb, hml, hown, hts⟩ (ctX11_readAll l dC dI cyI cyB cyJ cyZ _ a0 a3 a1 b0_image a2 b0_taken b0_five b0_value b0_far b0_lead b0_walk b0_ends b0_manX b0_manY b0_dogX b0_dogY b0_row b0_round b0_farOne b0_leads b0_drags b0_from b0_near g0_hasImage g0_remembered g0_faultAt g0_men g0_dogs f3 g0_thrown g0_taped g0_point g0_end g0_begin g0_deep g0_steps f1 1 _ adS hw) (cwV 1 hts gX11_park_X11_readAll rfl rfl rfl (by decide +kernel) ⟨Nat.le_of_ble_eq_true rfl, Nat.le_of_ble_eq_true rfl⟩) ⟨wPreX_blind (xOk_txA adS), va_recv hK hPc (ci := 11) (q0 := 0) rfl rfl, fun U hU hW => wPreX_of (xOk_txA adS) hPc hK hDc hN hXs hS hFc hU hW⟩ rfl rfl hl.1 rfl (lv_room (Nat.le_of_ble_eq_true rfl)) dX11_park_29 ⟨(Nat.zero_le _), (Nat.zero_le _)⟩) hS (fun q _ h => hFc q h) hFc (fun r2 u1 t H1 locs ht hvm hw hB hz1 hk1 hS => ?_)
      obtain ⟨hP1, hK1, hD1⟩ := hB
      rw [ht] at hP1
      obtain ⟨hP, hD⟩ := va_join (wr := pickW (ceX11_park cyI cyB cyJ cyZ a0 a1 a2 a3 b0_image b0_taken b0_five b0_value b0_far b0_lead b0_walk b0_ends b0_manX b0_manY b0_dogX b0_dogY b0_row b0_round b0_farOne b0_leads b0_drags b0_from b0_near g0_hasImage g0_men g0_dogs f3 g0_thrown g0_remembered g0_taped g0_point g0_end g0_begin g0_deep g0_faultAt g0_steps f1 f2) [2]) (w1 := (ceX11_readAll cyI cyB cyJ cyZ a0 a3 a1 b0_image a2 b0_taken b0_five b0_value b0_far b0_lead b0_walk b0_ends b0_manX b0_manY b0_dogX b0_dogY b0_row b0_round b0_farOne b0_leads b0_drags b0_from b0_near g0_hasImage g0_remembered g0_faultAt g0_men g0_dogs f3 u1.1 u1.2.1 u1.2.2.1 u1.2.2.2.1 u1.2.2.2.2.1 u1.2.2.2.2.2.1 u1.2.2.2.2.2.2.1 u1.2.2.2.2.2.2.2)) hP hD [0, 3, 1] [2] rfl rfl (by decide) (by decide) hk1 hFc hP1 hD1
      have hP := hP.sub (ws' := (ceX11_park cyI cyB cyJ cyZ a0 a1 a2 a3 b0_image b0_taken b0_five b0_value b0_far b0_lead b0_walk b0_ends b0_manX b0_manY b0_dogX b0_dogY b0_row b0_round b0_farOne b0_leads b0_drags b0_from b0_near g0_hasImage g0_men g0_dogs f3 u1.1 g0_remembered u1.2.1 u1.2.2.1 u1.2.2.2.1 u1.2.2.2.2.1 u1.2.2.2.2.2.1 g0_faultAt u1.2.2.2.2.2.2.1 u1.2.2.2.2.2.2.2 f2)) [1, 3, 0, 2] rfl
      have hD := hD.sub (ws' := (ceX11_park cyI cyB cyJ cyZ a0 a1 a2 a3 b0_image b0_taken b0_five b0_value b0_far b0_lead b0_walk b0_ends b0_manX b0_manY b0_dogX b0_dogY b0_row b0_round b0_farOne b0_leads b0_drags b0_from b0_near g0_hasImage g0_men g0_dogs f3 u1.1 g0_remembered u1.2.1 u1.2.2.1 u1.2.2.2.1 u1.2.2.2.2.1 u1.2.2.2.2.2.1 g0_faultAt u1.2.2.2.2.2.2.1 u1.2.2.2.2.2.2.2 f2)) [1, 3, 0, 2] (by decide) rfl
      generalize H1 = H at hP hS ⊢
      refine lv_istore_n (lv' := [(1, .int r2), (0, .ref a0)]) hx hb dX11_park_32 rfl hl (by decide) rfl (fun ls hl => ?_)
      refine lv_aload_n hx hb dX11_park_33 rfl (lv_at hl 1 rfl) ?_
      refine lv_iload_n hx hb dX11_park_34 rfl (lv_at hl 0 rfl) ?_
      refine lv_if_ge (tgt := 45) hx hb dX11_park_35 (by decide) (fun hc => ?_) (fun hc => ?_)
      · have hw := hw.1 hc
        refine lv_iconst (v := (-1)) hx hb dX11_park_45 (by decide) ?_
        exact bX11_park_46 C0 hK hN hA hXs hQ u1.1 g0_remembered u1.2.1 u1.2.2.1 u1.2.2.2.1 u1.2.2.2.2.1 u1.2.2.2.2.2.1 g0_faultAt u1.2.2.2.2.2.2.1 u1.2.2.2.2.2.2.2 f2 r2 (-1) hw _ _ hP hD hS ls (lv_sub hl [1, 0] rfl)
      · have hw := hw.2 hc
        refine lv_aload_n hx hb dX11_park_38 rfl (lv_at hl 1 rfl) ?_
        refine va_get (D := (dC, dI)) (ci := 11) (v := .int u1.2.2.2.2.1) (C := RX11) (T := TX11) (N := 34) hx hb hts inX11_park_X11 hown hK hP 0 rfl rfl 11 (by decide) (hts (.fieldLink RX11 122 "LeadParkModel" "begin" "I") (List.mem_of_getElem? (i := 3) rfl)) (fun _ h9 => h9) rfl dX11_park_39 ?_
        refine lv_goto (tgt := 46) hx hb dX11_park_42 (by decide) ?_
        exact bX11_park_46 C0 hK hN hA hXs hQ u1.1 g0_remembered u1.2.1 u1.2.2.1 u1.2.2.2.1 u1.2.2.2.2.1 u1.2.2.2.2.2.1 g0_faultAt u1.2.2.2.2.2.2.1 u1.2.2.2.2.2.2.2 f2 r2 u1.2.2.2.2.1 hw _ _ hP hD hS ls (lv_sub hl [1, 0] rfl)
    · have hw := hw.2 hc
      refine lv_aload_n hx hb dX11_park_9 rfl (lv_at hl 0 rfl) ?_
      refine va_get (D := (dC, dI)) (ci := 11) (v := .ref a2) (C := RX11) (T := TX11) (N := 34) hx hb hts inX11_park_X11 hown hK hP 0 rfl rfl 3 (by decide) (hts (.fieldLink RX11 20 "LeadParkModel" "before" "[I") (List.mem_of_getElem? (i := 1) rfl)) (fun _ h9 => h9) rfl dX11_park_10 ?_
      refine lv_iload_n hx hb dX11_park_13 rfl (lv_at hl 1 rfl) ?_
      refine lv_aload_n hx hb dX11_park_14 rfl (lv_at hl 0 rfl) ?_
      refine va_get (D := (dC, dI)) (ci := 11) (v := .ref a1) (C := RX11) (T := TX11) (N := 34) hx hb hts inX11_park_X11 hown hK hP 0 rfl rfl 1 (by decide) (hts (.fieldLink RX11 13 "LeadParkModel" "world" "[I") (List.mem_of_getElem? (i := 2) rfl)) (fun _ h9 => h9) rfl dX11_park_15 ?_
      refine lv_iload_n hx hb dX11_park_18 rfl (lv_at hl 1 rfl) ?_
      obtain ⟨hi, hw⟩ := hw
      refine va_iald hx hb hK hP 1 0 rfl rfl hi dX11_park_19 ?_
      obtain ⟨hi, hw⟩ := hw
      refine va_iast hx hb hK hP hD hS 2 0 rfl rfl hi dX11_park_20 (fun H locs hP hD hS => ?_)
      have hP : va_P (dC, dI) vwCl (ceX11_park cyI cyB cyJ cyZ a0 a1 a2 a3 b0_image b0_taken b0_five b0_value b0_far b0_lead b0_walk b0_ends b0_manX b0_manY b0_dogX b0_dogY b0_row b0_round b0_farOne b0_leads b0_drags b0_from b0_near g0_hasImage g0_men g0_dogs f3 g0_thrown g0_remembered g0_taped g0_point g0_end g0_begin g0_deep g0_faultAt g0_steps f1 (upd f2 x1.toNatClampNeg (f1 x1.toNatClampNeg))) H := hP
      have hD : va_D A (ceX11_park cyI cyB cyJ cyZ a0 a1 a2 a3 b0_image b0_taken b0_five b0_value b0_far b0_lead b0_walk b0_ends b0_manX b0_manY b0_dogX b0_dogY b0_row b0_round b0_farOne b0_leads b0_drags b0_from b0_near g0_hasImage g0_men g0_dogs f3 g0_thrown g0_remembered g0_taped g0_point g0_end g0_begin g0_deep g0_faultAt g0_steps f1 (upd f2 x1.toNatClampNeg (f1 x1.toNatClampNeg))) := hD
      obtain ⟨v3, ev3⟩ : ∃ y : Int32, y = x1 + 1 := ⟨_, rfl⟩
      have hw := hw v3 ev3
      refine lv_iinc (v := v3) (lv' := [(1, .int v3), (0, .ref a0)]) hx hb dX11_park_21 hl (k := 1) rfl (by rw [ev3]; rfl) (by decide) rfl (fun ls hl => ?_)
      refine lv_goto (tgt := 2) hx hb dX11_park_24 (by decide) ?_
      exact ih g0_thrown g0_remembered g0_taped g0_point g0_end g0_begin g0_deep g0_faultAt g0_steps f1 (upd f2 x1.toNatClampNeg (f1 x1.toNatClampNeg)) v3 hw H locs hP hD hS ls (lv_sub hl [1, 0] rfl)
set_option maxRecDepth 100000 in
set_option maxHeartbeats 4000000 in
theorem ctX11_park (l : Launch) (dC : Nat → ClassId) (dI : Nat → Nat → Nat) (cyI cyB cyJ cyZ : ClassId) (sz : Nat) (a0 a1 a2 a3 b0_image b0_taken b0_five b0_value b0_far b0_lead b0_walk b0_ends b0_manX b0_manY b0_dogX b0_dogY b0_row b0_round b0_farOne b0_leads b0_drags b0_from b0_near : Nat) (g0_hasImage : Int32) (g0_men : Int32) (g0_dogs : Int32) (f3 : Nat → Int32) (g0_thrown : Int32) (g0_remembered : Int32) (g0_taped : Int32) (g0_point : Int32) (g0_end : Int32) (g0_begin : Int32) (g0_deep : Int32) (g0_faultAt : Int32) (g0_steps : Int32) (f1 : Nat → Int32) (f2 : Nat → Int32) (post : Int32 → (Int32 × Int32 × Int32 × Int32 × Int32 × Int32 × Int32 × Int32 × Int32 × (Nat → Int32) × (Nat → Int32)) → Prop) (adS : Nat → Nat) (hw : wpX11_park post f3 g0_thrown g0_remembered g0_taped g0_point g0_end g0_begin g0_deep g0_faultAt g0_steps f1 f2 ) : Met l yX11_park wsX11_park rmX11_park (va_Pc [.ref a0] (wPreX dC dI cyI cyB cyJ cyZ sz (ceX11_park cyI cyB cyJ cyZ a0 a1 a2 a3 b0_image b0_taken b0_five b0_value b0_far b0_lead b0_walk b0_ends b0_manX b0_manY b0_dogX b0_dogY b0_row b0_round b0_farOne b0_leads b0_drags b0_from b0_near g0_hasImage g0_men g0_dogs f3 g0_thrown g0_remembered g0_taped g0_point g0_end g0_begin g0_deep g0_faultAt g0_steps f1 f2) (txA adS))) (va_Qi post (fun u : Int32 × Int32 × Int32 × Int32 × Int32 × Int32 × Int32 × Int32 × Int32 × (Nat → Int32) × (Nat → Int32) => wAt dC dI cyI cyB cyJ cyZ (va_A (ceX11_park cyI cyB cyJ cyZ a0 a1 a2 a3 b0_image b0_taken b0_five b0_value b0_far b0_lead b0_walk b0_ends b0_manX b0_manY b0_dogX b0_dogY b0_row b0_round b0_farOne b0_leads b0_drags b0_from b0_near g0_hasImage g0_men g0_dogs f3 g0_thrown g0_remembered g0_taped g0_point g0_end g0_begin g0_deep g0_faultAt g0_steps f1 f2) sz) (ceX11_park cyI cyB cyJ cyZ a0 a1 a2 a3 b0_image b0_taken b0_five b0_value b0_far b0_lead b0_walk b0_ends b0_manX b0_manY b0_dogX b0_dogY b0_row b0_round b0_farOne b0_leads b0_drags b0_from b0_near g0_hasImage g0_men g0_dogs f3 u.1 u.2.1 u.2.2.1 u.2.2.2.1 u.2.2.2.2.1 u.2.2.2.2.2.1 u.2.2.2.2.2.2.1 u.2.2.2.2.2.2.2.1 u.2.2.2.2.2.2.2.2.1 u.2.2.2.2.2.2.2.2.2.1 u.2.2.2.2.2.2.2.2.2.2)) (va_A (ceX11_park cyI cyB cyJ cyZ a0 a1 a2 a3 b0_image b0_taken b0_five b0_value b0_far b0_lead b0_walk b0_ends b0_manX b0_manY b0_dogX b0_dogY b0_row b0_round b0_farOne b0_leads b0_drags b0_from b0_near g0_hasImage g0_men g0_dogs f3 g0_thrown g0_remembered g0_taped g0_point g0_end g0_begin g0_deep g0_faultAt g0_steps f1 f2) sz)) 0 0 (va_A (ceX11_park cyI cyB cyJ cyZ a0 a1 a2 a3 b0_image b0_taken b0_five b0_value b0_far b0_lead b0_walk b0_ends b0_manX b0_manY b0_dogX b0_dogY b0_row b0_round b0_farOne b0_leads b0_drags b0_from b0_near g0_hasImage g0_men g0_dogs f3 g0_thrown g0_remembered g0_taped g0_point g0_end g0_begin g0_deep g0_faultAt g0_steps f1 f2) sz) := by
  refine Met.ofW (cc := cX11_park) (maxL := 3) (ret := (some .int)) (by decide) rfl ?_
  intro p e s m args below meth c s₁ B hml hv
  obtain ⟨rfl, ⟨hsz, hP, hK, hD0, hN⟩, hXs⟩ := hv
  have hx := B.exec
  have hb := B.bytes
  have hr := B.returns
  have hts := atoms_spec (ws := wsX11_park) B.pre
  have hown : s.vm.findClass RX11 = some m.cls := findClass_of_methodNamed B.named
  have hlocks := B.notSynchronized
  subst hsz
  have hD := hD0.self (sz := s.heap.size)
  generalize hAe : va_A (ceX11_park cyI cyB cyJ cyZ a0 a1 a2 a3 b0_image b0_taken b0_five b0_value b0_far b0_lead b0_walk b0_ends b0_manX b0_manY b0_dogX b0_dogY b0_row b0_round b0_farOne b0_leads b0_drags b0_from b0_near g0_hasImage g0_men g0_dogs f3 g0_thrown g0_remembered g0_taped g0_point g0_end g0_begin g0_deep g0_faultAt g0_steps f1 f2) s.heap.size = A at hD hXs ⊢
  have hA : ∀ q : Nat, s.heap.size ≤ q → A q := fun q h => by rw [← hAe]; exact Or.inr h
  have hS : va_S A s.heap s.heap [] := va_S.rf
  have C0 : cxM p s m meth c _ wsX11_park RX11 cX11_park 3 (some .int) := ⟨hx, hb, hr, hml, hown, hts, hlocks⟩
  have hl := lv_entry ([.ref a0]) (n := 3) (Nat.le_of_ble_eq_true rfl)
  rw [lg_entry_eq]
  generalize (lg_sl ([.ref a0]) ++ List.replicate (3 - (lg_sl ([.ref a0])).length) Slot.unset).toArray = ls at hl ⊢
  have hl : lv_has ls 3 [(0, .ref a0)] := hl
  show W p l e rmX11_park s m _ below meth c _ _ _ _ _ _
  refine wq (fun Q hQ => ?_)
  refine lv_iconst (v := 0) hx hb dX11_park_0 (by decide) ?_
  refine lv_istore_n (lv' := [(1, .int 0), (0, .ref a0)]) hx hb dX11_park_1 rfl hl (by decide) rfl (fun ls hl => ?_)
  obtain ⟨nn, hw⟩ := hw
  exact bX11_park_2 C0 hK hN hA hXs hQ nn g0_thrown g0_remembered g0_taped g0_point g0_end g0_begin g0_deep g0_faultAt g0_steps f1 f2 0 hw _ _ hP hD hS ls (lv_sub hl [1, 0] rfl)
