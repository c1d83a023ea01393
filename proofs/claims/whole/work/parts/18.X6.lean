/-! LeadPark$Scene.copyFrom (LLeadPark$Scene;)V -/
abbrev ceX6_copyFrom (cyI cyB cyJ cyZ : ClassId) (a0 a1 a2 a3 a4 a5 a6 a7 a8 a9 a10 a11 a12 a13 a14 a15 a16 a17 a18 a19 a20 a21 a22 a23 a24 a25 a26 a27 b6_seen b13_steps b13_greatestAhead b20_seen b27_steps b27_greatestAhead : Nat) (g27_remembered : Int32) (g14_drawSeed : Int32) (g15_ways : Int32) (g15_wallCount : Int32) (g15_texts : Int32) (f16 : Nat → Int32) (f17 : Nat → Int32) (f18 : Nat → Int32) (f19 : Nat → Int32) (g20_size : Int32) (g20_lines : Int32) (f21 : Nat → Int32) (g22_size : Int32) (f23 : Nat → Int32) (f24 : Nat → Int32) (f25 : Nat → Int32) (f26 : Nat → Int32) (g27_underWay : Int32) (g27_way : Int32) (g27_other : Int32) (g27_lead : Int32) (g27_man : Int32) (g27_dog : Int32) (g27_gone : Int32) (g27_greatest : Int32) (g0_drawSeed : Int32) (g1_ways : Int32) (g1_wallCount : Int32) (g1_texts : Int32) (f2 : Nat → Int32) (f3 : Nat → Int32) (f4 : Nat → Int32) (f5 : Nat → Int32) (g6_size : Int32) (g6_lines : Int32) (f7 : Nat → Int32) (g8_size : Int32) (f9 : Nat → Int32) (f10 : Nat → Int32) (f11 : Nat → Int32) (f12 : Nat → Int32) (g13_underWay : Int32) (g13_way : Int32) (g13_other : Int32) (g13_lead : Int32) (g13_man : Int32) (g13_dog : Int32) (g13_gone : Int32) (g13_greatest : Int32) (g13_remembered : Int32) : va_W := [(a0, .inr (6, [.ref a1, .ref a6, .ref a8, .ref a13, .int g0_drawSeed])), (a1, .inr (1, [.ref a2, .ref a3, .ref a4, .ref a5, .int g1_ways, .int g1_wallCount, .int g1_texts])), (a2, .inl (cyI, 360, .inl f2)), (a3, .inl (cyI, 360, .inl f3)), (a4, .inl (cyI, 12, .inl f4)), (a5, .inl (cyI, 32, .inl f5)), (a6, .inr (2, [.ref a7, .ref b6_seen, .int g6_size, .int g6_lines])), (a7, .inl (cyI, 400, .inl f7)), (a8, .inr (3, [.ref a9, .ref a10, .ref a11, .ref a12, .int g8_size])), (a9, .inl (cyI, 20, .inl f9)), (a10, .inl (cyI, 20, .inl f10)), (a11, .inl (cyI, 20, .inl f11)), (a12, .inl (cyI, 20, .inl f12)), (a13, .inr (7, [.int g13_underWay, .int g13_way, .int g13_other, .int g13_lead, .int g13_man, .int g13_dog, .int g13_gone, .int g13_greatest, .int g13_remembered, .ref b13_steps, .ref b13_greatestAhead])), (a14, .inr (6, [.ref a15, .ref a20, .ref a22, .ref a27, .int g14_drawSeed])), (a15, .inr (1, [.ref a16, .ref a17, .ref a18, .ref a19, .int g15_ways, .int g15_wallCount, .int g15_texts])), (a16, .inl (cyI, 360, .inl f16)), (a17, .inl (cyI, 360, .inl f17)), (a18, .inl (cyI, 12, .inl f18)), (a19, .inl (cyI, 32, .inl f19)), (a20, .inr (2, [.ref a21, .ref b20_seen, .int g20_size, .int g20_lines])), (a21, .inl (cyI, 400, .inl f21)), (a22, .inr (3, [.ref a23, .ref a24, .ref a25, .ref a26, .int g22_size])), (a23, .inl (cyI, 20, .inl f23)), (a24, .inl (cyI, 20, .inl f24)), (a25, .inl (cyI, 20, .inl f25)), (a26, .inl (cyI, 20, .inl f26)), (a27, .inr (7, [.int g27_underWay, .int g27_way, .int g27_other, .int g27_lead, .int g27_man, .int g27_dog, .int g27_gone, .int g27_greatest, .int g27_remembered, .ref b27_steps, .ref b27_greatestAhead]))]

theorem inX6_copyFrom_X6 : ∀ w ∈ wsX60, w ∈ wsX6_copyFrom := fun _ h => List.mem_cons_of_mem _ (List.mem_append_left _ (List.mem_append_left _ (List.mem_append_left _ (List.mem_append_left _ (List.mem_append_right _ h)))))
abbrev rmX6_copyFrom : Room := { frames := 2, cells := 0, slots := 0, locals := 85 }
set_option maxRecDepth 100000 in
set_option maxHeartbeats 4000000 in
theorem ctX6_copyFrom (l : Launch) (dC : Nat → ClassId) (dI : Nat → Nat → Nat) (cyI cyB cyJ cyZ : ClassId) (sz : Nat) (a0 a1 a2 a3 a4 a5 a6 a7 a8 a9 a10 a11 a12 a13 a14 a15 a16 a17 a18 a19 a20 a21 a22 a23 a24 a25 a26 a27 b6_seen b13_steps b13_greatestAhead b20_seen b27_steps b27_greatestAhead : Nat) (g27_remembered : Int32) (g14_drawSeed : Int32) (g15_ways : Int32) (g15_wallCount : Int32) (g15_texts : Int32) (f16 : Nat → Int32) (f17 : Nat → Int32) (f18 : Nat → Int32) (f19 : Nat → Int32) (g20_size : Int32) (g20_lines : Int32) (f21 : Nat → Int32) (g22_size : Int32) (f23 : Nat → Int32) (f24 : Nat → Int32) (f25 : Nat → Int32) (f26 : Nat → Int32) (g27_underWay : Int32) (g27_way : Int32) (g27_other : Int32) (g27_lead : Int32) (g27_man : Int32) (g27_dog : Int32) (g27_gone : Int32) (g27_greatest : Int32) (g0_drawSeed : Int32) (g1_ways : Int32) (g1_wallCount : Int32) (g1_texts : Int32) (f2 : Nat → Int32) (f3 : Nat → Int32) (f4 : Nat → Int32) (f5 : Nat → Int32) (g6_size : Int32) (g6_lines : Int32) (f7 : Nat → Int32) (g8_size : Int32) (f9 : Nat → Int32) (f10 : Nat → Int32) (f11 : Nat → Int32) (f12 : Nat → Int32) (g13_underWay : Int32) (g13_way : Int32) (g13_other : Int32) (g13_lead : Int32) (g13_man : Int32) (g13_dog : Int32) (g13_gone : Int32) (g13_greatest : Int32) (g13_remembered : Int32) (post : (Int32 × Int32 × Int32 × Int32 × (Nat → Int32) × (Nat → Int32) × (Nat → Int32) × (Nat → Int32) × Int32 × Int32 × (Nat → Int32) × Int32 × (Nat → Int32) × (Nat → Int32) × (Nat → Int32) × (Nat → Int32) × Int32 × Int32 × Int32 × Int32 × Int32 × Int32 × Int32 × Int32 × Int32) → Prop) (hw : wpX6_copyFrom post g14_drawSeed g15_ways g15_wallCount g15_texts f16 f17 f18 f19 g20_size g20_lines f21 g22_size f23 f24 f25 f26 g27_underWay g27_way g27_other g27_lead g27_man g27_dog g27_gone g27_greatest g0_drawSeed g1_ways g1_wallCount g1_texts f2 f3 f4 f5 g6_size g6_lines f7 g8_size f9 f10 f11 f12 g13_underWay g13_way g13_other g13_lead g13_man g13_dog g13_gone g13_greatest g13_remembered ) : Met l yX6_copyFrom wsX6_copyFrom rmX6_copyFrom (va_Pc [.ref a0, .ref a14] (wPre dC dI cyI cyB cyJ cyZ sz (ceX6_copyFrom cyI cyB cyJ cyZ a0 a1 a2 a3 a4 a5 a6 a7 a8 a9 a10 a11 a12 a13 a14 a15 a16 a17 a18 a19 a20 a21 a22 a23 a24 a25 a26 a27 b6_seen b13_steps b13_greatestAhead b20_seen b27_steps b27_greatestAhead g27_remembered g14_drawSeed g15_ways g15_wallCount g15_texts f16 f17 f18 f19 g20_size g20_lines f21 g22_size f23 f24 f25 f26 g27_underWay g27_way g27_other g27_lead g27_man g27_dog g27_gone g27_greatest g0_drawSeed g1_ways g1_wallCount g1_texts f2 f3 f4 f5 g6_size g6_lines f7 g8_size f9 f10 f11 f12 g13_underWay g13_way g13_other g13_lead g13_man g13_dog g13_gone g13_greatest g13_remembered))) (va_Qv post (fun u : Int32 × Int32 × Int32 × Int32 × (Nat → Int32) × (Nat → Int32) × (Nat → Int32) × (Nat → Int32) × Int32 × Int32 × (Nat → Int32) × Int32 × (Nat → Int32) × (Nat → Int32) × (Nat → Int32) × (Nat → Int32) × Int32 × Int32 × Int32 × Int32 × Int32 × Int32 × Int32 × Int32 × Int32 => wAt dC dI cyI cyB cyJ cyZ (va_A (ceX6_copyFrom cyI cyB cyJ cyZ a0 a1 a2 a3 a4 a5 a6 a7 a8 a9 a10 a11 a12 a13 a14 a15 a16 a17 a18 a19 a20 a21 a22 a23 a24 a25 a26 a27 b6_seen b13_steps b13_greatestAhead b20_seen b27_steps b27_greatestAhead g27_remembered g14_drawSeed g15_ways g15_wallCount g15_texts f16 f17 f18 f19 g20_size g20_lines f21 g22_size f23 f24 f25 f26 g27_underWay g27_way g27_other g27_lead g27_man g27_dog g27_gone g27_greatest g0_drawSeed g1_ways g1_wallCount g1_texts f2 f3 f4 f5 g6_size g6_lines f7 g8_size f9 f10 f11 f12 g13_underWay g13_way g13_other g13_lead g13_man g13_dog g13_gone g13_greatest g13_remembered) sz) (ceX6_copyFrom cyI cyB cyJ cyZ a0 a1 a2 a3 a4 a5 a6 a7 a8 a9 a10 a11 a12 a13 a14 a15 a16 a17 a18 a19 a20 a21 a22 a23 a24 a25 a26 a27 b6_seen b13_steps b13_greatestAhead b20_seen b27_steps b27_greatestAhead g27_remembered g14_drawSeed g15_ways g15_wallCount g15_texts f16 f17 f18 f19 g20_size g20_lines f21 g22_size f23 f24 f25 f26 g27_underWay g27_way g27_other g27_lead g27_man g27_dog g27_gone g27_greatest u.1 u.2.1 u.2.2.1 u.2.2.2.1 u.2.2.2.2.1 u.2.2.2.2.2.1 u.2.2.2.2.2.2.1 u.2.2.2.2.2.2.2.1 u.2.2.2.2.2.2.2.2.1 u.2.2.2.2.2.2.2.2.2.1 u.2.2.2.2.2.2.2.2.2.2.1 u.2.2.2.2.2.2.2.2.2.2.2.1 u.2.2.2.2.2.2.2.2.2.2.2.2.1 u.2.2.2.2.2.2.2.2.2.2.2.2.2.1 u.2.2.2.2.2.2.2.2.2.2.2.2.2.2.1 u.2.2.2.2.2.2.2.2.2.2.2.2.2.2.2.1 u.2.2.2.2.2.2.2.2.2.2.2.2.2.2.2.2.1 u.2.2.2.2.2.2.2.2.2.2.2.2.2.2.2.2.2.1 u.2.2.2.2.2.2.2.2.2.2.2.2.2.2.2.2.2.2.1 u.2.2.2.2.2.2.2.2.2.2.2.2.2.2.2.2.2.2.2.1 u.2.2.2.2.2.2.2.2.2.2.2.2.2.2.2.2.2.2.2.2.1 u.2.2.2.2.2.2.2.2.2.2.2.2.2.2.2.2.2.2.2.2.2.1 u.2.2.2.2.2.2.2.2.2.2.2.2.2.2.2.2.2.2.2.2.2.2.1 u.2.2.2.2.2.2.2.2.2.2.2.2.2.2.2.2.2.2.2.2.2.2.2.1 u.2.2.2.2.2.2.2.2.2.2.2.2.2.2.2.2.2.2.2.2.2.2.2.2)) (va_A (ceX6_copyFrom cyI cyB cyJ cyZ a0 a1 a2 a3 a4 a5 a6 a7 a8 a9 a10 a11 a12 a13 a14 a15 a16 a17 a18 a19 a20 a21 a22 a23 a24 a25 a26 a27 b6_seen b13_steps b13_greatestAhead b20_seen b27_steps b27_greatestAhead g27_remembered g14_drawSeed g15_ways g15_wallCount g15_texts f16 f17 f18 f19 g20_size g20_lines f21 g22_size f23 f24 f25 f26 g27_underWay g27_way g27_other g27_lead g27_man g27_dog g27_gone g27_greatest g0_drawSeed g1_ways g1_wallCount g1_texts f2 f3 f4 f5 g6_size g6_lines f7 g8_size f9 f10 f11 f12 g13_underWay g13_way g13_other g13_lead g13_man g13_dog g13_gone g13_greatest g13_remembered) sz)) 0 0 (va_A (ceX6_copyFrom cyI cyB cyJ cyZ a0 a1 a2 a3 a4 a5 a6 a7 a8 a9 a10 a11 a12 a13 a14 a15 a16 a17 a18 a19 a20 a21 a22 a23 a24 a25 a26 a27 b6_seen b13_steps b13_greatestAhead b20_seen b27_steps b27_greatestAhead g27_remembered g14_drawSeed g15_ways g15_wallCount g15_texts f16 f17 f18 f19 g20_size g20_lines f21 g22_size f23 f24 f25 f26 g27_underWay g27_way g27_other g27_lead g27_man g27_dog g27_gone g27_greatest g0_drawSeed g1_ways g1_wallCount g1_texts f2 f3 f4 f5 g6_size g6_lines f7 g8_size f9 f10 f11 f12 g13_underWay g13_way g13_other g13_lead g13_man g13_dog g13_gone g13_greatest g13_remembered) sz) := by
  refine Met.ofW (cc := cX6_copyFrom) (maxL := 2) (ret := none) (by decide) rfl ?_
  intro p e s m args below meth c s₁ B hml hv
  obtain ⟨rfl, hsz, hP, hK, hD0, hN⟩ := hv
  have hx := B.exec
  have hb := B.bytes
  have hr := B.returns
  have hts := atoms_spec (ws := wsX6_copyFrom) B.pre
  have hown : s.vm.findClass RX6 = some m.cls := findClass_of_methodNamed B.named
  have hlocks := B.notSynchronized
  subst hsz
  have hD := hD0.self (sz := s.heap.size)
  generalize hAe : va_A (ceX6_copyFrom cyI cyB cyJ cyZ a0 a1 a2 a3 a4 a5 a6 a7 a8 a9 a10 a11 a12 a13 a14 a15 a16 a17 a18 a19 a20 a21 a22 a23 a24 a25 a26 a27 b6_seen b13_steps b13_greatestAhead b20_seen b27_steps b27_greatestAhead g27_remembered g14_drawSeed g15_ways g15_wallCount g15_texts f16 f17 f18 f19 g20_size g20_lines f21 g22_size f23 f24 f25 f26 g27_underWay g27_way g27_other g27_lead g27_man g27_dog g27_gone g27_greatest g0_drawSeed g1_ways g1_wallCount g1_texts f2 f3 f4 f5 g6_size g6_lines f7 g8_size f9 f10 f11 f12 g13_underWay g13_way g13_other g13_lead g13_man g13_dog g13_gone g13_greatest g13_remembered) s.heap.size = A at hD ⊢
  have hA : ∀ q : Nat, s.heap.size ≤ q → A q := fun q h => by rw [← hAe]; exact Or.inr h
  have hS : va_S A s.heap s.heap [] := va_S.rf
  have C0 : cxM p s m meth c _ wsX6_copyFrom RX6 cX6_copyFrom 2 none := ⟨hx, hb, hr, hml, hown, hts, hlocks⟩
  have hl := lv_entry ([.ref a0, .ref a14]) (n := 2) (Nat.le_of_ble_eq_true rfl)
  rw [lg_entry_eq]
  generalize (lg_sl ([.ref a0, .ref a14]) ++ List.replicate (2 - (lg_sl ([.ref a0, .ref a14])).length) Slot.unset).toArray = ls at hl ⊢
  have hl : lv_has ls 2 [(0, .ref a0), (1, .ref a14)] := hl
  show W p l e rmX6_copyFrom s m _ below meth c _ _ _ _ _ _
  refine wq (fun Q hQ => ?_)
  refine lv_aload_n hx hb dX6_copyFrom_0 rfl (lv_at hl 0 rfl) ?_
  refine va_get (D := (dC, dI)) (ci := 6) (v := .ref a1) (C := RX6) (T := TX6) (N := 5) hx hb hts inX6_copyFrom_X6 hown hK hP 0 rfl rfl 0 (by decide) (hts (.fieldLink RX6 12 "LeadPark$Scene" "ground" "LLeadPark$Ground;") (List.mem_of_getElem? (i := 1) rfl)) (fun _ h9 => h9) rfl dX6_copyFrom_1 ?_
  refine lv_aload_n hx hb dX6_copyFrom_4 rfl (lv_at hl 1 rfl) ?_
  refine va_get (D := (dC, dI)) (ci := 6) (v := .ref a15) (C := RX6) (T := TX6) (N := 5) hx hb hts inX6_copyFrom_X6 hown hK hP 14 rfl rfl 0 (by decide) (hts (.fieldLink RX6 12 "LeadPark$Scene" "ground" "LLeadPark$Ground;") (List.mem_of_getElem? (i := 1) rfl)) (fun _ h9 => h9) rfl dX6_copyFrom_5 ?_
  have hPc := hP.sub (ws' := (ceX1_copyFrom cyI cyB cyJ cyZ a1 a2 a3 a4 a5 a15 a16 a17 a18 a19 g15_ways g15_wallCount g15_texts f16 f17 f18 f19 g1_ways g1_wallCount g1_texts f2 f3 f4 f5)) [1, 2, 3, 4, 5, 15, 16, 17, 18, 19] rfl
  have hDc := hD.sub (ws' := (ceX1_copyFrom cyI cyB cyJ cyZ a1 a2 a3 a4 a5 a15 a16 a17 a18 a19 g15_ways g15_wallCount g15_texts f16 f17 f18 f19 g1_ways g1_wallCount g1_texts f2 f3 f4 f5)) [1, 2, 3, 4, 5, 15, 16, 17, 18, 19] (by decide) rfl
  have hFc := va_free (wc := (ceX1_copyFrom cyI cyB cyJ cyZ a1 a2 a3 a4 a5 a15 a16 a17 a18 a19 g15_ways g15_wallCount g15_texts f16 f17 f18 f19 g1_ways g1_wallCount g1_texts f2 f3 f4 f5)) hD hS hA [1, 2, 3, 4, 5, 15, 16, 17, 18, 19] rfl
  refine va_callv (va_runV (As := [.ref a15]) (rest := []) ⟨hx, hb, hml, hown, hts⟩ (ctX1_copyFrom l dC dI cyI cyB cyJ cyZ _ a1 a2 a3 a4 a5 a15 a16 a17 a18 a19 g15_ways g15_wallCount g15_texts f16 f17 f18 f19 g1_ways g1_wallCount g1_texts f2 f3 f4 f5 _ hw) (cwV 1 hts gX6_copyFrom_X1_copyFrom rfl rfl rfl (by decide +kernel) ⟨Nat.le_of_ble_eq_true rfl, Nat.le_of_ble_eq_true rfl⟩) ⟨wPre_blind, va_recv hK hPc (ci := 1) (q0 := 0) rfl rfl, fun U hU hW => wPre_of hPc hK hDc hN hU hW⟩ rfl rfl hl.1 rfl (lv_room (Nat.le_of_ble_eq_true rfl)) dX6_copyFrom_8 ⟨(Nat.zero_le _), (Nat.zero_le _)⟩) hS (fun q _ h => hFc q h) hFc (fun u1 t H1 locs ht hvm hw hB hz1 hk1 hS => ?_)
  obtain ⟨hP1, hK1, hD1⟩ := hB
  rw [ht] at hP1
  obtain ⟨hP, hD⟩ := va_join (wr := pickW (ceX6_copyFrom cyI cyB cyJ cyZ a0 a1 a2 a3 a4 a5 a6 a7 a8 a9 a10 a11 a12 a13 a14 a15 a16 a17 a18 a19 a20 a21 a22 a23 a24 a25 a26 a27 b6_seen b13_steps b13_greatestAhead b20_seen b27_steps b27_greatestAhead g27_remembered g14_drawSeed g15_ways g15_wallCount g15_texts f16 f17 f18 f19 g20_size g20_lines f21 g22_size f23 f24 f25 f26 g27_underWay g27_way g27_other g27_lead g27_man g27_dog g27_gone g27_greatest g0_drawSeed g1_ways g1_wallCount g1_texts f2 f3 f4 f5 g6_size g6_lines f7 g8_size f9 f10 f11 f12 g13_underWay g13_way g13_other g13_lead g13_man g13_dog g13_gone g13_greatest g13_remembered) [0, 6, 7, 8, 9, 10, 11, 12, 13, 14, 20, 21, 22, 23, 24, 25, 26, 27]) (w1 := (ceX1_copyFrom cyI cyB cyJ cyZ a1 a2 a3 a4 a5 a15 a16 a17 a18 a19 g15_ways g15_wallCount g15_texts f16 f17 f18 f19 u1.1 u1.2.1 u1.2.2.1 u1.2.2.2.1 u1.2.2.2.2.1 u1.2.2.2.2.2.1 u1.2.2.2.2.2.2)) hP hD [1, 2, 3, 4, 5, 15, 16, 17, 18, 19] [0, 6, 7, 8, 9, 10, 11, 12, 13, 14, 20, 21, 22, 23, 24, 25, 26, 27] rfl rfl (by decide) (by decide) hk1 hFc hP1 hD1
  have hP := hP.sub (ws' := (ceX6_copyFrom cyI cyB cyJ cyZ a0 a1 a2 a3 a4 a5 a6 a7 a8 a9 a10 a11 a12 a13 a14 a15 a16 a17 a18 a19 a20 a21 a22 a23 a24 a25 a26 a27 b6_seen b13_steps b13_greatestAhead b20_seen b27_steps b27_greatestAhead g27_remembered g14_drawSeed g15_ways g15_wallCount g15_texts f16 f17 f18 f19 g20_size g20_lines f21 g22_size f23 f24 f25 f26 g27_underWay g27_way g27_other g27_lead g27_man g27_dog g27_gone g27_greatest g0_drawSeed u1.1 u1.2.1 u1.2.2.1 u1.2.2.2.1 u1.2.2.2.2.1 u1.2.2.2.2.2.1 u1.2.2.2.2.2.2 g6_size g6_lines f7 g8_size f9 f10 f11 f12 g13_underWay g13_way g13_other g13_lead g13_man g13_dog g13_gone g13_greatest g13_remembered)) [0, 18, 19, 20, 21, 22, 1, 2, 3, 4, 5, 6, 7, 8, 9, 23, 24, 25, 26, 27, 10, 11, 12, 13, 14, 15, 16, 17] rfl
  have hD := hD.sub (ws' := (ceX6_copyFrom cyI cyB cyJ cyZ a0 a1 a2 a3 a4 a5 a6 a7 a8 a9 a10 a11 a12 a13 a14 a15 a16 a17 a18 a19 a20 a21 a22 a23 a24 a25 a26 a27 b6_seen b13_steps b13_greatestAhead b20_seen b27_steps b27_greatestAhead g27_remembered g14_drawSeed g15_ways g15_wallCount g15_texts f16 f17 f18 f19 g20_size g20_lines f21 g22_size f23 f24 f25 f26 g27_underWay g27_way g27_other g27_lead g27_man g27_dog g27_gone g27_greatest g0_drawSeed u1.1 u1.2.1 u1.2.2.1 u1.2.2.2.1 u1.2.2.2.2.1 u1.2.2.2.2.2.1 u1.2.2.2.2.2.2 g6_size g6_lines f7 g8_size f9 f10 f11 f12 g13_underWay g13_way g13_other g13_lead g13_man g13_dog g13_gone g13_greatest g13_remembered)) [0, 18, 19, 20, 21, 22, 1, 2, 3, 4, 5, 6, 7, 8, 9, 23, 24, 25, 26, 27, 10, 11, 12, 13, 14, 15, 16, 17] (by decide) rfl
  generalize H1 = H at hP hS ⊢
  refine lv_aload_n hx hb dX6_copyFrom_11 rfl (lv_at hl 0 rfl) ?_
  refine va_get (D := (dC, dI)) (ci := 6) (v := .ref a6) (C := RX6) (T := TX6) (N := 5) hx hb hts inX6_copyFrom_X6 hown hK hP 0 rfl rfl 1 (by decide) (hts (.fieldLink RX6 21 "LeadPark$Scene" "law" "LLeadPark$Law;") (List.mem_of_getElem? (i := 2) rfl)) (fun _ h9 => h9) rfl dX6_copyFrom_12 ?_
  refine lv_aload_n hx hb dX6_copyFrom_15 rfl (lv_at hl 1 rfl) ?_
  refine va_get (D := (dC, dI)) (ci := 6) (v := .ref a20) (C := RX6) (T := TX6) (N := 5) hx hb hts inX6_copyFrom_X6 hown hK hP 14 rfl rfl 1 (by decide) (hts (.fieldLink RX6 21 "LeadPark$Scene" "law" "LLeadPark$Law;") (List.mem_of_getElem? (i := 2) rfl)) (fun _ h9 => h9) rfl dX6_copyFrom_16 ?_
  have hPc := hP.sub (ws' := (ceX2_copyFrom cyI cyB cyJ cyZ a6 a7 a20 a21 b6_seen b20_seen g20_size g20_lines f21 g6_size g6_lines f7)) [6, 7, 20, 21] rfl
  have hDc := hD.sub (ws' := (ceX2_copyFrom cyI cyB cyJ cyZ a6 a7 a20 a21 b6_seen b20_seen g20_size g20_lines f21 g6_size g6_lines f7)) [6, 7, 20, 21] (by decide) rfl
  have hFc := va_free (wc := (ceX2_copyFrom cyI cyB cyJ cyZ a6 a7 a20 a21 b6_seen b20_seen g20_size g20_lines f21 g6_size g6_lines f7)) hD hS hA [6, 7, 20, 21] rfl
  refine va_callv (va_runV (As := [.ref a20]) (rest := []) ⟨hx, hb, hml, hown, hts⟩ (ctX2_copyFrom l dC dI cyI cyB cyJ cyZ _ a6 a7 a20 a21 b6_seen b20_seen g20_size g20_lines f21 g6_size g6_lines f7 _ hw) (cwV 1 hts gX6_copyFrom_X2_copyFrom rfl rfl rfl (by decide +kernel) ⟨Nat.le_of_ble_eq_true rfl, Nat.le_of_ble_eq_true rfl⟩) ⟨wPre_blind, va_recv hK hPc (ci := 2) (q0 := 0) rfl rfl, fun U hU hW => wPre_of hPc hK hDc hN hU hW⟩ rfl rfl hl.1 rfl (lv_room (Nat.le_of_ble_eq_true rfl)) dX6_copyFrom_19 ⟨(Nat.zero_le _), (Nat.zero_le _)⟩) hS (fun q _ h => hFc q h) hFc (fun u2 t H1 locs ht hvm hw hB hz1 hk1 hS => ?_)
  obtain ⟨hP1, hK1, hD1⟩ := hB
  rw [ht] at hP1
  obtain ⟨hP, hD⟩ := va_join (wr := pickW (ceX6_copyFrom cyI cyB cyJ cyZ a0 a1 a2 a3 a4 a5 a6 a7 a8 a9 a10 a11 a12 a13 a14 a15 a16 a17 a18 a19 a20 a21 a22 a23 a24 a25 a26 a27 b6_seen b13_steps b13_greatestAhead b20_seen b27_steps b27_greatestAhead g27_remembered g14_drawSeed g15_ways g15_wallCount g15_texts f16 f17 f18 f19 g20_size g20_lines f21 g22_size f23 f24 f25 f26 g27_underWay g27_way g27_other g27_lead g27_man g27_dog g27_gone g27_greatest g0_drawSeed u1.1 u1.2.1 u1.2.2.1 u1.2.2.2.1 u1.2.2.2.2.1 u1.2.2.2.2.2.1 u1.2.2.2.2.2.2 g6_size g6_lines f7 g8_size f9 f10 f11 f12 g13_underWay g13_way g13_other g13_lead g13_man g13_dog g13_gone g13_greatest g13_remembered) [0, 1, 2, 3, 4, 5, 8, 9, 10, 11, 12, 13, 14, 15, 16, 17, 18, 19, 22, 23, 24, 25, 26, 27]) (w1 := (ceX2_copyFrom cyI cyB cyJ cyZ a6 a7 a20 a21 b6_seen b20_seen g20_size g20_lines f21 u2.1 u2.2.1 u2.2.2)) hP hD [6, 7, 20, 21] [0, 1, 2, 3, 4, 5, 8, 9, 10, 11, 12, 13, 14, 15, 16, 17, 18, 19, 22, 23, 24, 25, 26, 27] rfl rfl (by decide) (by decide) hk1 hFc hP1 hD1
  have hP := hP.sub (ws' := (ceX6_copyFrom cyI cyB cyJ cyZ a0 a1 a2 a3 a4 a5 a6 a7 a8 a9 a10 a11 a12 a13 a14 a15 a16 a17 a18 a19 a20 a21 a22 a23 a24 a25 a26 a27 b6_seen b13_steps b13_greatestAhead b20_seen b27_steps b27_greatestAhead g27_remembered g14_drawSeed g15_ways g15_wallCount g15_texts f16 f17 f18 f19 g20_size g20_lines f21 g22_size f23 f24 f25 f26 g27_underWay g27_way g27_other g27_lead g27_man g27_dog g27_gone g27_greatest g0_drawSeed u1.1 u1.2.1 u1.2.2.1 u1.2.2.2.1 u1.2.2.2.2.1 u1.2.2.2.2.2.1 u1.2.2.2.2.2.2 u2.1 u2.2.1 u2.2.2 g8_size f9 f10 f11 f12 g13_underWay g13_way g13_other g13_lead g13_man g13_dog g13_gone g13_greatest g13_remembered)) [0, 1, 2, 3, 4, 5, 24, 25, 6, 7, 8, 9, 10, 11, 12, 13, 14, 15, 16, 17, 26, 27, 18, 19, 20, 21, 22, 23] rfl
  have hD := hD.sub (ws' := (ceX6_copyFrom cyI cyB cyJ cyZ a0 a1 a2 a3 a4 a5 a6 a7 a8 a9 a10 a11 a12 a13 a14 a15 a16 a17 a18 a19 a20 a21 a22 a23 a24 a25 a26 a27 b6_seen b13_steps b13_greatestAhead b20_seen b27_steps b27_greatestAhead g27_remembered g14_drawSeed g15_ways g15_wallCount g15_texts f16 f17 f18 f19 g20_size g20_lines f21 g22_size f23 f24 f25 f26 g27_underWay g27_way g27_other g27_lead g27_man g27_dog g27_gone g27_greatest g0_drawSeed u1.1 u1.2.1 u1.2.2.1 u1.2.2.2.1 u1.2.2.2.2.1 u1.2.2.2.2.2.1 u1.2.2.2.2.2.2 u2.1 u2.2.1 u2.2.2 g8_size f9 f10 f11 f12 g13_underWay g13_way g13_other g13_lead g13_man g13_dog g13_gone g13_greatest g13_remembered)) [0, 1, 2, 3, 4, 5, 24, 25, 6, 7, 8, 9, 10, 11, 12, 13, 14, 15, 16, 17, 26, 27, 18, 19, 20, 21, 22, 23] (by decide) rfl
  generalize H1 = H at hP hS ⊢
  refine lv_aload_n hx hb dX6_copyFrom_22 rfl (lv_at hl 0 rfl) ?_
  refine va_get (D := (dC, dI)) (ci := 6) (v := .ref a8) (C := RX6) (T := TX6) (N := 5) hx hb hts inX6_copyFrom_X6 hown hK hP 0 rfl rfl 2 (by decide) (hts (.fieldLink RX6 28 "LeadPark$Scene" "marks" "LLeadPark$Marks;") (List.mem_of_getElem? (i := 3) rfl)) (fun _ h9 => h9) rfl dX6_copyFrom_23 ?_
  refine lv_aload_n hx hb dX6_copyFrom_26 rfl (lv_at hl 1 rfl) ?_
  refine va_get (D := (dC, dI)) (ci := 6) (v := .ref a22) (C := RX6) (T := TX6) (N := 5) hx hb hts inX6_copyFrom_X6 hown hK hP 14 rfl rfl 2 (by decide) (hts (.fieldLink RX6 28 "LeadPark$Scene" "marks" "LLeadPark$Marks;") (List.mem_of_getElem? (i := 3) rfl)) (fun _ h9 => h9) rfl dX6_copyFrom_27 ?_
  have hPc := hP.sub (ws' := (ceX3_copyFrom cyI cyB cyJ cyZ a8 a9 a10 a11 a12 a22 a23 a24 a25 a26 g22_size f23 f24 f25 f26 g8_size f9 f10 f11 f12)) [8, 9, 10, 11, 12, 22, 23, 24, 25, 26] rfl
  have hDc := hD.sub (ws' := (ceX3_copyFrom cyI cyB cyJ cyZ a8 a9 a10 a11 a12 a22 a23 a24 a25 a26 g22_size f23 f24 f25 f26 g8_size f9 f10 f11 f12)) [8, 9, 10, 11, 12, 22, 23, 24, 25, 26] (by decide) rfl
  have hFc := va_free (wc := (ceX3_copyFrom cyI cyB cyJ cyZ a8 a9 a10 a11 a12 a22 a23 a24 a25 a26 g22_size f23 f24 f25 f26 g8_size f9 f10 f11 f12)) hD hS hA [8, 9, 10, 11, 12, 22, 23, 24, 25, 26] rfl
  refine va_callv (va_runV (As := [.ref a22]) (rest := []) ⟨hx, hb, hml, hown, hts⟩ (ctX3_copyFrom l dC dI cyI cyB cyJ cyZ _ a8 a9 a10 a11 a12 a22 a23 a24 a25 a26 g22_size f23 f24 f25 f26 g8_size f9 f10 f11 f12 _ hw) (cwV 1 hts gX6_copyFrom_X3_copyFrom rfl rfl rfl (by decide +kernel) ⟨Nat.le_of_ble_eq_true rfl, Nat.le_of_ble_eq_true rfl⟩) ⟨wPre_blind, va_recv hK hPc (ci := 3) (q0 := 0) rfl rfl, fun U hU hW => wPre_of hPc hK hDc hN hU hW⟩ rfl rfl hl.1 rfl (lv_room (Nat.le_of_ble_eq_true rfl)) dX6_copyFrom_30 ⟨(Nat.zero_le _), (Nat.zero_le _)⟩) hS (fun q _ h => hFc q h) hFc (fun u3 t H1 locs ht hvm hw hB hz1 hk1 hS => ?_)
  obtain ⟨hP1, hK1, hD1⟩ := hB
  rw [ht] at hP1
  obtain ⟨hP, hD⟩ := va_join (wr := pickW (ceX6_copyFrom cyI cyB cyJ cyZ a0 a1 a2 a3 a4 a5 a6 a7 a8 a9 a10 a11 a12 a13 a14 a15 a16 a17 a18 a19 a20 a21 a22 a23 a24 a25 a26 a27 b6_seen b13_steps b13_greatestAhead b20_seen b27_steps b27_greatestAhead g27_remembered g14_drawSeed g15_ways g15_wallCount g15_texts f16 f17 f18 f19 g20_size g20_lines f21 g22_size f23 f24 f25 f26 g27_underWay g27_way g27_other g27_lead g27_man g27_dog g27_gone g27_greatest g0_drawSeed u1.1 u1.2.1 u1.2.2.1 u1.2.2.2.1 u1.2.2.2.2.1 u1.2.2.2.2.2.1 u1.2.2.2.2.2.2 u2.1 u2.2.1 u2.2.2 g8_size f9 f10 f11 f12 g13_underWay g13_way g13_other g13_lead g13_man g13_dog g13_gone g13_greatest g13_remembered) [0, 1, 2, 3, 4, 5, 6, 7, 13, 14, 15, 16, 17, 18, 19, 20, 21, 27]) (w1 := (ceX3_copyFrom cyI cyB cyJ cyZ a8 a9 a10 a11 a12 a22 a23 a24 a25 a26 g22_size f23 f24 f25 f26 u3.1 u3.2.1 u3.2.2.1 u3.2.2.2.1 u3.2.2.2.2)) hP hD [8, 9, 10, 11, 12, 22, 23, 24, 25, 26] [0, 1, 2, 3, 4, 5, 6, 7, 13, 14, 15, 16, 17, 18, 19, 20, 21, 27] rfl rfl (by decide) (by decide) hk1 hFc hP1 hD1
  have hP := hP.sub (ws' := (ceX6_copyFrom cyI cyB cyJ cyZ a0 a1 a2 a3 a4 a5 a6 a7 a8 a9 a10 a11 a12 a13 a14 a15 a16 a17 a18 a19 a20 a21 a22 a23 a24 a25 a26 a27 b6_seen b13_steps b13_greatestAhead b20_seen b27_steps b27_greatestAhead g27_remembered g14_drawSeed g15_ways g15_wallCount g15_texts f16 f17 f18 f19 g20_size g20_lines f21 g22_size f23 f24 f25 f26 g27_underWay g27_way g27_other g27_lead g27_man g27_dog g27_gone g27_greatest g0_drawSeed u1.1 u1.2.1 u1.2.2.1 u1.2.2.2.1 u1.2.2.2.2.1 u1.2.2.2.2.2.1 u1.2.2.2.2.2.2 u2.1 u2.2.1 u2.2.2 u3.1 u3.2.1 u3.2.2.1 u3.2.2.2.1 u3.2.2.2.2 g13_underWay g13_way g13_other g13_lead g13_man g13_dog g13_gone g13_greatest g13_remembered)) [0, 1, 2, 3, 4, 5, 6, 7, 18, 19, 20, 21, 22, 8, 9, 10, 11, 12, 13, 14, 15, 16, 23, 24, 25, 26, 27, 17] rfl
  have hD := hD.sub (ws' := (ceX6_copyFrom cyI cyB cyJ cyZ a0 a1 a2 a3 a4 a5 a6 a7 a8 a9 a10 a11 a12 a13 a14 a15 a16 a17 a18 a19 a20 a21 a22 a23 a24 a25 a26 a27 b6_seen b13_steps b13_greatestAhead b20_seen b27_steps b27_greatestAhead g27_remembered g14_drawSeed g15_ways g15_wallCount g15_texts f16 f17 f18 f19 g20_size g20_lines f21 g22_size f23 f24 f25 f26 g27_underWay g27_way g27_other g27_lead g27_man g27_dog g27_gone g27_greatest g0_drawSeed u1.1 u1.2.1 u1.2.2.1 u1.2.2.2.1 u1.2.2.2.2.1 u1.2.2.2.2.2.1 u1.2.2.2.2.2.2 u2.1 u2.2.1 u2.2.2 u3.1 u3.2.1 u3.2.2.1 u3.2.2.2.1 u3.2.2.2.2 g13_underWay g13_way g13_other g13_lead g13_man g13_dog g13_gone g13_greatest g13_remembered)) [0, 1, 2, 3, 4, 5, 6, 7, 18, 19, 20, 21, 22, 8, 9, 10, 11, 12, 13, 14, 15, 16, 23, 24, 25, 26, 27, 17] (by decide) rfl
  generalize H1 = H at hP hS ⊢
  refine lv_aload_n hx hb dX6_copyFrom_33 rfl (lv_at hl 0 rfl) ?_
  refine va_get (D := (dC, dI)) (ci := 6) (v := .ref a13) (C := RX6) (T := TX6) (N := 5) hx hb hts inX6_copyFrom_X6 hown hK hP 0 rfl rfl 3 (by decide) (hts (.fieldLink RX6 35 "LeadPark$Scene" "stroll" "LLeadPark$Stroll;") (List.mem_of_getElem? (i := 4) rfl)) (fun _ h9 => h9) rfl dX6_copyFrom_34 ?_
  refine lv_aload_n hx hb dX6_copyFrom_37 rfl (lv_at hl 1 rfl) ?_
  refine va_get (D := (dC, dI)) (ci := 6) (v := .ref a27) (C := RX6) (T := TX6) (N := 5) hx hb hts inX6_copyFrom_X6 hown hK hP 14 rfl rfl 3 (by decide) (hts (.fieldLink RX6 35 "LeadPark$Scene" "stroll" "LLeadPark$Stroll;") (List.mem_of_getElem? (i := 4) rfl)) (fun _ h9 => h9) rfl dX6_copyFrom_38 ?_
  have hPc := hP.sub (ws' := (ceX7_copyFrom cyI cyB cyJ cyZ a13 a27 b13_steps b13_greatestAhead b27_steps b27_greatestAhead g27_remembered g27_underWay g27_way g27_other g27_lead g27_man g27_dog g27_gone g27_greatest g13_underWay g13_way g13_other g13_lead g13_man g13_dog g13_gone g13_greatest g13_remembered)) [13, 27] rfl
  have hDc := hD.sub (ws' := (ceX7_copyFrom cyI cyB cyJ cyZ a13 a27 b13_steps b13_greatestAhead b27_steps b27_greatestAhead g27_remembered g27_underWay g27_way g27_other g27_lead g27_man g27_dog g27_gone g27_greatest g13_underWay g13_way g13_other g13_lead g13_man g13_dog g13_gone g13_greatest g13_remembered)) [13, 27] (by decide) rfl
  have hFc := va_free (wc := (ceX7_copyFrom cyI cyB cyJ cyZ a13 a27 b13_steps b13_greatestAhead b27_steps b27_greatestAhead g27_remembered g27_underWay g27_way g27_other g27_lead g27_man g27_dog g27_gone g27_greatest g13_underWay g13_way g13_other g13_lead g13_man g13_dog g13_gone g13_greatest g13_remembered)) hD hS hA [13, 27] rfl
  refine va_callv (va_runV (As := [.ref a27]) (rest := []) ⟨hx, hb, hml, hown, hts⟩ (ctX7_copyFrom l dC dI cyI cyB cyJ cyZ _ a13 a27 b13_steps b13_greatestAhead b27_steps b27_greatestAhead g27_remembered g27_underWay g27_way g27_other g27_lead g27_man g27_dog g27_gone g27_greatest g13_underWay g13_way g13_other g13_lead g13_man g13_dog g13_gone g13_greatest g13_remembered _ hw) (cwV 1 hts gX6_copyFrom_X7_copyFrom rfl rfl rfl (by decide +kernel) ⟨Nat.le_of_ble_eq_true rfl, Nat.le_of_ble_eq_true rfl⟩) ⟨wPre_blind, va_recv hK hPc (ci := 7) (q0 := 0) rfl rfl, fun U hU hW => wPre_of hPc hK hDc hN hU hW⟩ rfl rfl hl.1 rfl (lv_room (Nat.le_of_ble_eq_true rfl)) dX6_copyFrom_41 ⟨(Nat.zero_le _), (Nat.zero_le _)⟩) hS (fun q _ h => hFc q h) hFc (fun u4 t H1 locs ht hvm hw hB hz1 hk1 hS => ?_)
  obtain ⟨hP1, hK1, hD1⟩ := hB
  rw [ht] at hP1
  obtain ⟨hP, hD⟩ := va_join (wr := pickW (ceX6_copyFrom cyI cyB cyJ cyZ a0 a1 a2 a3 a4 a5 a6 a7 a8 a9 a10 a11 a12 a13 a14 a15 a16 a17 a18 a19 a20 a21 a22 a23 a24 a25 a26 a27 b6_seen b13_steps b13_greatestAhead b20_seen b27_steps b27_greatestAhead g27_remembered g14_drawSeed g15_ways g15_wallCount g15_texts f16 f17 f18 f19 g20_size g20_lines f21 g22_size f23 f24 f25 f26 g27_underWay g27_way g27_other g27_lead g27_man g27_dog g27_gone g27_greatest g0_drawSeed u1.1 u1.2.1 u1.2.2.1 u1.2.2.2.1 u1.2.2.2.2.1 u1.2.2.2.2.2.1 u1.2.2.2.2.2.2 u2.1 u2.2.1 u2.2.2 u3.1 u3.2.1 u3.2.2.1 u3.2.2.2.1 u3.2.2.2.2 g13_underWay g13_way g13_other g13_lead g13_man g13_dog g13_gone g13_greatest g13_remembered) [0, 1, 2, 3, 4, 5, 6, 7, 8, 9, 10, 11, 12, 14, 15, 16, 17, 18, 19, 20, 21, 22, 23, 24, 25, 26]) (w1 := (ceX7_copyFrom cyI cyB cyJ cyZ a13 a27 b13_steps b13_greatestAhead b27_steps b27_greatestAhead g27_remembered g27_underWay g27_way g27_other g27_lead g27_man g27_dog g27_gone g27_greatest u4.1 u4.2.1 u4.2.2.1 u4.2.2.2.1 u4.2.2.2.2.1 u4.2.2.2.2.2.1 u4.2.2.2.2.2.2.1 u4.2.2.2.2.2.2.2.1 u4.2.2.2.2.2.2.2.2)) hP hD [13, 27] [0, 1, 2, 3, 4, 5, 6, 7, 8, 9, 10, 11, 12, 14, 15, 16, 17, 18, 19, 20, 21, 22, 23, 24, 25, 26] rfl rfl (by decide) (by decide) hk1 hFc hP1 hD1
  have hP := hP.sub (ws' := (ceX6_copyFrom cyI cyB cyJ cyZ a0 a1 a2 a3 a4 a5 a6 a7 a8 a9 a10 a11 a12 a13 a14 a15 a16 a17 a18 a19 a20 a21 a22 a23 a24 a25 a26 a27 b6_seen b13_steps b13_greatestAhead b20_seen b27_steps b27_greatestAhead g27_remembered g14_drawSeed g15_ways g15_wallCount g15_texts f16 f17 f18 f19 g20_size g20_lines f21 g22_size f23 f24 f25 f26 g27_underWay g27_way g27_other g27_lead g27_man g27_dog g27_gone g27_greatest g0_drawSeed u1.1 u1.2.1 u1.2.2.1 u1.2.2.2.1 u1.2.2.2.2.1 u1.2.2.2.2.2.1 u1.2.2.2.2.2.2 u2.1 u2.2.1 u2.2.2 u3.1 u3.2.1 u3.2.2.1 u3.2.2.2.1 u3.2.2.2.2 u4.1 u4.2.1 u4.2.2.1 u4.2.2.2.1 u4.2.2.2.2.1 u4.2.2.2.2.2.1 u4.2.2.2.2.2.2.1 u4.2.2.2.2.2.2.2.1 u4.2.2.2.2.2.2.2.2)) [0, 1, 2, 3, 4, 5, 6, 7, 8, 9, 10, 11, 12, 26, 13, 14, 15, 16, 17, 18, 19, 20, 21, 22, 23, 24, 25, 27] rfl
  have hD := hD.sub (ws' := (ceX6_copyFrom cyI cyB cyJ cyZ a0 a1 a2 a3 a4 a5 a6 a7 a8 a9 a10 a11 a12 a13 a14 a15 a16 a17 a18 a19 a20 a21 a22 a23 a24 a25 a26 a27 b6_seen b13_steps b13_greatestAhead b20_seen b27_steps b27_greatestAhead g27_remembered g14_drawSeed g15_ways g15_wallCount g15_texts f16 f17 f18 f19 g20_size g20_lines f21 g22_size f23 f24 f25 f26 g27_underWay g27_way g27_other g27_lead g27_man g27_dog g27_gone g27_greatest g0_drawSeed u1.1 u1.2.1 u1.2.2.1 u1.2.2.2.1 u1.2.2.2.2.1 u1.2.2.2.2.2.1 u1.2.2.2.2.2.2 u2.1 u2.2.1 u2.2.2 u3.1 u3.2.1 u3.2.2.1 u3.2.2.2.1 u3.2.2.2.2 u4.1 u4.2.1 u4.2.2.1 u4.2.2.2.1 u4.2.2.2.2.1 u4.2.2.2.2.2.1 u4.2.2.2.2.2.2.1 u4.2.2.2.2.2.2.2.1 u4.2.2.2.2.2.2.2.2)) [0, 1, 2, 3, 4, 5, 6, 7, 8, 9, 10, 11, 12, 26, 13, 14, 15, 16, 17, 18, 19, 20, 21, 22, 23, 24, 25, 27] (by decide) rfl
  generalize H1 = H at hP hS ⊢
  refine lv_aload_n hx hb dX6_copyFrom_44 rfl (lv_at hl 0 rfl) ?_
  refine lv_aload_n hx hb dX6_copyFrom_45 rfl (lv_at hl 1 rfl) ?_
  refine va_get (D := (dC, dI)) (ci := 6) (v := .int g14_drawSeed) (C := RX6) (T := TX6) (N := 5) hx hb hts inX6_copyFrom_X6 hown hK hP 14 rfl rfl 4 (by decide) (hts (.fieldLink RX6 39 "LeadPark$Scene" "drawSeed" "I") (List.mem_of_getElem? (i := 5) rfl)) (fun _ h9 => h9) rfl dX6_copyFrom_46 ?_
  refine va_put (D := (dC, dI)) (ci := 6) (v := .int g14_drawSeed) (ty := .int) (C := RX6) (T := TX6) (N := 5) hx hb hts inX6_copyFrom_X6 tyX6 tyX6_ok nmX6 hown hK hP hD hS 0 rfl rfl 4 (by decide) (hts (.fieldLink RX6 39 "LeadPark$Scene" "drawSeed" "I") (List.mem_of_getElem? (i := 5) rfl)) (fun _ h9 => h9) rfl (by decide +kernel) rfl rfl (Nat.le_of_ble_eq_true rfl) dX6_copyFrom_49 (fun H locs hP hD hS => ?_)
  have hP : va_P (dC, dI) vwCl (ceX6_copyFrom cyI cyB cyJ cyZ a0 a1 a2 a3 a4 a5 a6 a7 a8 a9 a10 a11 a12 a13 a14 a15 a16 a17 a18 a19 a20 a21 a22 a23 a24 a25 a26 a27 b6_seen b13_steps b13_greatestAhead b20_seen b27_steps b27_greatestAhead g27_remembered g14_drawSeed g15_ways g15_wallCount g15_texts f16 f17 f18 f19 g20_size g20_lines f21 g22_size f23 f24 f25 f26 g27_underWay g27_way g27_other g27_lead g27_man g27_dog g27_gone g27_greatest g14_drawSeed u1.1 u1.2.1 u1.2.2.1 u1.2.2.2.1 u1.2.2.2.2.1 u1.2.2.2.2.2.1 u1.2.2.2.2.2.2 u2.1 u2.2.1 u2.2.2 u3.1 u3.2.1 u3.2.2.1 u3.2.2.2.1 u3.2.2.2.2 u4.1 u4.2.1 u4.2.2.1 u4.2.2.2.1 u4.2.2.2.2.1 u4.2.2.2.2.2.1 u4.2.2.2.2.2.2.1 u4.2.2.2.2.2.2.2.1 u4.2.2.2.2.2.2.2.2) H := hP
  have hD : va_D A (ceX6_copyFrom cyI cyB cyJ cyZ a0 a1 a2 a3 a4 a5 a6 a7 a8 a9 a10 a11 a12 a13 a14 a15 a16 a17 a18 a19 a20 a21 a22 a23 a24 a25 a26 a27 b6_seen b13_steps b13_greatestAhead b20_seen b27_steps b27_greatestAhead g27_remembered g14_drawSeed g15_ways g15_wallCount g15_texts f16 f17 f18 f19 g20_size g20_lines f21 g22_size f23 f24 f25 f26 g27_underWay g27_way g27_other g27_lead g27_man g27_dog g27_gone g27_greatest g14_drawSeed u1.1 u1.2.1 u1.2.2.1 u1.2.2.2.1 u1.2.2.2.2.1 u1.2.2.2.2.2.1 u1.2.2.2.2.2.2 u2.1 u2.2.1 u2.2.2 u3.1 u3.2.1 u3.2.2.1 u3.2.2.2.1 u3.2.2.2.2 u4.1 u4.2.1 u4.2.2.1 u4.2.2.2.1 u4.2.2.2.2.1 u4.2.2.2.2.2.1 u4.2.2.2.2.2.2.1 u4.2.2.2.2.2.2.2.1 u4.2.2.2.2.2.2.2.2) := hD
  rw [hQ]
  exact W.vret hx hb hr (fun t ht hW => ⟨⟨(g14_drawSeed, u1.1, u1.2.1, u1.2.2.1, u1.2.2.2.1, u1.2.2.2.2.1, u1.2.2.2.2.2.1, u1.2.2.2.2.2.2, u2.1, u2.2.1, u2.2.2, u3.1, u3.2.1, u3.2.2.1, u3.2.2.2.1, u3.2.2.2.2, u4.1, u4.2.1, u4.2.2.1, u4.2.2.2.1, u4.2.2.2.2.1, u4.2.2.2.2.2.1, u4.2.2.2.2.2.2.1, u4.2.2.2.2.2.2.2.1, u4.2.2.2.2.2.2.2.2), rfl, hw, by rw [ht]; exact hP, va_K.moved hW.alike hK, hD⟩, hS.F ht⟩) hS.2.2 dX6_copyFrom_52
/-! LeadPark$Scene.isShut (IIII)Z -/
abbrev ceX6_isShut (cyI cyB cyJ cyZ : ClassId) (a0 a1 a2 a3 a4 a5 a6 a7 b0_marks b0_stroll b1_counts : Nat) (g0_drawSeed : Int32) (g1_ways : Int32) (g1_texts : Int32) (g5_lines : Int32) (g1_wallCount : Int32) (f2 : Nat → Int32) (f3 : Nat → Int32) (f4 : Nat → Int32) (g5_size : Int32) (f7 : Nat → Int32) (f6 : Nat → Int32) : va_W := [(a0, .inr (6, [.ref a1, .ref a5, .ref b0_marks, .ref b0_stroll, .int g0_drawSeed])), (a1, .inr (1, [.ref a2, .ref a3, .ref b1_counts, .ref a4, .int g1_ways, .int g1_wallCount, .int g1_texts])), (a2, .inl (cyI, 360, .inl f2)), (a3, .inl (cyI, 360, .inl f3)), (a4, .inl (cyI, 32, .inl f4)), (a5, .inr (2, [.ref a7, .ref a6, .int g5_size, .int g5_lines])), (a6, .inl (cyI, 7, .inl f6)), (a7, .inl (cyI, 400, .inl f7))]

theorem inX6_isShut_X6 : ∀ w ∈ wsX60, w ∈ wsX6_isShut := fun _ h => List.mem_cons_of_mem _ (List.mem_append_left _ (List.mem_append_left _ (List.mem_append_right _ h)))
abbrev rmX6_isShut : Room := { frames := 3, cells := 0, slots := 0, locals := 104 }
set_option maxRecDepth 100000 in
set_option maxHeartbeats 4000000 in
theorem ctX6_isShut (l : Launch) (dC : Nat → ClassId) (dI : Nat → Nat → Nat) (cyI cyB cyJ cyZ : ClassId) (sz : Nat) (a0 a1 a2 a3 a4 a5 a6 a7 b0_marks b0_stroll b1_counts : Nat) (g0_drawSeed : Int32) (g1_ways : Int32) (g1_texts : Int32) (g5_lines : Int32) (g1_wallCount : Int32) (f2 : Nat → Int32) (f3 : Nat → Int32) (f4 : Nat → Int32) (g5_size : Int32) (f7 : Nat → Int32) (f6 : Nat → Int32) (p0 : Int32) (p1 : Int32) (p2 : Int32) (p3 : Int32) (post : Int32 → ((Nat → Int32)) → Prop) (hw : wpX6_isShut post g1_wallCount f2 f3 f4 g5_size f7 f6 p0 p1 p2 p3) : Met l yX6_isShut wsX6_isShut rmX6_isShut (va_Pc [.ref a0, .int p0, .int p1, .int p2, .int p3] (wPre dC dI cyI cyB cyJ cyZ sz (ceX6_isShut cyI cyB cyJ cyZ a0 a1 a2 a3 a4 a5 a6 a7 b0_marks b0_stroll b1_counts g0_drawSeed g1_ways g1_texts g5_lines g1_wallCount f2 f3 f4 g5_size f7 f6))) (va_Qi post (fun u : (Nat → Int32) => wAt dC dI cyI cyB cyJ cyZ (va_A (ceX6_isShut cyI cyB cyJ cyZ a0 a1 a2 a3 a4 a5 a6 a7 b0_marks b0_stroll b1_counts g0_drawSeed g1_ways g1_texts g5_lines g1_wallCount f2 f3 f4 g5_size f7 f6) sz) (ceX6_isShut cyI cyB cyJ cyZ a0 a1 a2 a3 a4 a5 a6 a7 b0_marks b0_stroll b1_counts g0_drawSeed g1_ways g1_texts g5_lines g1_wallCount f2 f3 f4 g5_size f7 u)) (va_A (ceX6_isShut cyI cyB cyJ cyZ a0 a1 a2 a3 a4 a5 a6 a7 b0_marks b0_stroll b1_counts g0_drawSeed g1_ways g1_texts g5_lines g1_wallCount f2 f3 f4 g5_size f7 f6) sz)) 0 0 (va_A (ceX6_isShut cyI cyB cyJ cyZ a0 a1 a2 a3 a4 a5 a6 a7 b0_marks b0_stroll b1_counts g0_drawSeed g1_ways g1_texts g5_lines g1_wallCount f2 f3 f4 g5_size f7 f6) sz) := by
  refine Met.ofW (cc := cX6_isShut) (maxL := 5) (ret := (some .boolean)) (by decide) rfl ?_
  intro p e s m args below meth c s₁ B hml hv
  obtain ⟨rfl, hsz, hP, hK, hD0, hN⟩ := hv
  have hx := B.exec
  have hb := B.bytes
  have hr := B.returns
  have hts := atoms_spec (ws := wsX6_isShut) B.pre
  have hown : s.vm.findClass RX6 = some m.cls := findClass_of_methodNamed B.named
  have hlocks := B.notSynchronized
  subst hsz
  have hD := hD0.self (sz := s.heap.size)
  generalize hAe : va_A (ceX6_isShut cyI cyB cyJ cyZ a0 a1 a2 a3 a4 a5 a6 a7 b0_marks b0_stroll b1_counts g0_drawSeed g1_ways g1_texts g5_lines g1_wallCount f2 f3 f4 g5_size f7 f6) s.heap.size = A at hD ⊢
  have hA : ∀ q : Nat, s.heap.size ≤ q → A q := fun q h => by rw [← hAe]; exact Or.inr h
  have hS : va_S A s.heap s.heap [] := va_S.rf
  have C0 : cxM p s m meth c _ wsX6_isShut RX6 cX6_isShut 5 (some .boolean) := ⟨hx, hb, hr, hml, hown, hts, hlocks⟩
  have hl := lv_entry ([.ref a0, .int p0, .int p1, .int p2, .int p3]) (n := 5) (Nat.le_of_ble_eq_true rfl)
  rw [lg_entry_eq]
  generalize (lg_sl ([.ref a0, .int p0, .int p1, .int p2, .int p3]) ++ List.replicate (5 - (lg_sl ([.ref a0, .int p0, .int p1, .int p2, .int p3])).length) Slot.unset).toArray = ls at hl ⊢
  have hl : lv_has ls 5 [(0, .ref a0), (1, .int p0), (2, .int p1), (3, .int p2), (4, .int p3)] := hl
  show W p l e rmX6_isShut s m _ below meth c _ _ _ _ _ _
  refine wq (fun Q hQ => ?_)
  refine lv_aload_n hx hb dX6_isShut_0 rfl (lv_at hl 0 rfl) ?_
  refine va_get (D := (dC, dI)) (ci := 6) (v := .ref a1) (C := RX6) (T := TX6) (N := 5) hx hb hts inX6_isShut_X6 hown hK hP 0 rfl rfl 0 (by decide) (hts (.fieldLink RX6 12 "LeadPark$Scene" "ground" "LLeadPark$Ground;") (List.mem_of_getElem? (i := 1) rfl)) (fun _ h9 => h9) rfl dX6_isShut_1 ?_
  refine lv_iload_n hx hb dX6_isShut_4 rfl (lv_at hl 1 rfl) ?_
  refine lv_iload_n hx hb dX6_isShut_5 rfl (lv_at hl 2 rfl) ?_
  refine lv_iload_n hx hb dX6_isShut_6 rfl (lv_at hl 3 rfl) ?_
  refine lv_iload hx hb dX6_isShut_7 (lv_at hl 4 rfl) ?_
  have hPc := hP.sub (ws' := (ceX1_isWalledOff cyI cyB cyJ cyZ a1 a2 a3 a4 b1_counts g1_ways g1_texts g1_wallCount f2 f3 f4)) [1, 2, 3, 4] rfl
  have hDc := hD.sub (ws' := (ceX1_isWalledOff cyI cyB cyJ cyZ a1 a2 a3 a4 b1_counts g1_ways g1_texts g1_wallCount f2 f3 f4)) [1, 2, 3, 4] (by decide) rfl
  have hFc := va_free (wc := (ceX1_isWalledOff cyI cyB cyJ cyZ a1 a2 a3 a4 b1_counts g1_ways g1_texts g1_wallCount f2 f3 f4)) hD hS hA [1, 2, 3, 4] rfl
  refine va_calli (va_runV (As := [.int p0, .int p1, .int p2, .int p3]) (rest := []) ⟨hx, hb, hml, hown, hts⟩ (ctX1_isWalledOff l dC dI cyI cyB cyJ cyZ _ a1 a2 a3 a4 b1_counts g1_ways g1_texts g1_wallCount f2 f3 f4 p0 p1 p2 p3 _ hw) (cwV 4 hts gX6_isShut_X1_isWalledOff rfl rfl rfl (by decide +kernel) ⟨Nat.le_of_ble_eq_true rfl, Nat.le_of_ble_eq_true rfl⟩) ⟨wPre_blind, va_recv hK hPc (ci := 1) (q0 := 0) rfl rfl, fun U hU hW => wPre_of hPc hK hDc hN hU hW⟩ rfl rfl hl.1 rfl (lv_room (Nat.le_of_ble_eq_true rfl)) dX6_isShut_9 ⟨(Nat.zero_le _), (Nat.zero_le _)⟩) hS (fun q _ h => hFc q h) hFc (fun r2 u1 t H1 locs ht hvm hw hB hz1 hk1 hS => ?_)
  obtain ⟨hP1, hK1, hD1⟩ := hB
  rw [ht] at hP1
  obtain ⟨hP, hD⟩ := va_join (wr := pickW (ceX6_isShut cyI cyB cyJ cyZ a0 a1 a2 a3 a4 a5 a6 a7 b0_marks b0_stroll b1_counts g0_drawSeed g1_ways g1_texts g5_lines g1_wallCount f2 f3 f4 g5_size f7 f6) [0, 5, 6, 7]) (w1 := (ceX1_isWalledOff cyI cyB cyJ cyZ a1 a2 a3 a4 b1_counts g1_ways g1_texts g1_wallCount f2 f3 f4)) hP hD [1, 2, 3, 4] [0, 5, 6, 7] rfl rfl (by decide) (by decide) hk1 hFc hP1 hD1
  have hP := hP.sub (ws' := (ceX6_isShut cyI cyB cyJ cyZ a0 a1 a2 a3 a4 a5 a6 a7 b0_marks b0_stroll b1_counts g0_drawSeed g1_ways g1_texts g5_lines g1_wallCount f2 f3 f4 g5_size f7 f6)) [0, 4, 5, 6, 7, 1, 2, 3] rfl
  have hD := hD.sub (ws' := (ceX6_isShut cyI cyB cyJ cyZ a0 a1 a2 a3 a4 a5 a6 a7 b0_marks b0_stroll b1_counts g0_drawSeed g1_ways g1_texts g5_lines g1_wallCount f2 f3 f4 g5_size f7 f6)) [0, 4, 5, 6, 7, 1, 2, 3] (by decide) rfl
  generalize H1 = H at hP hS ⊢
  refine lv_if_ne (tgt := 34) hx hb dX6_isShut_12 (by decide) (fun hc => ?_) (fun hc => ?_)
  · have hw := hw.1 hc
    refine lv_iconst (v := 1) hx hb dX6_isShut_34 (by decide) ?_
    refine lv_goto (tgt := 39) hx hb dX6_isShut_35 (by decide) ?_
    rw [hQ]
    exact W.zret (v := 1) (ty := .boolean) hx hb hr rfl (fun t ht hW => ⟨⟨1, (f6), rfl, hw, by rw [ht]; exact hP, va_K.moved hW.alike hK, hD⟩, hS.F ht⟩) hS.2.2 dX6_isShut_39
  · have hw := hw.2 hc
    refine lv_aload_n hx hb dX6_isShut_15 rfl (lv_at hl 0 rfl) ?_
    refine va_get (D := (dC, dI)) (ci := 6) (v := .ref a5) (C := RX6) (T := TX6) (N := 5) hx hb hts inX6_isShut_X6 hown hK hP 0 rfl rfl 1 (by decide) (hts (.fieldLink RX6 21 "LeadPark$Scene" "law" "LLeadPark$Law;") (List.mem_of_getElem? (i := 2) rfl)) (fun _ h9 => h9) rfl dX6_isShut_16 ?_
    refine lv_aload_n hx hb dX6_isShut_19 rfl (lv_at hl 0 rfl) ?_
    refine va_get (D := (dC, dI)) (ci := 6) (v := .ref a1) (C := RX6) (T := TX6) (N := 5) hx hb hts inX6_isShut_X6 hown hK hP 0 rfl rfl 0 (by decide) (hts (.fieldLink RX6 12 "LeadPark$Scene" "ground" "LLeadPark$Ground;") (List.mem_of_getElem? (i := 1) rfl)) (fun _ h9 => h9) rfl dX6_isShut_20 ?_
    refine lv_iload_n hx hb dX6_isShut_23 rfl (lv_at hl 1 rfl) ?_
    refine lv_iload_n hx hb dX6_isShut_24 rfl (lv_at hl 2 rfl) ?_
    refine lv_iload_n hx hb dX6_isShut_25 rfl (lv_at hl 3 rfl) ?_
    refine lv_iload hx hb dX6_isShut_26 (lv_at hl 4 rfl) ?_
    have hPc := hP.sub (ws' := (ceX2_isBroken cyI cyB cyJ cyZ a5 a6 a7 a1 a2 a3 b1_counts a4 g5_lines g1_ways g1_wallCount g1_texts g5_size f7 f2 f3 f6)) [5, 6, 7, 1, 2, 3] rfl
    have hDc := hD.sub (ws' := (ceX2_isBroken cyI cyB cyJ cyZ a5 a6 a7 a1 a2 a3 b1_counts a4 g5_lines g1_ways g1_wallCount g1_texts g5_size f7 f2 f3 f6)) [5, 6, 7, 1, 2, 3] (by decide) rfl
    have hFc := va_free (wc := (ceX2_isBroken cyI cyB cyJ cyZ a5 a6 a7 a1 a2 a3 b1_counts a4 g5_lines g1_ways g1_wallCount g1_texts g5_size f7 f2 f3 f6)) hD hS hA [5, 6, 7, 1, 2, 3] rfl
    refine va_calli (va_runV (As := [.ref a1, .int p0, .int p1, .int p2, .int p3]) (rest := []) ⟨hx, hb, hml, hown, hts⟩ (ctX2_isBroken l dC dI cyI cyB cyJ cyZ _ a5 a6 a7 a1 a2 a3 b1_counts a4 g5_lines g1_ways g1_wallCount g1_texts g5_size f7 f2 f3 f6 p0 p1 p2 p3 _ hw) (cwV 5 hts gX6_isShut_X2_isBroken rfl rfl rfl (by decide +kernel) ⟨Nat.le_of_ble_eq_true rfl, Nat.le_of_ble_eq_true rfl⟩) ⟨wPre_blind, va_recv hK hPc (ci := 2) (q0 := 0) rfl rfl, fun U hU hW => wPre_of hPc hK hDc hN hU hW⟩ rfl rfl hl.1 rfl (lv_room (Nat.le_of_ble_eq_true rfl)) dX6_isShut_28 ⟨(Nat.zero_le _), (Nat.zero_le _)⟩) hS (fun q _ h => hFc q h) hFc (fun r4 u3 t H1 locs ht hvm hw hB hz1 hk1 hS => ?_)
    obtain ⟨hP1, hK1, hD1⟩ := hB
    rw [ht] at hP1
    obtain ⟨hP, hD⟩ := va_join (wr := pickW (ceX6_isShut cyI cyB cyJ cyZ a0 a1 a2 a3 a4 a5 a6 a7 b0_marks b0_stroll b1_counts g0_drawSeed g1_ways g1_texts g5_lines g1_wallCount f2 f3 f4 g5_size f7 f6) [0, 4]) (w1 := (ceX2_isBroken cyI cyB cyJ cyZ a5 a6 a7 a1 a2 a3 b1_counts a4 g5_lines g1_ways g1_wallCount g1_texts g5_size f7 f2 f3 u3)) hP hD [5, 6, 7, 1, 2, 3] [0, 4] rfl rfl (by decide) (by decide) hk1 hFc hP1 hD1
    have hP := hP.sub (ws' := (ceX6_isShut cyI cyB cyJ cyZ a0 a1 a2 a3 a4 a5 a6 a7 b0_marks b0_stroll b1_counts g0_drawSeed g1_ways g1_texts g5_lines g1_wallCount f2 f3 f4 g5_size f7 u3)) [0, 5, 6, 7, 1, 2, 3, 4] rfl
    have hD := hD.sub (ws' := (ceX6_isShut cyI cyB cyJ cyZ a0 a1 a2 a3 a4 a5 a6 a7 b0_marks b0_stroll b1_counts g0_drawSeed g1_ways g1_texts g5_lines g1_wallCount f2 f3 f4 g5_size f7 u3)) [0, 5, 6, 7, 1, 2, 3, 4] (by decide) rfl
    generalize H1 = H at hP hS ⊢
    refine lv_if_eq (tgt := 38) hx hb dX6_isShut_31 (by decide) (fun hc => ?_) (fun hc => ?_)
    · have hw := hw.1 hc
      refine lv_iconst (v := 0) hx hb dX6_isShut_38 (by decide) ?_
      rw [hQ]
      exact W.zret (v := 0) (ty := .boolean) hx hb hr rfl (fun t ht hW => ⟨⟨0, (u3), rfl, hw, by rw [ht]; exact hP, va_K.moved hW.alike hK, hD⟩, hS.F ht⟩) hS.2.2 dX6_isShut_39
    · have hw := hw.2 hc
      refine lv_iconst (v := 1) hx hb dX6_isShut_34 (by decide) ?_
      refine lv_goto (tgt := 39) hx hb dX6_isShut_35 (by decide) ?_
      rw [hQ]
      exact W.zret (v := 1) (ty := .boolean) hx hb hr rfl (fun t ht hW => ⟨⟨1, (u3), rfl, hw, by rw [ht]; exact hP, va_K.moved hW.alike hK, hD⟩, hS.F ht⟩) hS.2.2 dX6_isShut_39
/-! LeadPark$Scene.allows (IIIII)Z -/
abbrev ceX6_allows (cyI cyB cyJ cyZ : ClassId) (a0 a1 a2 a3 a4 a5 a6 a7 a8 b0_marks b0_stroll : Nat) (g0_drawSeed : Int32) (g1_texts : Int32) (g6_lines : Int32) (g1_ways : Int32) (g1_wallCount : Int32) (f2 : Nat → Int32) (f3 : Nat → Int32) (f4 : Nat → Int32) (f5 : Nat → Int32) (g6_size : Int32) (f8 : Nat → Int32) (f7 : Nat → Int32) : va_W := [(a0, .inr (6, [.ref a1, .ref a6, .ref b0_marks, .ref b0_stroll, .int g0_drawSeed])), (a1, .inr (1, [.ref a3, .ref a4, .ref a2, .ref a5, .int g1_ways, .int g1_wallCount, .int g1_texts])), (a2, .inl (cyI, 12, .inl f2)), (a3, .inl (cyI, 360, .inl f3)), (a4, .inl (cyI, 360, .inl f4)), (a5, .inl (cyI, 32, .inl f5)), (a6, .inr (2, [.ref a8, .ref a7, .int g6_size, .int g6_lines])), (a7, .inl (cyI, 7, .inl f7)), (a8, .inl (cyI, 400, .inl f8))]

theorem inX6_allows_X6 : ∀ w ∈ wsX60, w ∈ wsX6_allows := fun _ h => List.mem_cons_of_mem _ (List.mem_append_left _ (List.mem_append_left _ (List.mem_append_right _ h)))
abbrev rmX6_allows : Room := { frames := 4, cells := 0, slots := 0, locals := 128 }
set_option maxRecDepth 100000 in
set_option maxHeartbeats 4000000 in
theorem ctX6_allows (l : Launch) (dC : Nat → ClassId) (dI : Nat → Nat → Nat) (cyI cyB cyJ cyZ : ClassId) (sz : Nat) (a0 a1 a2 a3 a4 a5 a6 a7 a8 b0_marks b0_stroll : Nat) (g0_drawSeed : Int32) (g1_texts : Int32) (g6_lines : Int32) (g1_ways : Int32) (g1_wallCount : Int32) (f2 : Nat → Int32) (f3 : Nat → Int32) (f4 : Nat → Int32) (f5 : Nat → Int32) (g6_size : Int32) (f8 : Nat → Int32) (f7 : Nat → Int32) (p0 : Int32) (p1 : Int32) (p2 : Int32) (p3 : Int32) (p4 : Int32) (post : Int32 → ((Nat → Int32)) → Prop) (hw : wpX6_allows post g1_ways g1_wallCount f2 f3 f4 f5 g6_size f8 f7 p0 p1 p2 p3 p4) : Met l yX6_allows wsX6_allows rmX6_allows (va_Pc [.ref a0, .int p0, .int p1, .int p2, .int p3, .int p4] (wPre dC dI cyI cyB cyJ cyZ sz (ceX6_allows cyI cyB cyJ cyZ a0 a1 a2 a3 a4 a5 a6 a7 a8 b0_marks b0_stroll g0_drawSeed g1_texts g6_lines g1_ways g1_wallCount f2 f3 f4 f5 g6_size f8 f7))) (va_Qi post (fun u : (Nat → Int32) => wAt dC dI cyI cyB cyJ cyZ (va_A (ceX6_allows cyI cyB cyJ cyZ a0 a1 a2 a3 a4 a5 a6 a7 a8 b0_marks b0_stroll g0_drawSeed g1_texts g6_lines g1_ways g1_wallCount f2 f3 f4 f5 g6_size f8 f7) sz) (ceX6_allows cyI cyB cyJ cyZ a0 a1 a2 a3 a4 a5 a6 a7 a8 b0_marks b0_stroll g0_drawSeed g1_texts g6_lines g1_ways g1_wallCount f2 f3 f4 f5 g6_size f8 u)) (va_A (ceX6_allows cyI cyB cyJ cyZ a0 a1 a2 a3 a4 a5 a6 a7 a8 b0_marks b0_stroll g0_drawSeed g1_texts g6_lines g1_ways g1_wallCount f2 f3 f4 f5 g6_size f8 f7) sz)) 0 0 (va_A (ceX6_allows cyI cyB cyJ cyZ a0 a1 a2 a3 a4 a5 a6 a7 a8 b0_marks b0_stroll g0_drawSeed g1_texts g6_lines g1_ways g1_wallCount f2 f3 f4 f5 g6_size f8 f7) sz) := by
  refine Met.ofW (cc := cX6_allows) (maxL := 6) (ret := (some .boolean)) (by decide) rfl ?_
  intro p e s m args below meth c s₁ B hml hv
  obtain ⟨rfl, hsz, hP, hK, hD0, hN⟩ := hv
  have hx := B.exec
  have hb := B.bytes
  have hr := B.returns
  have hts := atoms_spec (ws := wsX6_allows) B.pre
  have hown : s.vm.findClass RX6 = some m.cls := findClass_of_methodNamed B.named
  have hlocks := B.notSynchronized
  subst hsz
  have hD := hD0.self (sz := s.heap.size)
  generalize hAe : va_A (ceX6_allows cyI cyB cyJ cyZ a0 a1 a2 a3 a4 a5 a6 a7 a8 b0_marks b0_stroll g0_drawSeed g1_texts g6_lines g1_ways g1_wallCount f2 f3 f4 f5 g6_size f8 f7) s.heap.size = A at hD ⊢
  have hA : ∀ q : Nat, s.heap.size ≤ q → A q := fun q h => by rw [← hAe]; exact Or.inr h
  have hS : va_S A s.heap s.heap [] := va_S.rf
  have C0 : cxM p s m meth c _ wsX6_allows RX6 cX6_allows 6 (some .boolean) := ⟨hx, hb, hr, hml, hown, hts, hlocks⟩
  have hl := lv_entry ([.ref a0, .int p0, .int p1, .int p2, .int p3, .int p4]) (n := 6) (Nat.le_of_ble_eq_true rfl)
  rw [lg_entry_eq]
  generalize (lg_sl ([.ref a0, .int p0, .int p1, .int p2, .int p3, .int p4]) ++ List.replicate (6 - (lg_sl ([.ref a0, .int p0, .int p1, .int p2, .int p3, .int p4])).length) Slot.unset).toArray = ls at hl ⊢
  have hl : lv_has ls 6 [(0, .ref a0), (1, .int p0), (2, .int p1), (3, .int p2), (4, .int p3), (5, .int p4)] := hl
  show W p l e rmX6_allows s m _ below meth c _ _ _ _ _ _
  refine wq (fun Q hQ => ?_)
  refine lv_aload_n hx hb dX6_allows_0 rfl (lv_at hl 0 rfl) ?_
  refine va_get (D := (dC, dI)) (ci := 6) (v := .ref a1) (C := RX6) (T := TX6) (N := 5) hx hb hts inX6_allows_X6 hown hK hP 0 rfl rfl 0 (by decide) (hts (.fieldLink RX6 12 "LeadPark$Scene" "ground" "LLeadPark$Ground;") (List.mem_of_getElem? (i := 1) rfl)) (fun _ h9 => h9) rfl dX6_allows_1 ?_
  refine lv_iload_n hx hb dX6_allows_4 rfl (lv_at hl 1 rfl) ?_
  refine lv_iload_n hx hb dX6_allows_5 rfl (lv_at hl 2 rfl) ?_
  have hPc := hP.sub (ws' := (ceX1_hasCorner cyI cyB cyJ cyZ a1 a2 a3 a4 a5 g1_wallCount g1_texts g1_ways f2)) [1, 2] rfl
  have hDc := hD.sub (ws' := (ceX1_hasCorner cyI cyB cyJ cyZ a1 a2 a3 a4 a5 g1_wallCount g1_texts g1_ways f2)) [1, 2] (by decide) rfl
  have hFc := va_free (wc := (ceX1_hasCorner cyI cyB cyJ cyZ a1 a2 a3 a4 a5 g1_wallCount g1_texts g1_ways f2)) hD hS hA [1, 2] rfl
  refine va_calli (va_runV (As := [.int p0, .int p1]) (rest := []) ⟨hx, hb, hml, hown, hts⟩ (ctX1_hasCorner l dC dI cyI cyB cyJ cyZ _ a1 a2 a3 a4 a5 g1_wallCount g1_texts g1_ways f2 p0 p1 _ hw) (cwV 2 hts gX6_allows_X1_hasCorner rfl rfl rfl (by decide +kernel) ⟨Nat.le_of_ble_eq_true rfl, Nat.le_of_ble_eq_true rfl⟩) ⟨wPre_blind, va_recv hK hPc (ci := 1) (q0 := 0) rfl rfl, fun U hU hW => wPre_of hPc hK hDc hN hU hW⟩ rfl rfl hl.1 rfl (lv_room (Nat.le_of_ble_eq_true rfl)) dX6_allows_6 ⟨(Nat.zero_le _), (Nat.zero_le _)⟩) hS (fun q _ h => hFc q h) hFc (fun r2 u1 t H1 locs ht hvm hw hB hz1 hk1 hS => ?_)
  obtain ⟨hP1, hK1, hD1⟩ := hB
  rw [ht] at hP1
  obtain ⟨hP, hD⟩ := va_join (wr := pickW (ceX6_allows cyI cyB cyJ cyZ a0 a1 a2 a3 a4 a5 a6 a7 a8 b0_marks b0_stroll g0_drawSeed g1_texts g6_lines g1_ways g1_wallCount f2 f3 f4 f5 g6_size f8 f7) [0, 3, 4, 5, 6, 7, 8]) (w1 := (ceX1_hasCorner cyI cyB cyJ cyZ a1 a2 a3 a4 a5 g1_wallCount g1_texts g1_ways f2)) hP hD [1, 2] [0, 3, 4, 5, 6, 7, 8] rfl rfl (by decide) (by decide) hk1 hFc hP1 hD1
  have hP := hP.sub (ws' := (ceX6_allows cyI cyB cyJ cyZ a0 a1 a2 a3 a4 a5 a6 a7 a8 b0_marks b0_stroll g0_drawSeed g1_texts g6_lines g1_ways g1_wallCount f2 f3 f4 f5 g6_size f8 f7)) [0, 7, 8, 1, 2, 3, 4, 5, 6] rfl
  have hD := hD.sub (ws' := (ceX6_allows cyI cyB cyJ cyZ a0 a1 a2 a3 a4 a5 a6 a7 a8 b0_marks b0_stroll g0_drawSeed g1_texts g6_lines g1_ways g1_wallCount f2 f3 f4 f5 g6_size f8 f7)) [0, 7, 8, 1, 2, 3, 4, 5, 6] (by decide) rfl
  generalize H1 = H at hP hS ⊢
  refine lv_if_eq (tgt := 58) hx hb dX6_allows_9 (by decide) (fun hc => ?_) (fun hc => ?_)
  · have hw := hw.1 hc
    refine lv_iconst (v := 0) hx hb dX6_allows_58 (by decide) ?_
    rw [hQ]
    exact W.zret (v := 0) (ty := .boolean) hx hb hr rfl (fun t ht hW => ⟨⟨0, (f7), rfl, hw, by rw [ht]; exact hP, va_K.moved hW.alike hK, hD⟩, hS.F ht⟩) hS.2.2 dX6_allows_59
  · have hw := hw.2 hc
    refine lv_aload_n hx hb dX6_allows_12 rfl (lv_at hl 0 rfl) ?_
    refine va_get (D := (dC, dI)) (ci := 6) (v := .ref a1) (C := RX6) (T := TX6) (N := 5) hx hb hts inX6_allows_X6 hown hK hP 0 rfl rfl 0 (by decide) (hts (.fieldLink RX6 12 "LeadPark$Scene" "ground" "LLeadPark$Ground;") (List.mem_of_getElem? (i := 1) rfl)) (fun _ h9 => h9) rfl dX6_allows_13 ?_
    refine lv_iload_n hx hb dX6_allows_16 rfl (lv_at hl 3 rfl) ?_
    refine lv_iload hx hb dX6_allows_17 (lv_at hl 4 rfl) ?_
    have hPc := hP.sub (ws' := (ceX1_hasCorner cyI cyB cyJ cyZ a1 a2 a3 a4 a5 g1_wallCount g1_texts g1_ways f2)) [1, 2] rfl
    have hDc := hD.sub (ws' := (ceX1_hasCorner cyI cyB cyJ cyZ a1 a2 a3 a4 a5 g1_wallCount g1_texts g1_ways f2)) [1, 2] (by decide) rfl
    have hFc := va_free (wc := (ceX1_hasCorner cyI cyB cyJ cyZ a1 a2 a3 a4 a5 g1_wallCount g1_texts g1_ways f2)) hD hS hA [1, 2] rfl
    refine va_calli (va_runV (As := [.int p2, .int p3]) (rest := []) ⟨hx, hb, hml, hown, hts⟩ (ctX1_hasCorner l dC dI cyI cyB cyJ cyZ _ a1 a2 a3 a4 a5 g1_wallCount g1_texts g1_ways f2 p2 p3 _ hw) (cwV 2 hts gX6_allows_X1_hasCorner rfl rfl rfl (by decide +kernel) ⟨Nat.le_of_ble_eq_true rfl, Nat.le_of_ble_eq_true rfl⟩) ⟨wPre_blind, va_recv hK hPc (ci := 1) (q0 := 0) rfl rfl, fun U hU hW => wPre_of hPc hK hDc hN hU hW⟩ rfl rfl hl.1 rfl (lv_room (Nat.le_of_ble_eq_true rfl)) dX6_allows_19 ⟨(Nat.zero_le _), (Nat.zero_le _)⟩) hS (fun q _ h => hFc q h) hFc (fun r4 u3 t H1 locs ht hvm hw hB hz1 hk1 hS => ?_)
    obtain ⟨hP1, hK1, hD1⟩ := hB
    rw [ht] at hP1
    obtain ⟨hP, hD⟩ := va_join (wr := pickW (ceX6_allows cyI cyB cyJ cyZ a0 a1 a2 a3 a4 a5 a6 a7 a8 b0_marks b0_stroll g0_drawSeed g1_texts g6_lines g1_ways g1_wallCount f2 f3 f4 f5 g6_size f8 f7) [0, 3, 4, 5, 6, 7, 8]) (w1 := (ceX1_hasCorner cyI cyB cyJ cyZ a1 a2 a3 a4 a5 g1_wallCount g1_texts g1_ways f2)) hP hD [1, 2] [0, 3, 4, 5, 6, 7, 8] rfl rfl (by decide) (by decide) hk1 hFc hP1 hD1
    have hP := hP.sub (ws' := (ceX6_allows cyI cyB cyJ cyZ a0 a1 a2 a3 a4 a5 a6 a7 a8 b0_marks b0_stroll g0_drawSeed g1_texts g6_lines g1_ways g1_wallCount f2 f3 f4 f5 g6_size f8 f7)) [0, 7, 8, 1, 2, 3, 4, 5, 6] rfl
    have hD := hD.sub (ws' := (ceX6_allows cyI cyB cyJ cyZ a0 a1 a2 a3 a4 a5 a6 a7 a8 b0_marks b0_stroll g0_drawSeed g1_texts g6_lines g1_ways g1_wallCount f2 f3 f4 f5 g6_size f8 f7)) [0, 7, 8, 1, 2, 3, 4, 5, 6] (by decide) rfl
    generalize H1 = H at hP hS ⊢
    refine lv_if_eq (tgt := 58) hx hb dX6_allows_22 (by decide) (fun hc => ?_) (fun hc => ?_)
    · have hw := hw.1 hc
      refine lv_iconst (v := 0) hx hb dX6_allows_58 (by decide) ?_
      rw [hQ]
      exact W.zret (v := 0) (ty := .boolean) hx hb hr rfl (fun t ht hW => ⟨⟨0, (f7), rfl, hw, by rw [ht]; exact hP, va_K.moved hW.alike hK, hD⟩, hS.F ht⟩) hS.2.2 dX6_allows_59
    · have hw := hw.2 hc
      refine lv_aload_n hx hb dX6_allows_25 rfl (lv_at hl 0 rfl) ?_
      refine va_get (D := (dC, dI)) (ci := 6) (v := .ref a1) (C := RX6) (T := TX6) (N := 5) hx hb hts inX6_allows_X6 hown hK hP 0 rfl rfl 0 (by decide) (hts (.fieldLink RX6 12 "LeadPark$Scene" "ground" "LLeadPark$Ground;") (List.mem_of_getElem? (i := 1) rfl)) (fun _ h9 => h9) rfl dX6_allows_26 ?_
      refine lv_iload_n hx hb dX6_allows_29 rfl (lv_at hl 1 rfl) ?_
      refine lv_iload_n hx hb dX6_allows_30 rfl (lv_at hl 2 rfl) ?_
      refine lv_iload_n hx hb dX6_allows_31 rfl (lv_at hl 3 rfl) ?_
      refine lv_iload hx hb dX6_allows_32 (lv_at hl 4 rfl) ?_
      have hPc := hP.sub (ws' := (ceX1_distance cyI cyB cyJ cyZ a1 a3 a4 a2 a5 g1_ways g1_wallCount g1_texts f3 f4)) [1, 3, 4] rfl
      have hDc := hD.sub (ws' := (ceX1_distance cyI cyB cyJ cyZ a1 a3 a4 a2 a5 g1_ways g1_wallCount g1_texts f3 f4)) [1, 3, 4] (by decide) rfl
      have hFc := va_free (wc := (ceX1_distance cyI cyB cyJ cyZ a1 a3 a4 a2 a5 g1_ways g1_wallCount g1_texts f3 f4)) hD hS hA [1, 3, 4] rfl
      refine va_calli (va_runV (As := [.int p0, .int p1, .int p2, .int p3]) (rest := []) ⟨hx, hb, hml, hown, hts⟩ (ctX1_distance l dC dI cyI cyB cyJ cyZ _ a1 a3 a4 a2 a5 g1_ways g1_wallCount g1_texts f3 f4 p0 p1 p2 p3 _ hw) (cwV 4 hts gX6_allows_X1_distance rfl rfl rfl (by decide +kernel) ⟨Nat.le_of_ble_eq_true rfl, Nat.le_of_ble_eq_true rfl⟩) ⟨wPre_blind, va_recv hK hPc (ci := 1) (q0 := 0) rfl rfl, fun U hU hW => wPre_of hPc hK hDc hN hU hW⟩ rfl rfl hl.1 rfl (lv_room (Nat.le_of_ble_eq_true rfl)) dX6_allows_34 ⟨(Nat.zero_le _), (Nat.zero_le _)⟩) hS (fun q _ h => hFc q h) hFc (fun r6 u5 t H1 locs ht hvm hw hB hz1 hk1 hS => ?_)
      obtain ⟨hP1, hK1, hD1⟩ := hB
      rw [ht] at hP1
      obtain ⟨hP, hD⟩ := va_join (wr := pickW (ceX6_allows cyI cyB cyJ cyZ a0 a1 a2 a3 a4 a5 a6 a7 a8 b0_marks b0_stroll g0_drawSeed g1_texts g6_lines g1_ways g1_wallCount f2 f3 f4 f5 g6_size f8 f7) [0, 2, 5, 6, 7, 8]) (w1 := (ceX1_distance cyI cyB cyJ cyZ a1 a3 a4 a2 a5 g1_ways g1_wallCount g1_texts f3 f4)) hP hD [1, 3, 4] [0, 2, 5, 6, 7, 8] rfl rfl (by decide) (by decide) hk1 hFc hP1 hD1
      have hP := hP.sub (ws' := (ceX6_allows cyI cyB cyJ cyZ a0 a1 a2 a3 a4 a5 a6 a7 a8 b0_marks b0_stroll g0_drawSeed g1_texts g6_lines g1_ways g1_wallCount f2 f3 f4 f5 g6_size f8 f7)) [0, 6, 1, 7, 8, 2, 3, 4, 5] rfl
      have hD := hD.sub (ws' := (ceX6_allows cyI cyB cyJ cyZ a0 a1 a2 a3 a4 a5 a6 a7 a8 b0_marks b0_stroll g0_drawSeed g1_texts g6_lines g1_ways g1_wallCount f2 f3 f4 f5 g6_size f8 f7)) [0, 6, 1, 7, 8, 2, 3, 4, 5] (by decide) rfl
      generalize H1 = H at hP hS ⊢
      refine lv_iload hx hb dX6_allows_37 (lv_at hl 5 rfl) ?_
      refine lv_icmp_gt (tgt := 58) hx hb dX6_allows_39 (by decide) (fun hc => ?_) (fun hc => ?_)
      · have hw := hw.1 hc
        refine lv_iconst (v := 0) hx hb dX6_allows_58 (by decide) ?_
        rw [hQ]
        exact W.zret (v := 0) (ty := .boolean) hx hb hr rfl (fun t ht hW => ⟨⟨0, (f7), rfl, hw, by rw [ht]; exact hP, va_K.moved hW.alike hK, hD⟩, hS.F ht⟩) hS.2.2 dX6_allows_59
      · have hw := hw.2 hc
        refine lv_aload_n hx hb dX6_allows_42 rfl (lv_at hl 0 rfl) ?_
        refine lv_iload_n hx hb dX6_allows_43 rfl (lv_at hl 1 rfl) ?_
        refine lv_iload_n hx hb dX6_allows_44 rfl (lv_at hl 2 rfl) ?_
        refine lv_iload_n hx hb dX6_allows_45 rfl (lv_at hl 3 rfl) ?_
        refine lv_iload hx hb dX6_allows_46 (lv_at hl 4 rfl) ?_
        have hPc := hP.sub (ws' := (ceX6_isShut cyI cyB cyJ cyZ a0 a1 a3 a4 a5 a6 a7 a8 b0_marks b0_stroll a2 g0_drawSeed g1_ways g1_texts g6_lines g1_wallCount f3 f4 f5 g6_size f8 f7)) [0, 1, 3, 4, 5, 6, 7, 8] rfl
        have hDc := hD.sub (ws' := (ceX6_isShut cyI cyB cyJ cyZ a0 a1 a3 a4 a5 a6 a7 a8 b0_marks b0_stroll a2 g0_drawSeed g1_ways g1_texts g6_lines g1_wallCount f3 f4 f5 g6_size f8 f7)) [0, 1, 3, 4, 5, 6, 7, 8] (by decide) rfl
        have hFc := va_free (wc := (ceX6_isShut cyI cyB cyJ cyZ a0 a1 a3 a4 a5 a6 a7 a8 b0_marks b0_stroll a2 g0_drawSeed g1_ways g1_texts g6_lines g1_wallCount f3 f4 f5 g6_size f8 f7)) hD hS hA [0, 1, 3, 4, 5, 6, 7, 8] rfl
        refine va_calli (va_runV (As := [.int p0, .int p1, .int p2, .int p3]) (rest := []) ⟨hx, hb, hml, hown, hts⟩ (ctX6_isShut l dC dI cyI cyB cyJ cyZ _ a0 a1 a3 a4 a5 a6 a7 a8 b0_marks b0_stroll a2 g0_drawSeed g1_ways g1_texts g6_lines g1_wallCount f3 f4 f5 g6_size f8 f7 p0 p1 p2 p3 _ hw) (cwV 4 hts gX6_allows_X6_isShut rfl rfl rfl (by decide +kernel) ⟨Nat.le_of_ble_eq_true rfl, Nat.le_of_ble_eq_true rfl⟩) ⟨wPre_blind, va_recv hK hPc (ci := 6) (q0 := 0) rfl rfl, fun U hU hW => wPre_of hPc hK hDc hN hU hW⟩ rfl rfl hl.1 rfl (lv_room (Nat.le_of_ble_eq_true rfl)) dX6_allows_48 ⟨(Nat.zero_le _), (Nat.zero_le _)⟩) hS (fun q _ h => hFc q h) hFc (fun r8 u7 t H1 locs ht hvm hw hB hz1 hk1 hS => ?_)
        obtain ⟨hP1, hK1, hD1⟩ := hB
        rw [ht] at hP1
        obtain ⟨hP, hD⟩ := va_join (wr := pickW (ceX6_allows cyI cyB cyJ cyZ a0 a1 a2 a3 a4 a5 a6 a7 a8 b0_marks b0_stroll g0_drawSeed g1_texts g6_lines g1_ways g1_wallCount f2 f3 f4 f5 g6_size f8 f7) [2]) (w1 := (ceX6_isShut cyI cyB cyJ cyZ a0 a1 a3 a4 a5 a6 a7 a8 b0_marks b0_stroll a2 g0_drawSeed g1_ways g1_texts g6_lines g1_wallCount f3 f4 f5 g6_size f8 u7)) hP hD [0, 1, 3, 4, 5, 6, 7, 8] [2] rfl rfl (by decide) (by decide) hk1 hFc hP1 hD1
        have hP := hP.sub (ws' := (ceX6_allows cyI cyB cyJ cyZ a0 a1 a2 a3 a4 a5 a6 a7 a8 b0_marks b0_stroll g0_drawSeed g1_texts g6_lines g1_ways g1_wallCount f2 f3 f4 f5 g6_size f8 u7)) [1, 2, 0, 3, 4, 5, 6, 7, 8] rfl
        have hD := hD.sub (ws' := (ceX6_allows cyI cyB cyJ cyZ a0 a1 a2 a3 a4 a5 a6 a7 a8 b0_marks b0_stroll g0_drawSeed g1_texts g6_lines g1_ways g1_wallCount f2 f3 f4 f5 g6_size f8 u7)) [1, 2, 0, 3, 4, 5, 6, 7, 8] (by decide) rfl
        generalize H1 = H at hP hS ⊢
        refine lv_if_ne (tgt := 58) hx hb dX6_allows_51 (by decide) (fun hc => ?_) (fun hc => ?_)
        · have hw := hw.1 hc
          refine lv_iconst (v := 0) hx hb dX6_allows_58 (by decide) ?_
          rw [hQ]
          exact W.zret (v := 0) (ty := .boolean) hx hb hr rfl (fun t ht hW => ⟨⟨0, (u7), rfl, hw, by rw [ht]; exact hP, va_K.moved hW.alike hK, hD⟩, hS.F ht⟩) hS.2.2 dX6_allows_59
        · have hw := hw.2 hc
          refine lv_iconst (v := 1) hx hb dX6_allows_54 (by decide) ?_
          refine lv_goto (tgt := 59) hx hb dX6_allows_55 (by decide) ?_
          rw [hQ]
          exact W.zret (v := 1) (ty := .boolean) hx hb hr rfl (fun t ht hW => ⟨⟨1, (u7), rfl, hw, by rw [ht]; exact hP, va_K.moved hW.alike hK, hD⟩, hS.F ht⟩) hS.2.2 dX6_allows_59
/-! LeadPark$Scene.canGo (I)Z -/
abbrev ceX6_canGo (cyI cyB cyJ cyZ : ClassId) (a0 a1 a2 a3 a4 a5 a6 a7 a8 a9 b0_marks b1_steps b1_greatestAhead : Nat) (g0_drawSeed : Int32) (g1_gone : Int32) (g1_greatest : Int32) (g1_remembered : Int32) (g2_texts : Int32) (g7_lines : Int32) (g1_underWay : Int32) (g1_way : Int32) (g1_other : Int32) (g1_lead : Int32) (g1_man : Int32) (g1_dog : Int32) (g2_ways : Int32) (g2_wallCount : Int32) (f3 : Nat → Int32) (f4 : Nat → Int32) (f5 : Nat → Int32) (f6 : Nat → Int32) (g7_size : Int32) (f9 : Nat → Int32) (f8 : Nat → Int32) : va_W := [(a0, .inr (6, [.ref a2, .ref a7, .ref b0_marks, .ref a1, .int g0_drawSeed])), (a1, .inr (7, [.int g1_underWay, .int g1_way, .int g1_other, .int g1_lead, .int g1_man, .int g1_dog, .int g1_gone, .int g1_greatest, .int g1_remembered, .ref b1_steps, .ref b1_greatestAhead])), (a2, .inr (1, [.ref a4, .ref a5, .ref a3, .ref a6, .int g2_ways, .int g2_wallCount, .int g2_texts])), (a3, .inl (cyI, 12, .inl f3)), (a4, .inl (cyI, 360, .inl f4)), (a5, .inl (cyI, 360, .inl f5)), (a6, .inl (cyI, 32, .inl f6)), (a7, .inr (2, [.ref a9, .ref a8, .int g7_size, .int g7_lines])), (a8, .inl (cyI, 7, .inl f8)), (a9, .inl (cyI, 400, .inl f9))]

theorem inX6_canGo_X6 : ∀ w ∈ wsX60, w ∈ wsX6_canGo := fun _ h => List.mem_cons_of_mem _ (List.mem_append_left _ (List.mem_append_left _ (List.mem_append_left _ (List.mem_append_right _ h))))
theorem inX6_canGo_X7 : ∀ w ∈ wsX70, w ∈ wsX6_canGo := fun _ h => List.mem_cons_of_mem _ (List.mem_append_left _ (List.mem_append_left _ (List.mem_append_right _ h)))
abbrev rmX6_canGo : Room := { frames := 5, cells := 0, slots := 0, locals := 153 }
set_option maxRecDepth 100000 in
set_option maxHeartbeats 4000000 in
theorem ctX6_canGo (l : Launch) (dC : Nat → ClassId) (dI : Nat → Nat → Nat) (cyI cyB cyJ cyZ : ClassId) (sz : Nat) (a0 a1 a2 a3 a4 a5 a6 a7 a8 a9 b0_marks b1_steps b1_greatestAhead : Nat) (g0_drawSeed : Int32) (g1_gone : Int32) (g1_greatest : Int32) (g1_remembered : Int32) (g2_texts : Int32) (g7_lines : Int32) (g1_underWay : Int32) (g1_way : Int32) (g1_other : Int32) (g1_lead : Int32) (g1_man : Int32) (g1_dog : Int32) (g2_ways : Int32) (g2_wallCount : Int32) (f3 : Nat → Int32) (f4 : Nat → Int32) (f5 : Nat → Int32) (f6 : Nat → Int32) (g7_size : Int32) (f9 : Nat → Int32) (f8 : Nat → Int32) (p0 : Int32) (post : Int32 → ((Nat → Int32)) → Prop) (hw : wpX6_canGo post g1_underWay g1_way g1_other g1_lead g1_man g1_dog g2_ways g2_wallCount f3 f4 f5 f6 g7_size f9 f8 p0) : Met l yX6_canGo wsX6_canGo rmX6_canGo (va_Pc [.ref a0, .int p0] (wPre dC dI cyI cyB cyJ cyZ sz (ceX6_canGo cyI cyB cyJ cyZ a0 a1 a2 a3 a4 a5 a6 a7 a8 a9 b0_marks b1_steps b1_greatestAhead g0_drawSeed g1_gone g1_greatest g1_remembered g2_texts g7_lines g1_underWay g1_way g1_other g1_lead g1_man g1_dog g2_ways g2_wallCount f3 f4 f5 f6 g7_size f9 f8))) (va_Qi post (fun u : (Nat → Int32) => wAt dC dI cyI cyB cyJ cyZ (va_A (ceX6_canGo cyI cyB cyJ cyZ a0 a1 a2 a3 a4 a5 a6 a7 a8 a9 b0_marks b1_steps b1_greatestAhead g0_drawSeed g1_gone g1_greatest g1_remembered g2_texts g7_lines g1_underWay g1_way g1_other g1_lead g1_man g1_dog g2_ways g2_wallCount f3 f4 f5 f6 g7_size f9 f8) sz) (ceX6_canGo cyI cyB cyJ cyZ a0 a1 a2 a3 a4 a5 a6 a7 a8 a9 b0_marks b1_steps b1_greatestAhead g0_drawSeed g1_gone g1_greatest g1_remembered g2_texts g7_lines g1_underWay g1_way g1_other g1_lead g1_man g1_dog g2_ways g2_wallCount f3 f4 f5 f6 g7_size f9 u)) (va_A (ceX6_canGo cyI cyB cyJ cyZ a0 a1 a2 a3 a4 a5 a6 a7 a8 a9 b0_marks b1_steps b1_greatestAhead g0_drawSeed g1_gone g1_greatest g1_remembered g2_texts g7_lines g1_underWay g1_way g1_other g1_lead g1_man g1_dog g2_ways g2_wallCount f3 f4 f5 f6 g7_size f9 f8) sz)) 0 0 (va_A (ceX6_canGo cyI cyB cyJ cyZ a0 a1 a2 a3 a4 a5 a6 a7 a8 a9 b0_marks b1_steps b1_greatestAhead g0_drawSeed g1_gone g1_greatest g1_remembered g2_texts g7_lines g1_underWay g1_way g1_other g1_lead g1_man g1_dog g2_ways g2_wallCount f3 f4 f5 f6 g7_size f9 f8) sz) := by
  refine Met.ofW (cc := cX6_canGo) (maxL := 2) (ret := (some .boolean)) (by decide) rfl ?_
  intro p e s m args below meth c s₁ B hml hv
  obtain ⟨rfl, hsz, hP, hK, hD0, hN⟩ := hv
  have hx := B.exec
  have hb := B.bytes
  have hr := B.returns
  have hts := atoms_spec (ws := wsX6_canGo) B.pre
  have hown : s.vm.findClass RX6 = some m.cls := findClass_of_methodNamed B.named
  have hlocks := B.notSynchronized
  subst hsz
  have hD := hD0.self (sz := s.heap.size)
  generalize hAe : va_A (ceX6_canGo cyI cyB cyJ cyZ a0 a1 a2 a3 a4 a5 a6 a7 a8 a9 b0_marks b1_steps b1_greatestAhead g0_drawSeed g1_gone g1_greatest g1_remembered g2_texts g7_lines g1_underWay g1_way g1_other g1_lead g1_man g1_dog g2_ways g2_wallCount f3 f4 f5 f6 g7_size f9 f8) s.heap.size = A at hD ⊢
  have hA : ∀ q : Nat, s.heap.size ≤ q → A q := fun q h => by rw [← hAe]; exact Or.inr h
  have hS : va_S A s.heap s.heap [] := va_S.rf
  have C0 : cxM p s m meth c _ wsX6_canGo RX6 cX6_canGo 2 (some .boolean) := ⟨hx, hb, hr, hml, hown, hts, hlocks⟩
  have hl := lv_entry ([.ref a0, .int p0]) (n := 2) (Nat.le_of_ble_eq_true rfl)
  rw [lg_entry_eq]
  generalize (lg_sl ([.ref a0, .int p0]) ++ List.replicate (2 - (lg_sl ([.ref a0, .int p0])).length) Slot.unset).toArray = ls at hl ⊢
  have hl : lv_has ls 2 [(0, .ref a0), (1, .int p0)] := hl
  show W p l e rmX6_canGo s m _ below meth c _ _ _ _ _ _
  refine wq (fun Q hQ => ?_)
  refine lv_aload_n hx hb dX6_canGo_0 rfl (lv_at hl 0 rfl) ?_
  refine va_get (D := (dC, dI)) (ci := 6) (v := .ref a1) (C := RX6) (T := TX6) (N := 5) hx hb hts inX6_canGo_X6 hown hK hP 0 rfl rfl 3 (by decide) (hts (.fieldLink RX6 35 "LeadPark$Scene" "stroll" "LLeadPark$Stroll;") (List.mem_of_getElem? (i := 1) rfl)) (fun _ h9 => h9) rfl dX6_canGo_1 ?_
  refine va_getN (D := (dC, dI)) (ci := 7) (v := .int g1_underWay) (C := RX7) (T := TX7) (N := 11) hx hb hts inX6_canGo_X7 hown hK hP 1 rfl rfl 0 (by decide) (va_Nw.use rfl (hN _ (List.mem_of_getElem? (i := 15) rfl))) (fun _ h9 => h9) rfl dX6_canGo_4 ?_
  refine lv_if_eq (tgt := 66) hx hb dX6_canGo_7 (by decide) (fun hc => ?_) (fun hc => ?_)
  · have hw := hw.1 hc
    refine lv_iconst (v := 0) hx hb dX6_canGo_66 (by decide) ?_
    rw [hQ]
    exact W.zret (v := 0) (ty := .boolean) hx hb hr rfl (fun t ht hW => ⟨⟨0, (f8), rfl, hw, by rw [ht]; exact hP, va_K.moved hW.alike hK, hD⟩, hS.F ht⟩) hS.2.2 dX6_canGo_67
  · have hw := hw.2 hc
    refine lv_aload_n hx hb dX6_canGo_10 rfl (lv_at hl 0 rfl) ?_
    refine lv_aload_n hx hb dX6_canGo_11 rfl (lv_at hl 0 rfl) ?_
    refine va_get (D := (dC, dI)) (ci := 6) (v := .ref a1) (C := RX6) (T := TX6) (N := 5) hx hb hts inX6_canGo_X6 hown hK hP 0 rfl rfl 3 (by decide) (hts (.fieldLink RX6 35 "LeadPark$Scene" "stroll" "LLeadPark$Stroll;") (List.mem_of_getElem? (i := 1) rfl)) (fun _ h9 => h9) rfl dX6_canGo_12 ?_
    refine va_getN (D := (dC, dI)) (ci := 7) (v := .int g1_way) (C := RX7) (T := TX7) (N := 11) hx hb hts inX6_canGo_X7 hown hK hP 1 rfl rfl 1 (by decide) (va_Nw.use rfl (hN _ (List.mem_of_getElem? (i := 16) rfl))) (fun _ h9 => h9) rfl dX6_canGo_15 ?_
    refine lv_aload_n hx hb dX6_canGo_18 rfl (lv_at hl 0 rfl) ?_
    refine va_get (D := (dC, dI)) (ci := 6) (v := .ref a1) (C := RX6) (T := TX6) (N := 5) hx hb hts inX6_canGo_X6 hown hK hP 0 rfl rfl 3 (by decide) (hts (.fieldLink RX6 35 "LeadPark$Scene" "stroll" "LLeadPark$Stroll;") (List.mem_of_getElem? (i := 1) rfl)) (fun _ h9 => h9) rfl dX6_canGo_19 ?_
    refine va_getN (D := (dC, dI)) (ci := 7) (v := .int g1_man) (C := RX7) (T := TX7) (N := 11) hx hb hts inX6_canGo_X7 hown hK hP 1 rfl rfl 4 (by decide) (va_Nw.use rfl (hN _ (List.mem_of_getElem? (i := 20) rfl))) (fun _ h9 => h9) rfl dX6_canGo_22 ?_
    refine lv_iload_n hx hb dX6_canGo_25 rfl (lv_at hl 1 rfl) ?_
    have hPc := hP.sub (ws' := ([] : va_W)) [] rfl
    have hDc := hD.sub (ws' := ([] : va_W)) [] (by decide) rfl
    have hFc := va_free (wc := ([] : va_W)) hD hS hA [] rfl
    refine va_calli (va_runSN (As := [.int p0]) (rest := [.int g1_man, .int g1_way, .ref a0]) ⟨hx, hb, hml, hown, hts⟩ (ctX10_manMoves l dC dI cyI cyB cyJ cyZ _ p0 _ hw) ⟨va_cnB 1 hts ggX6_canGo_X10_manMoves rfl rfl rfl (hN _ (List.mem_of_getElem? (i := 53) rfl)) (hts (.initialized RX10) (List.mem_of_getElem? (i := 3) rfl)) (by decide +kernel) ⟨Nat.le_of_ble_eq_true rfl, Nat.le_of_ble_eq_true rfl⟩, (hts (.static yX10_manMoves) (List.mem_of_getElem? (i := 2) rfl)), trivial⟩ ⟨wPre_blind, fun U hU hW => wPre_of hPc hK hDc hN hU hW⟩ rfl rfl hl.1 rfl (lv_room (Nat.le_of_ble_eq_true rfl)) dX6_canGo_26 ⟨(Nat.zero_le _), (Nat.zero_le _)⟩) hS (fun q _ h => hFc q h) hFc (fun r2 u1 t H1 locs ht hvm hw hB hz1 hk1 hS => ?_)
    obtain ⟨hP1, hK1, hD1⟩ := hB
    rw [ht] at hP1
    obtain ⟨hP, hD⟩ := va_join (wr := pickW (ceX6_canGo cyI cyB cyJ cyZ a0 a1 a2 a3 a4 a5 a6 a7 a8 a9 b0_marks b1_steps b1_greatestAhead g0_drawSeed g1_gone g1_greatest g1_remembered g2_texts g7_lines g1_underWay g1_way g1_other g1_lead g1_man g1_dog g2_ways g2_wallCount f3 f4 f5 f6 g7_size f9 f8) [0, 1, 2, 3, 4, 5, 6, 7, 8, 9]) (w1 := ([] : va_W)) hP hD [] [0, 1, 2, 3, 4, 5, 6, 7, 8, 9] rfl rfl (by decide) (by decide) hk1 hFc hP1 hD1
    have hP := hP.sub (ws' := (ceX6_canGo cyI cyB cyJ cyZ a0 a1 a2 a3 a4 a5 a6 a7 a8 a9 b0_marks b1_steps b1_greatestAhead g0_drawSeed g1_gone g1_greatest g1_remembered g2_texts g7_lines g1_underWay g1_way g1_other g1_lead g1_man g1_dog g2_ways g2_wallCount f3 f4 f5 f6 g7_size f9 f8)) [0, 1, 2, 3, 4, 5, 6, 7, 8, 9] rfl
    have hD := hD.sub (ws' := (ceX6_canGo cyI cyB cyJ cyZ a0 a1 a2 a3 a4 a5 a6 a7 a8 a9 b0_marks b1_steps b1_greatestAhead g0_drawSeed g1_gone g1_greatest g1_remembered g2_texts g7_lines g1_underWay g1_way g1_other g1_lead g1_man g1_dog g2_ways g2_wallCount f3 f4 f5 f6 g7_size f9 f8)) [0, 1, 2, 3, 4, 5, 6, 7, 8, 9] (by decide) rfl
    generalize H1 = H at hP hS ⊢
    refine lv_iadd hx hb dX6_canGo_29 ?_
    refine lv_aload_n hx hb dX6_canGo_30 rfl (lv_at hl 0 rfl) ?_
    refine va_get (D := (dC, dI)) (ci := 6) (v := .ref a1) (C := RX6) (T := TX6) (N := 5) hx hb hts inX6_canGo_X6 hown hK hP 0 rfl rfl 3 (by decide) (hts (.fieldLink RX6 35 "LeadPark$Scene" "stroll" "LLeadPark$Stroll;") (List.mem_of_getElem? (i := 1) rfl)) (fun _ h9 => h9) rfl dX6_canGo_31 ?_
    refine va_getN (D := (dC, dI)) (ci := 7) (v := .int g1_other) (C := RX7) (T := TX7) (N := 11) hx hb hts inX6_canGo_X7 hown hK hP 1 rfl rfl 2 (by decide) (va_Nw.use rfl (hN _ (List.mem_of_getElem? (i := 17) rfl))) (fun _ h9 => h9) rfl dX6_canGo_34 ?_
    refine lv_aload_n hx hb dX6_canGo_37 rfl (lv_at hl 0 rfl) ?_
    refine va_get (D := (dC, dI)) (ci := 6) (v := .ref a1) (C := RX6) (T := TX6) (N := 5) hx hb hts inX6_canGo_X6 hown hK hP 0 rfl rfl 3 (by decide) (hts (.fieldLink RX6 35 "LeadPark$Scene" "stroll" "LLeadPark$Stroll;") (List.mem_of_getElem? (i := 1) rfl)) (fun _ h9 => h9) rfl dX6_canGo_38 ?_
    refine va_getN (D := (dC, dI)) (ci := 7) (v := .int g1_dog) (C := RX7) (T := TX7) (N := 11) hx hb hts inX6_canGo_X7 hown hK hP 1 rfl rfl 5 (by decide) (va_Nw.use rfl (hN _ (List.mem_of_getElem? (i := 22) rfl))) (fun _ h9 => h9) rfl dX6_canGo_41 ?_
    refine lv_iload_n hx hb dX6_canGo_44 rfl (lv_at hl 1 rfl) ?_
    have hPc := hP.sub (ws' := ([] : va_W)) [] rfl
    have hDc := hD.sub (ws' := ([] : va_W)) [] (by decide) rfl
    have hFc := va_free (wc := ([] : va_W)) hD hS hA [] rfl
    refine va_calli (va_runSN (As := [.int p0]) (rest := [.int g1_dog, .int g1_other, .int (g1_man + r2), .int g1_way, .ref a0]) ⟨hx, hb, hml, hown, hts⟩ (ctX10_dogMoves l dC dI cyI cyB cyJ cyZ _ p0 _ hw) ⟨va_cnB 1 hts ggX6_canGo_X10_dogMoves rfl rfl rfl (hN _ (List.mem_of_getElem? (i := 54) rfl)) (hts (.initialized RX10) (List.mem_of_getElem? (i := 3) rfl)) (by decide +kernel) ⟨Nat.le_of_ble_eq_true rfl, Nat.le_of_ble_eq_true rfl⟩, (hts (.static yX10_dogMoves) (List.mem_of_getElem? (i := 5) rfl)), trivial⟩ ⟨wPre_blind, fun U hU hW => wPre_of hPc hK hDc hN hU hW⟩ rfl rfl hl.1 rfl (lv_room (Nat.le_of_ble_eq_true rfl)) dX6_canGo_45 ⟨(Nat.zero_le _), (Nat.zero_le _)⟩) hS (fun q _ h => hFc q h) hFc (fun r4 u3 t H1 locs ht hvm hw hB hz1 hk1 hS => ?_)
    obtain ⟨hP1, hK1, hD1⟩ := hB
    rw [ht] at hP1
    obtain ⟨hP, hD⟩ := va_join (wr := pickW (ceX6_canGo cyI cyB cyJ cyZ a0 a1 a2 a3 a4 a5 a6 a7 a8 a9 b0_marks b1_steps b1_greatestAhead g0_drawSeed g1_gone g1_greatest g1_remembered g2_texts g7_lines g1_underWay g1_way g1_other g1_lead g1_man g1_dog g2_ways g2_wallCount f3 f4 f5 f6 g7_size f9 f8) [0, 1, 2, 3, 4, 5, 6, 7, 8, 9]) (w1 := ([] : va_W)) hP hD [] [0, 1, 2, 3, 4, 5, 6, 7, 8, 9] rfl rfl (by decide) (by decide) hk1 hFc hP1 hD1
    have hP := hP.sub (ws' := (ceX6_canGo cyI cyB cyJ cyZ a0 a1 a2 a3 a4 a5 a6 a7 a8 a9 b0_marks b1_steps b1_greatestAhead g0_drawSeed g1_gone g1_greatest g1_remembered g2_texts g7_lines g1_underWay g1_way g1_other g1_lead g1_man g1_dog g2_ways g2_wallCount f3 f4 f5 f6 g7_size f9 f8)) [0, 1, 2, 3, 4, 5, 6, 7, 8, 9] rfl
    have hD := hD.sub (ws' := (ceX6_canGo cyI cyB cyJ cyZ a0 a1 a2 a3 a4 a5 a6 a7 a8 a9 b0_marks b1_steps b1_greatestAhead g0_drawSeed g1_gone g1_greatest g1_remembered g2_texts g7_lines g1_underWay g1_way g1_other g1_lead g1_man g1_dog g2_ways g2_wallCount f3 f4 f5 f6 g7_size f9 f8)) [0, 1, 2, 3, 4, 5, 6, 7, 8, 9] (by decide) rfl
    generalize H1 = H at hP hS ⊢
    refine lv_iadd hx hb dX6_canGo_48 ?_
    refine lv_aload_n hx hb dX6_canGo_49 rfl (lv_at hl 0 rfl) ?_
    refine va_get (D := (dC, dI)) (ci := 6) (v := .ref a1) (C := RX6) (T := TX6) (N := 5) hx hb hts inX6_canGo_X6 hown hK hP 0 rfl rfl 3 (by decide) (hts (.fieldLink RX6 35 "LeadPark$Scene" "stroll" "LLeadPark$Stroll;") (List.mem_of_getElem? (i := 1) rfl)) (fun _ h9 => h9) rfl dX6_canGo_50 ?_
    refine va_getN (D := (dC, dI)) (ci := 7) (v := .int g1_lead) (C := RX7) (T := TX7) (N := 11) hx hb hts inX6_canGo_X7 hown hK hP 1 rfl rfl 3 (by decide) (va_Nw.use rfl (hN _ (List.mem_of_getElem? (i := 18) rfl))) (fun _ h9 => h9) rfl dX6_canGo_53 ?_
    have hPc := hP.sub (ws' := (ceX6_allows cyI cyB cyJ cyZ a0 a2 a3 a4 a5 a6 a7 a8 a9 b0_marks a1 g0_drawSeed g2_texts g7_lines g2_ways g2_wallCount f3 f4 f5 f6 g7_size f9 f8)) [0, 2, 3, 4, 5, 6, 7, 8, 9] rfl
    have hDc := hD.sub (ws' := (ceX6_allows cyI cyB cyJ cyZ a0 a2 a3 a4 a5 a6 a7 a8 a9 b0_marks a1 g0_drawSeed g2_texts g7_lines g2_ways g2_wallCount f3 f4 f5 f6 g7_size f9 f8)) [0, 2, 3, 4, 5, 6, 7, 8, 9] (by decide) rfl
    have hFc := va_free (wc := (ceX6_allows cyI cyB cyJ cyZ a0 a2 a3 a4 a5 a6 a7 a8 a9 b0_marks a1 g0_drawSeed g2_texts g7_lines g2_ways g2_wallCount f3 f4 f5 f6 g7_size f9 f8)) hD hS hA [0, 2, 3, 4, 5, 6, 7, 8, 9] rfl
    refine va_calli (va_runV (As := [.int g1_way, .int (g1_man + r2), .int g1_other, .int (g1_dog + r4), .int g1_lead]) (rest := []) ⟨hx, hb, hml, hown, hts⟩ (ctX6_allows l dC dI cyI cyB cyJ cyZ _ a0 a2 a3 a4 a5 a6 a7 a8 a9 b0_marks a1 g0_drawSeed g2_texts g7_lines g2_ways g2_wallCount f3 f4 f5 f6 g7_size f9 f8 g1_way (g1_man + r2) g1_other (g1_dog + r4) g1_lead _ hw) (cwV 5 hts gX6_canGo_X6_allows rfl rfl rfl (by decide +kernel) ⟨Nat.le_of_ble_eq_true rfl, Nat.le_of_ble_eq_true rfl⟩) ⟨wPre_blind, va_recv hK hPc (ci := 6) (q0 := 0) rfl rfl, fun U hU hW => wPre_of hPc hK hDc hN hU hW⟩ rfl rfl hl.1 rfl (lv_room (Nat.le_of_ble_eq_true rfl)) dX6_canGo_56 ⟨(Nat.zero_le _), (Nat.zero_le _)⟩) hS (fun q _ h => hFc q h) hFc (fun r6 u5 t H1 locs ht hvm hw hB hz1 hk1 hS => ?_)
    obtain ⟨hP1, hK1, hD1⟩ := hB
    rw [ht] at hP1
    obtain ⟨hP, hD⟩ := va_join (wr := pickW (ceX6_canGo cyI cyB cyJ cyZ a0 a1 a2 a3 a4 a5 a6 a7 a8 a9 b0_marks b1_steps b1_greatestAhead g0_drawSeed g1_gone g1_greatest g1_remembered g2_texts g7_lines g1_underWay g1_way g1_other g1_lead g1_man g1_dog g2_ways g2_wallCount f3 f4 f5 f6 g7_size f9 f8) [1]) (w1 := (ceX6_allows cyI cyB cyJ cyZ a0 a2 a3 a4 a5 a6 a7 a8 a9 b0_marks a1 g0_drawSeed g2_texts g7_lines g2_ways g2_wallCount f3 f4 f5 f6 g7_size f9 u5)) hP hD [0, 2, 3, 4, 5, 6, 7, 8, 9] [1] rfl rfl (by decide) (by decide) hk1 hFc hP1 hD1
    have hP := hP.sub (ws' := (ceX6_canGo cyI cyB cyJ cyZ a0 a1 a2 a3 a4 a5 a6 a7 a8 a9 b0_marks b1_steps b1_greatestAhead g0_drawSeed g1_gone g1_greatest g1_remembered g2_texts g7_lines g1_underWay g1_way g1_other g1_lead g1_man g1_dog g2_ways g2_wallCount f3 f4 f5 f6 g7_size f9 u5)) [1, 0, 2, 3, 4, 5, 6, 7, 8, 9] rfl
    have hD := hD.sub (ws' := (ceX6_canGo cyI cyB cyJ cyZ a0 a1 a2 a3 a4 a5 a6 a7 a8 a9 b0_marks b1_steps b1_greatestAhead g0_drawSeed g1_gone g1_greatest g1_remembered g2_texts g7_lines g1_underWay g1_way g1_other g1_lead g1_man g1_dog g2_ways g2_wallCount f3 f4 f5 f6 g7_size f9 u5)) [1, 0, 2, 3, 4, 5, 6, 7, 8, 9] (by decide) rfl
    generalize H1 = H at hP hS ⊢
    refine lv_if_eq (tgt := 66) hx hb dX6_canGo_59 (by decide) (fun hc => ?_) (fun hc => ?_)
    · have hw := hw.1 hc
      refine lv_iconst (v := 0) hx hb dX6_canGo_66 (by decide) ?_
      rw [hQ]
      exact W.zret (v := 0) (ty := .boolean) hx hb hr rfl (fun t ht hW => ⟨⟨0, (u5), rfl, hw, by rw [ht]; exact hP, va_K.moved hW.alike hK, hD⟩, hS.F ht⟩) hS.2.2 dX6_canGo_67
    · have hw := hw.2 hc
      refine lv_iconst (v := 1) hx hb dX6_canGo_62 (by decide) ?_
      refine lv_goto (tgt := 67) hx hb dX6_canGo_63 (by decide) ?_
      rw [hQ]
      exact W.zret (v := 1) (ty := .boolean) hx hb hr rfl (fun t ht hW => ⟨⟨1, (u5), rfl, hw, by rw [ht]; exact hP, va_K.moved hW.alike hK, hD⟩, hS.F ht⟩) hS.2.2 dX6_canGo_67
/-! LeadPark$Scene.go (I)I -/
abbrev ceX6_go (cyI cyB cyJ cyZ : ClassId) (a0 a1 a2 a3 a4 a5 a6 b0_law b0_marks b4_counts b4_walls : Nat) (g0_drawSeed : Int32) (g1_underWay : Int32) (g1_lead : Int32) (g4_ways : Int32) (g4_wallCount : Int32) (g4_texts : Int32) (g1_way : Int32) (g1_other : Int32) (f5 : Nat → Int32) (f6 : Nat → Int32) (g1_man : Int32) (g1_dog : Int32) (g1_gone : Int32) (g1_greatest : Int32) (g1_remembered : Int32) (f2 : Nat → Int32) (f3 : Nat → Int32) : va_W := [(a0, .inr (6, [.ref a4, .ref b0_law, .ref b0_marks, .ref a1, .int g0_drawSeed])), (a1, .inr (7, [.int g1_underWay, .int g1_way, .int g1_other, .int g1_lead, .int g1_man, .int g1_dog, .int g1_gone, .int g1_greatest, .int g1_remembered, .ref a2, .ref a3])), (a2, .inl (cyI, 58, .inl f2)), (a3, .inl (cyI, 58, .inl f3)), (a4, .inr (1, [.ref a5, .ref a6, .ref b4_counts, .ref b4_walls, .int g4_ways, .int g4_wallCount, .int g4_texts])), (a5, .inl (cyI, 360, .inl f5)), (a6, .inl (cyI, 360, .inl f6))]

theorem inX6_go_X6 : ∀ w ∈ wsX60, w ∈ wsX6_go := fun _ h => List.mem_cons_of_mem _ (List.mem_append_left _ (List.mem_append_left _ (List.mem_append_right _ h)))
theorem inX6_go_X7 : ∀ w ∈ wsX70, w ∈ wsX6_go := fun _ h => List.mem_cons_of_mem _ (List.mem_append_left _ (List.mem_append_right _ h))
abbrev rmX6_go : Room := { frames := 2, cells := 0, slots := 0, locals := 62 }
set_option maxRecDepth 100000 in
set_option maxHeartbeats 4000000 in
theorem ctX6_go (l : Launch) (dC : Nat → ClassId) (dI : Nat → Nat → Nat) (cyI cyB cyJ cyZ : ClassId) (sz : Nat) (a0 a1 a2 a3 a4 a5 a6 b0_law b0_marks b4_counts b4_walls : Nat) (g0_drawSeed : Int32) (g1_underWay : Int32) (g1_lead : Int32) (g4_ways : Int32) (g4_wallCount : Int32) (g4_texts : Int32) (g1_way : Int32) (g1_other : Int32) (f5 : Nat → Int32) (f6 : Nat → Int32) (g1_man : Int32) (g1_dog : Int32) (g1_gone : Int32) (g1_greatest : Int32) (g1_remembered : Int32) (f2 : Nat → Int32) (f3 : Nat → Int32) (p0 : Int32) (post : Int32 → (Int32 × Int32 × Int32 × Int32 × Int32 × (Nat → Int32) × (Nat → Int32)) → Prop) (hw : wpX6_go post g1_way g1_other f5 f6 g1_man g1_dog g1_gone g1_greatest g1_remembered f2 f3 p0) : Met l yX6_go wsX6_go rmX6_go (va_Pc [.ref a0, .int p0] (wPre dC dI cyI cyB cyJ cyZ sz (ceX6_go cyI cyB cyJ cyZ a0 a1 a2 a3 a4 a5 a6 b0_law b0_marks b4_counts b4_walls g0_drawSeed g1_underWay g1_lead g4_ways g4_wallCount g4_texts g1_way g1_other f5 f6 g1_man g1_dog g1_gone g1_greatest g1_remembered f2 f3))) (va_Qi post (fun u : Int32 × Int32 × Int32 × Int32 × Int32 × (Nat → Int32) × (Nat → Int32) => wAt dC dI cyI cyB cyJ cyZ (va_A (ceX6_go cyI cyB cyJ cyZ a0 a1 a2 a3 a4 a5 a6 b0_law b0_marks b4_counts b4_walls g0_drawSeed g1_underWay g1_lead g4_ways g4_wallCount g4_texts g1_way g1_other f5 f6 g1_man g1_dog g1_gone g1_greatest g1_remembered f2 f3) sz) (ceX6_go cyI cyB cyJ cyZ a0 a1 a2 a3 a4 a5 a6 b0_law b0_marks b4_counts b4_walls g0_drawSeed g1_underWay g1_lead g4_ways g4_wallCount g4_texts g1_way g1_other f5 f6 u.1 u.2.1 u.2.2.1 u.2.2.2.1 u.2.2.2.2.1 u.2.2.2.2.2.1 u.2.2.2.2.2.2)) (va_A (ceX6_go cyI cyB cyJ cyZ a0 a1 a2 a3 a4 a5 a6 b0_law b0_marks b4_counts b4_walls g0_drawSeed g1_underWay g1_lead g4_ways g4_wallCount g4_texts g1_way g1_other f5 f6 g1_man g1_dog g1_gone g1_greatest g1_remembered f2 f3) sz)) 0 0 (va_A (ceX6_go cyI cyB cyJ cyZ a0 a1 a2 a3 a4 a5 a6 b0_law b0_marks b4_counts b4_walls g0_drawSeed g1_underWay g1_lead g4_ways g4_wallCount g4_texts g1_way g1_other f5 f6 g1_man g1_dog g1_gone g1_greatest g1_remembered f2 f3) sz) := by
  refine Met.ofW (cc := cX6_go) (maxL := 3) (ret := (some .int)) (by decide) rfl ?_
  intro p e s m args below meth c s₁ B hml hv
  obtain ⟨rfl, hsz, hP, hK, hD0, hN⟩ := hv
  have hx := B.exec
  have hb := B.bytes
  have hr := B.returns
  have hts := atoms_spec (ws := wsX6_go) B.pre
  have hown : s.vm.findClass RX6 = some m.cls := findClass_of_methodNamed B.named
  have hlocks := B.notSynchronized
  subst hsz
  have hD := hD0.self (sz := s.heap.size)
  generalize hAe : va_A (ceX6_go cyI cyB cyJ cyZ a0 a1 a2 a3 a4 a5 a6 b0_law b0_marks b4_counts b4_walls g0_drawSeed g1_underWay g1_lead g4_ways g4_wallCount g4_texts g1_way g1_other f5 f6 g1_man g1_dog g1_gone g1_greatest g1_remembered f2 f3) s.heap.size = A at hD ⊢
  have hA : ∀ q : Nat, s.heap.size ≤ q → A q := fun q h => by rw [← hAe]; exact Or.inr h
  have hS : va_S A s.heap s.heap [] := va_S.rf
  have C0 : cxM p s m meth c _ wsX6_go RX6 cX6_go 3 (some .int) := ⟨hx, hb, hr, hml, hown, hts, hlocks⟩
  have hl := lv_entry ([.ref a0, .int p0]) (n := 3) (Nat.le_of_ble_eq_true rfl)
  rw [lg_entry_eq]
  generalize (lg_sl ([.ref a0, .int p0]) ++ List.replicate (3 - (lg_sl ([.ref a0, .int p0])).length) Slot.unset).toArray = ls at hl ⊢
  have hl : lv_has ls 3 [(0, .ref a0), (1, .int p0)] := hl
  show W p l e rmX6_go s m _ below meth c _ _ _ _ _ _
  refine wq (fun Q hQ => ?_)
  refine lv_aload_n hx hb dX6_go_0 rfl (lv_at hl 0 rfl) ?_
  refine va_get (D := (dC, dI)) (ci := 6) (v := .ref a4) (C := RX6) (T := TX6) (N := 5) hx hb hts inX6_go_X6 hown hK hP 0 rfl rfl 0 (by decide) (hts (.fieldLink RX6 12 "LeadPark$Scene" "ground" "LLeadPark$Ground;") (List.mem_of_getElem? (i := 1) rfl)) (fun _ h9 => h9) rfl dX6_go_1 ?_
  refine lv_aload_n hx hb dX6_go_4 rfl (lv_at hl 0 rfl) ?_
  refine va_get (D := (dC, dI)) (ci := 6) (v := .ref a1) (C := RX6) (T := TX6) (N := 5) hx hb hts inX6_go_X6 hown hK hP 0 rfl rfl 3 (by decide) (hts (.fieldLink RX6 35 "LeadPark$Scene" "stroll" "LLeadPark$Stroll;") (List.mem_of_getElem? (i := 2) rfl)) (fun _ h9 => h9) rfl dX6_go_5 ?_
  refine va_getN (D := (dC, dI)) (ci := 7) (v := .int g1_way) (C := RX7) (T := TX7) (N := 11) hx hb hts inX6_go_X7 hown hK hP 1 rfl rfl 1 (by decide) (va_Nw.use rfl (hN _ (List.mem_of_getElem? (i := 16) rfl))) (fun _ h9 => h9) rfl dX6_go_8 ?_
  refine lv_aload_n hx hb dX6_go_11 rfl (lv_at hl 0 rfl) ?_
  refine va_get (D := (dC, dI)) (ci := 6) (v := .ref a1) (C := RX6) (T := TX6) (N := 5) hx hb hts inX6_go_X6 hown hK hP 0 rfl rfl 3 (by decide) (hts (.fieldLink RX6 35 "LeadPark$Scene" "stroll" "LLeadPark$Stroll;") (List.mem_of_getElem? (i := 2) rfl)) (fun _ h9 => h9) rfl dX6_go_12 ?_
  refine va_getN (D := (dC, dI)) (ci := 7) (v := .int g1_man) (C := RX7) (T := TX7) (N := 11) hx hb hts inX6_go_X7 hown hK hP 1 rfl rfl 4 (by decide) (va_Nw.use rfl (hN _ (List.mem_of_getElem? (i := 20) rfl))) (fun _ h9 => h9) rfl dX6_go_15 ?_
  refine lv_iload_n hx hb dX6_go_18 rfl (lv_at hl 1 rfl) ?_
  have hPc := hP.sub (ws' := ([] : va_W)) [] rfl
  have hDc := hD.sub (ws' := ([] : va_W)) [] (by decide) rfl
  have hFc := va_free (wc := ([] : va_W)) hD hS hA [] rfl
  refine va_calli (va_runSN (As := [.int p0]) (rest := [.int g1_man, .int g1_way, .ref a4]) ⟨hx, hb, hml, hown, hts⟩ (ctX10_manMoves l dC dI cyI cyB cyJ cyZ _ p0 _ hw) ⟨va_cnB 1 hts ggX6_go_X10_manMoves rfl rfl rfl (hN _ (List.mem_of_getElem? (i := 53) rfl)) (hts (.initialized RX10) (List.mem_of_getElem? (i := 4) rfl)) (by decide +kernel) ⟨Nat.le_of_ble_eq_true rfl, Nat.le_of_ble_eq_true rfl⟩, (hts (.static yX10_manMoves) (List.mem_of_getElem? (i := 3) rfl)), trivial⟩ ⟨wPre_blind, fun U hU hW => wPre_of hPc hK hDc hN hU hW⟩ rfl rfl hl.1 rfl (lv_room (Nat.le_of_ble_eq_true rfl)) dX6_go_19 ⟨(Nat.zero_le _), (Nat.zero_le _)⟩) hS (fun q _ h => hFc q h) hFc (fun r2 u1 t H1 locs ht hvm hw hB hz1 hk1 hS => ?_)
  obtain ⟨hP1, hK1, hD1⟩ := hB
  rw [ht] at hP1
  obtain ⟨hP, hD⟩ := va_join (wr := pickW (ceX6_go cyI cyB cyJ cyZ a0 a1 a2 a3 a4 a5 a6 b0_law b0_marks b4_counts b4_walls g0_drawSeed g1_underWay g1_lead g4_ways g4_wallCount g4_texts g1_way g1_other f5 f6 g1_man g1_dog g1_gone g1_greatest g1_remembered f2 f3) [0, 1, 2, 3, 4, 5, 6]) (w1 := ([] : va_W)) hP hD [] [0, 1, 2, 3, 4, 5, 6] rfl rfl (by decide) (by decide) hk1 hFc hP1 hD1
  have hP := hP.sub (ws' := (ceX6_go cyI cyB cyJ cyZ a0 a1 a2 a3 a4 a5 a6 b0_law b0_marks b4_counts b4_walls g0_drawSeed g1_underWay g1_lead g4_ways g4_wallCount g4_texts g1_way g1_other f5 f6 g1_man g1_dog g1_gone g1_greatest g1_remembered f2 f3)) [0, 1, 2, 3, 4, 5, 6] rfl
  have hD := hD.sub (ws' := (ceX6_go cyI cyB cyJ cyZ a0 a1 a2 a3 a4 a5 a6 b0_law b0_marks b4_counts b4_walls g0_drawSeed g1_underWay g1_lead g4_ways g4_wallCount g4_texts g1_way g1_other f5 f6 g1_man g1_dog g1_gone g1_greatest g1_remembered f2 f3)) [0, 1, 2, 3, 4, 5, 6] (by decide) rfl
  generalize H1 = H at hP hS ⊢
  refine lv_iadd hx hb dX6_go_22 ?_
  refine lv_aload_n hx hb dX6_go_23 rfl (lv_at hl 0 rfl) ?_
  refine va_get (D := (dC, dI)) (ci := 6) (v := .ref a1) (C := RX6) (T := TX6) (N := 5) hx hb hts inX6_go_X6 hown hK hP 0 rfl rfl 3 (by decide) (hts (.fieldLink RX6 35 "LeadPark$Scene" "stroll" "LLeadPark$Stroll;") (List.mem_of_getElem? (i := 2) rfl)) (fun _ h9 => h9) rfl dX6_go_24 ?_
  refine va_getN (D := (dC, dI)) (ci := 7) (v := .int g1_other) (C := RX7) (T := TX7) (N := 11) hx hb hts inX6_go_X7 hown hK hP 1 rfl rfl 2 (by decide) (va_Nw.use rfl (hN _ (List.mem_of_getElem? (i := 17) rfl))) (fun _ h9 => h9) rfl dX6_go_27 ?_
  refine lv_aload_n hx hb dX6_go_30 rfl (lv_at hl 0 rfl) ?_
  refine va_get (D := (dC, dI)) (ci := 6) (v := .ref a1) (C := RX6) (T := TX6) (N := 5) hx hb hts inX6_go_X6 hown hK hP 0 rfl rfl 3 (by decide) (hts (.fieldLink RX6 35 "LeadPark$Scene" "stroll" "LLeadPark$Stroll;") (List.mem_of_getElem? (i := 2) rfl)) (fun _ h9 => h9) rfl dX6_go_31 ?_
  refine va_getN (D := (dC, dI)) (ci := 7) (v := .int g1_dog) (C := RX7) (T := TX7) (N := 11) hx hb hts inX6_go_X7 hown hK hP 1 rfl rfl 5 (by decide) (va_Nw.use rfl (hN _ (List.mem_of_getElem? (i := 22) rfl))) (fun _ h9 => h9) rfl dX6_go_34 ?_
  refine lv_iload_n hx hb dX6_go_37 rfl (lv_at hl 1 rfl) ?_
  have hPc := hP.sub (ws' := ([] : va_W)) [] rfl
  have hDc := hD.sub (ws' := ([] : va_W)) [] (by decide) rfl
  have hFc := va_free (wc := ([] : va_W)) hD hS hA [] rfl
  refine va_calli (va_runSN (As := [.int p0]) (rest := [.int g1_dog, .int g1_other, .int (g1_man + r2), .int g1_way, .ref a4]) ⟨hx, hb, hml, hown, hts⟩ (ctX10_dogMoves l dC dI cyI cyB cyJ cyZ _ p0 _ hw) ⟨va_cnB 1 hts ggX6_go_X10_dogMoves rfl rfl rfl (hN _ (List.mem_of_getElem? (i := 54) rfl)) (hts (.initialized RX10) (List.mem_of_getElem? (i := 4) rfl)) (by decide +kernel) ⟨Nat.le_of_ble_eq_true rfl, Nat.le_of_ble_eq_true rfl⟩, (hts (.static yX10_dogMoves) (List.mem_of_getElem? (i := 6) rfl)), trivial⟩ ⟨wPre_blind, fun U hU hW => wPre_of hPc hK hDc hN hU hW⟩ rfl rfl hl.1 rfl (lv_room (Nat.le_of_ble_eq_true rfl)) dX6_go_38 ⟨(Nat.zero_le _), (Nat.zero_le _)⟩) hS (fun q _ h => hFc q h) hFc (fun r4 u3 t H1 locs ht hvm hw hB hz1 hk1 hS => ?_)
  obtain ⟨hP1, hK1, hD1⟩ := hB
  rw [ht] at hP1
  obtain ⟨hP, hD⟩ := va_join (wr := pickW (ceX6_go cyI cyB cyJ cyZ a0 a1 a2 a3 a4 a5 a6 b0_law b0_marks b4_counts b4_walls g0_drawSeed g1_underWay g1_lead g4_ways g4_wallCount g4_texts g1_way g1_other f5 f6 g1_man g1_dog g1_gone g1_greatest g1_remembered f2 f3) [0, 1, 2, 3, 4, 5, 6]) (w1 := ([] : va_W)) hP hD [] [0, 1, 2, 3, 4, 5, 6] rfl rfl (by decide) (by decide) hk1 hFc hP1 hD1
  have hP := hP.sub (ws' := (ceX6_go cyI cyB cyJ cyZ a0 a1 a2 a3 a4 a5 a6 b0_law b0_marks b4_counts b4_walls g0_drawSeed g1_underWay g1_lead g4_ways g4_wallCount g4_texts g1_way g1_other f5 f6 g1_man g1_dog g1_gone g1_greatest g1_remembered f2 f3)) [0, 1, 2, 3, 4, 5, 6] rfl
  have hD := hD.sub (ws' := (ceX6_go cyI cyB cyJ cyZ a0 a1 a2 a3 a4 a5 a6 b0_law b0_marks b4_counts b4_walls g0_drawSeed g1_underWay g1_lead g4_ways g4_wallCount g4_texts g1_way g1_other f5 f6 g1_man g1_dog g1_gone g1_greatest g1_remembered f2 f3)) [0, 1, 2, 3, 4, 5, 6] (by decide) rfl
  generalize H1 = H at hP hS ⊢
  refine lv_iadd hx hb dX6_go_41 ?_
  have hPc := hP.sub (ws' := (ceX1_distance cyI cyB cyJ cyZ a4 a5 a6 b4_counts b4_walls g4_ways g4_wallCount g4_texts f5 f6)) [4, 5, 6] rfl
  have hDc := hD.sub (ws' := (ceX1_distance cyI cyB cyJ cyZ a4 a5 a6 b4_counts b4_walls g4_ways g4_wallCount g4_texts f5 f6)) [4, 5, 6] (by decide) rfl
  have hFc := va_free (wc := (ceX1_distance cyI cyB cyJ cyZ a4 a5 a6 b4_counts b4_walls g4_ways g4_wallCount g4_texts f5 f6)) hD hS hA [4, 5, 6] rfl
  refine va_calli (va_runV (As := [.int g1_way, .int (g1_man + r2), .int g1_other, .int (g1_dog + r4)]) (rest := []) ⟨hx, hb, hml, hown, hts⟩ (ctX1_distance l dC dI cyI cyB cyJ cyZ _ a4 a5 a6 b4_counts b4_walls g4_ways g4_wallCount g4_texts f5 f6 g1_way (g1_man + r2) g1_other (g1_dog + r4) _ hw) (cwV 4 hts gX6_go_X1_distance rfl rfl rfl (by decide +kernel) ⟨Nat.le_of_ble_eq_true rfl, Nat.le_of_ble_eq_true rfl⟩) ⟨wPre_blind, va_recv hK hPc (ci := 1) (q0 := 0) rfl rfl, fun U hU hW => wPre_of hPc hK hDc hN hU hW⟩ rfl rfl hl.1 rfl (lv_room (Nat.le_of_ble_eq_true rfl)) dX6_go_42 ⟨(Nat.zero_le _), (Nat.zero_le _)⟩) hS (fun q _ h => hFc q h) hFc (fun r6 u5 t H1 locs ht hvm hw hB hz1 hk1 hS => ?_)
  obtain ⟨hP1, hK1, hD1⟩ := hB
  rw [ht] at hP1
  obtain ⟨hP, hD⟩ := va_join (wr := pickW (ceX6_go cyI cyB cyJ cyZ a0 a1 a2 a3 a4 a5 a6 b0_law b0_marks b4_counts b4_walls g0_drawSeed g1_underWay g1_lead g4_ways g4_wallCount g4_texts g1_way g1_other f5 f6 g1_man g1_dog g1_gone g1_greatest g1_remembered f2 f3) [0, 1, 2, 3]) (w1 := (ceX1_distance cyI cyB cyJ cyZ a4 a5 a6 b4_counts b4_walls g4_ways g4_wallCount g4_texts f5 f6)) hP hD [4, 5, 6] [0, 1, 2, 3] rfl rfl (by decide) (by decide) hk1 hFc hP1 hD1
  have hP := hP.sub (ws' := (ceX6_go cyI cyB cyJ cyZ a0 a1 a2 a3 a4 a5 a6 b0_law b0_marks b4_counts b4_walls g0_drawSeed g1_underWay g1_lead g4_ways g4_wallCount g4_texts g1_way g1_other f5 f6 g1_man g1_dog g1_gone g1_greatest g1_remembered f2 f3)) [0, 1, 2, 3, 4, 5, 6] rfl
  have hD := hD.sub (ws' := (ceX6_go cyI cyB cyJ cyZ a0 a1 a2 a3 a4 a5 a6 b0_law b0_marks b4_counts b4_walls g0_drawSeed g1_underWay g1_lead g4_ways g4_wallCount g4_texts g1_way g1_other f5 f6 g1_man g1_dog g1_gone g1_greatest g1_remembered f2 f3)) [0, 1, 2, 3, 4, 5, 6] (by decide) rfl
  generalize H1 = H at hP hS ⊢
  refine lv_istore_n (lv' := [(2, .int r6), (0, .ref a0), (1, .int p0)]) hx hb dX6_go_45 rfl hl (by decide) rfl (fun ls hl => ?_)
  refine lv_aload_n hx hb dX6_go_46 rfl (lv_at hl 1 rfl) ?_
  refine va_get (D := (dC, dI)) (ci := 6) (v := .ref a1) (C := RX6) (T := TX6) (N := 5) hx hb hts inX6_go_X6 hown hK hP 0 rfl rfl 3 (by decide) (hts (.fieldLink RX6 35 "LeadPark$Scene" "stroll" "LLeadPark$Stroll;") (List.mem_of_getElem? (i := 2) rfl)) (fun _ h9 => h9) rfl dX6_go_47 ?_
  refine lv_iload_n hx hb dX6_go_50 rfl (lv_at hl 2 rfl) ?_
  refine lv_iload_n hx hb dX6_go_51 rfl (lv_at hl 0 rfl) ?_
  have hPc := hP.sub (ws' := (ceX7_advance cyI cyB cyJ cyZ a1 a2 a3 g1_underWay g1_way g1_other g1_lead g1_man g1_dog g1_gone g1_greatest g1_remembered f2 f3)) [1, 2, 3] rfl
  have hDc := hD.sub (ws' := (ceX7_advance cyI cyB cyJ cyZ a1 a2 a3 g1_underWay g1_way g1_other g1_lead g1_man g1_dog g1_gone g1_greatest g1_remembered f2 f3)) [1, 2, 3] (by decide) rfl
  have hFc := va_free (wc := (ceX7_advance cyI cyB cyJ cyZ a1 a2 a3 g1_underWay g1_way g1_other g1_lead g1_man g1_dog g1_gone g1_greatest g1_remembered f2 f3)) hD hS hA [1, 2, 3] rfl
  refine va_callv (va_runV (As := [.int p0, .int r6]) (rest := []) ⟨hx, hb, hml, hown, hts⟩ (ctX7_advance l dC dI cyI cyB cyJ cyZ _ a1 a2 a3 g1_underWay g1_way g1_other g1_lead g1_man g1_dog g1_gone g1_greatest g1_remembered f2 f3 p0 r6 _ hw) (cwV 2 hts gX6_go_X7_advance rfl rfl rfl (by decide +kernel) ⟨Nat.le_of_ble_eq_true rfl, Nat.le_of_ble_eq_true rfl⟩) ⟨wPre_blind, va_recv hK hPc (ci := 7) (q0 := 0) rfl rfl, fun U hU hW => wPre_of hPc hK hDc hN hU hW⟩ rfl rfl hl.1 rfl (lv_room (Nat.le_of_ble_eq_true rfl)) dX6_go_52 ⟨(Nat.zero_le _), (Nat.zero_le _)⟩) hS (fun q _ h => hFc q h) hFc (fun u7 t H1 locs ht hvm hw hB hz1 hk1 hS => ?_)
  obtain ⟨hP1, hK1, hD1⟩ := hB
  rw [ht] at hP1
  obtain ⟨hP, hD⟩ := va_join (wr := pickW (ceX6_go cyI cyB cyJ cyZ a0 a1 a2 a3 a4 a5 a6 b0_law b0_marks b4_counts b4_walls g0_drawSeed g1_underWay g1_lead g4_ways g4_wallCount g4_texts g1_way g1_other f5 f6 g1_man g1_dog g1_gone g1_greatest g1_remembered f2 f3) [0, 4, 5, 6]) (w1 := (ceX7_advance cyI cyB cyJ cyZ a1 a2 a3 g1_underWay g1_way g1_other g1_lead u7.1 u7.2.1 u7.2.2.1 u7.2.2.2.1 u7.2.2.2.2.1 u7.2.2.2.2.2.1 u7.2.2.2.2.2.2)) hP hD [1, 2, 3] [0, 4, 5, 6] rfl rfl (by decide) (by decide) hk1 hFc hP1 hD1
  have hP := hP.sub (ws' := (ceX6_go cyI cyB cyJ cyZ a0 a1 a2 a3 a4 a5 a6 b0_law b0_marks b4_counts b4_walls g0_drawSeed g1_underWay g1_lead g4_ways g4_wallCount g4_texts g1_way g1_other f5 f6 u7.1 u7.2.1 u7.2.2.1 u7.2.2.2.1 u7.2.2.2.2.1 u7.2.2.2.2.2.1 u7.2.2.2.2.2.2)) [0, 4, 5, 6, 1, 2, 3] rfl
  have hD := hD.sub (ws' := (ceX6_go cyI cyB cyJ cyZ a0 a1 a2 a3 a4 a5 a6 b0_law b0_marks b4_counts b4_walls g0_drawSeed g1_underWay g1_lead g4_ways g4_wallCount g4_texts g1_way g1_other f5 f6 u7.1 u7.2.1 u7.2.2.1 u7.2.2.2.1 u7.2.2.2.2.1 u7.2.2.2.2.2.1 u7.2.2.2.2.2.2)) [0, 4, 5, 6, 1, 2, 3] (by decide) rfl
  generalize H1 = H at hP hS ⊢
  refine lv_iload_n hx hb dX6_go_55 rfl (lv_at hl 0 rfl) ?_
  rw [hQ]
  exact W.iret (v := r6) hx hb hr (fun t ht hW => ⟨⟨r6, (u7.1, u7.2.1, u7.2.2.1, u7.2.2.2.1, u7.2.2.2.2.1, u7.2.2.2.2.2.1, u7.2.2.2.2.2.2), rfl, hw, by rw [ht]; exact hP, va_K.moved hW.alike hK, hD⟩, hS.F ht⟩) hS.2.2 dX6_go_56
/-! LeadPark$Scene.isStrollOver ()Z -/
abbrev ceX6_isStrollOver (cyI cyB cyJ cyZ : ClassId) (a0 a1 a2 a3 b0_law b0_marks b1_steps b1_greatestAhead b2_xs b2_ys b2_walls : Nat) (g0_drawSeed : Int32) (g1_underWay : Int32) (g1_lead : Int32) (g1_gone : Int32) (g1_greatest : Int32) (g1_remembered : Int32) (g2_wallCount : Int32) (g2_texts : Int32) (g1_way : Int32) (g1_other : Int32) (g1_man : Int32) (g1_dog : Int32) (g2_ways : Int32) (f3 : Nat → Int32) : va_W := [(a0, .inr (6, [.ref a2, .ref b0_law, .ref b0_marks, .ref a1, .int g0_drawSeed])), (a1, .inr (7, [.int g1_underWay, .int g1_way, .int g1_other, .int g1_lead, .int g1_man, .int g1_dog, .int g1_gone, .int g1_greatest, .int g1_remembered, .ref b1_steps, .ref b1_greatestAhead])), (a2, .inr (1, [.ref b2_xs, .ref b2_ys, .ref a3, .ref b2_walls, .int g2_ways, .int g2_wallCount, .int g2_texts])), (a3, .inl (cyI, 12, .inl f3))]

theorem inX6_isStrollOver_X6 : ∀ w ∈ wsX60, w ∈ wsX6_isStrollOver := fun _ h => List.mem_cons_of_mem _ (List.mem_append_left _ (List.mem_append_left _ (List.mem_append_right _ h)))
theorem inX6_isStrollOver_X7 : ∀ w ∈ wsX70, w ∈ wsX6_isStrollOver := fun _ h => List.mem_cons_of_mem _ (List.mem_append_left _ (List.mem_append_right _ h))
abbrev rmX6_isStrollOver : Room := { frames := 2, cells := 0, slots := 0, locals := 43 }
set_option maxRecDepth 100000 in
set_option maxHeartbeats 4000000 in
theorem ctX6_isStrollOver (l : Launch) (dC : Nat → ClassId) (dI : Nat → Nat → Nat) (cyI cyB cyJ cyZ : ClassId) (sz : Nat) (a0 a1 a2 a3 b0_law b0_marks b1_steps b1_greatestAhead b2_xs b2_ys b2_walls : Nat) (g0_drawSeed : Int32) (g1_underWay : Int32) (g1_lead : Int32) (g1_gone : Int32) (g1_greatest : Int32) (g1_remembered : Int32) (g2_wallCount : Int32) (g2_texts : Int32) (g1_way : Int32) (g1_other : Int32) (g1_man : Int32) (g1_dog : Int32) (g2_ways : Int32) (f3 : Nat → Int32) (post : Int32 → Unit → Prop) (hw : wpX6_isStrollOver post g1_way g1_other g1_man g1_dog g2_ways f3 ) : Met l yX6_isStrollOver wsX6_isStrollOver rmX6_isStrollOver (va_Pc [.ref a0] (wPre dC dI cyI cyB cyJ cyZ sz (ceX6_isStrollOver cyI cyB cyJ cyZ a0 a1 a2 a3 b0_law b0_marks b1_steps b1_greatestAhead b2_xs b2_ys b2_walls g0_drawSeed g1_underWay g1_lead g1_gone g1_greatest g1_remembered g2_wallCount g2_texts g1_way g1_other g1_man g1_dog g2_ways f3))) (va_Qi post (fun u : Unit => wAt dC dI cyI cyB cyJ cyZ (va_A (ceX6_isStrollOver cyI cyB cyJ cyZ a0 a1 a2 a3 b0_law b0_marks b1_steps b1_greatestAhead b2_xs b2_ys b2_walls g0_drawSeed g1_underWay g1_lead g1_gone g1_greatest g1_remembered g2_wallCount g2_texts g1_way g1_other g1_man g1_dog g2_ways f3) sz) (ceX6_isStrollOver cyI cyB cyJ cyZ a0 a1 a2 a3 b0_law b0_marks b1_steps b1_greatestAhead b2_xs b2_ys b2_walls g0_drawSeed g1_underWay g1_lead g1_gone g1_greatest g1_remembered g2_wallCount g2_texts g1_way g1_other g1_man g1_dog g2_ways f3)) (va_A (ceX6_isStrollOver cyI cyB cyJ cyZ a0 a1 a2 a3 b0_law b0_marks b1_steps b1_greatestAhead b2_xs b2_ys b2_walls g0_drawSeed g1_underWay g1_lead g1_gone g1_greatest g1_remembered g2_wallCount g2_texts g1_way g1_other g1_man g1_dog g2_ways f3) sz)) 0 0 (va_A (ceX6_isStrollOver cyI cyB cyJ cyZ a0 a1 a2 a3 b0_law b0_marks b1_steps b1_greatestAhead b2_xs b2_ys b2_walls g0_drawSeed g1_underWay g1_lead g1_gone g1_greatest g1_remembered g2_wallCount g2_texts g1_way g1_other g1_man g1_dog g2_ways f3) sz) := by
  refine Met.ofW (cc := cX6_isStrollOver) (maxL := 1) (ret := (some .boolean)) (by decide) rfl ?_
  intro p e s m args below meth c s₁ B hml hv
  obtain ⟨rfl, hsz, hP, hK, hD0, hN⟩ := hv
  have hx := B.exec
  have hb := B.bytes
  have hr := B.returns
  have hts := atoms_spec (ws := wsX6_isStrollOver) B.pre
  have hown : s.vm.findClass RX6 = some m.cls := findClass_of_methodNamed B.named
  have hlocks := B.notSynchronized
  subst hsz
  have hD := hD0.self (sz := s.heap.size)
  generalize hAe : va_A (ceX6_isStrollOver cyI cyB cyJ cyZ a0 a1 a2 a3 b0_law b0_marks b1_steps b1_greatestAhead b2_xs b2_ys b2_walls g0_drawSeed g1_underWay g1_lead g1_gone g1_greatest g1_remembered g2_wallCount g2_texts g1_way g1_other g1_man g1_dog g2_ways f3) s.heap.size = A at hD ⊢
  have hA : ∀ q : Nat, s.heap.size ≤ q → A q := fun q h => by rw [← hAe]; exact Or.inr h
  have hS : va_S A s.heap s.heap [] := va_S.rf
  have C0 : cxM p s m meth c _ wsX6_isStrollOver RX6 cX6_isStrollOver 1 (some .boolean) := ⟨hx, hb, hr, hml, hown, hts, hlocks⟩
  have hl := lv_entry ([.ref a0]) (n := 1) (Nat.le_of_ble_eq_true rfl)
  rw [lg_entry_eq]
  generalize (lg_sl ([.ref a0]) ++ List.replicate (1 - (lg_sl ([.ref a0])).length) Slot.unset).toArray = ls at hl ⊢
  have hl : lv_has ls 1 [(0, .ref a0)] := hl
  show W p l e rmX6_isStrollOver s m _ below meth c _ _ _ _ _ _
  refine wq (fun Q hQ => ?_)
  refine lv_aload_n hx hb dX6_isStrollOver_0 rfl (lv_at hl 0 rfl) ?_
  refine va_get (D := (dC, dI)) (ci := 6) (v := .ref a2) (C := RX6) (T := TX6) (N := 5) hx hb hts inX6_isStrollOver_X6 hown hK hP 0 rfl rfl 0 (by decide) (hts (.fieldLink RX6 12 "LeadPark$Scene" "ground" "LLeadPark$Ground;") (List.mem_of_getElem? (i := 1) rfl)) (fun _ h9 => h9) rfl dX6_isStrollOver_1 ?_
  refine lv_aload_n hx hb dX6_isStrollOver_4 rfl (lv_at hl 0 rfl) ?_
  refine va_get (D := (dC, dI)) (ci := 6) (v := .ref a1) (C := RX6) (T := TX6) (N := 5) hx hb hts inX6_isStrollOver_X6 hown hK hP 0 rfl rfl 3 (by decide) (hts (.fieldLink RX6 35 "LeadPark$Scene" "stroll" "LLeadPark$Stroll;") (List.mem_of_getElem? (i := 2) rfl)) (fun _ h9 => h9) rfl dX6_isStrollOver_5 ?_
  refine va_getN (D := (dC, dI)) (ci := 7) (v := .int g1_way) (C := RX7) (T := TX7) (N := 11) hx hb hts inX6_isStrollOver_X7 hown hK hP 1 rfl rfl 1 (by decide) (va_Nw.use rfl (hN _ (List.mem_of_getElem? (i := 16) rfl))) (fun _ h9 => h9) rfl dX6_isStrollOver_8 ?_
  refine lv_aload_n hx hb dX6_isStrollOver_11 rfl (lv_at hl 0 rfl) ?_
  refine va_get (D := (dC, dI)) (ci := 6) (v := .ref a1) (C := RX6) (T := TX6) (N := 5) hx hb hts inX6_isStrollOver_X6 hown hK hP 0 rfl rfl 3 (by decide) (hts (.fieldLink RX6 35 "LeadPark$Scene" "stroll" "LLeadPark$Stroll;") (List.mem_of_getElem? (i := 2) rfl)) (fun _ h9 => h9) rfl dX6_isStrollOver_12 ?_
  refine va_getN (D := (dC, dI)) (ci := 7) (v := .int g1_man) (C := RX7) (T := TX7) (N := 11) hx hb hts inX6_isStrollOver_X7 hown hK hP 1 rfl rfl 4 (by decide) (va_Nw.use rfl (hN _ (List.mem_of_getElem? (i := 20) rfl))) (fun _ h9 => h9) rfl dX6_isStrollOver_15 ?_
  refine lv_iconst (v := 1) hx hb dX6_isStrollOver_18 (by decide) ?_
  refine lv_iadd hx hb dX6_isStrollOver_19 ?_
  have hPc := hP.sub (ws' := (ceX1_hasCorner cyI cyB cyJ cyZ a2 a3 b2_xs b2_ys b2_walls g2_wallCount g2_texts g2_ways f3)) [2, 3] rfl
  have hDc := hD.sub (ws' := (ceX1_hasCorner cyI cyB cyJ cyZ a2 a3 b2_xs b2_ys b2_walls g2_wallCount g2_texts g2_ways f3)) [2, 3] (by decide) rfl
  have hFc := va_free (wc := (ceX1_hasCorner cyI cyB cyJ cyZ a2 a3 b2_xs b2_ys b2_walls g2_wallCount g2_texts g2_ways f3)) hD hS hA [2, 3] rfl
  refine va_calli (va_runV (As := [.int g1_way, .int (g1_man + 1)]) (rest := []) ⟨hx, hb, hml, hown, hts⟩ (ctX1_hasCorner l dC dI cyI cyB cyJ cyZ _ a2 a3 b2_xs b2_ys b2_walls g2_wallCount g2_texts g2_ways f3 g1_way (g1_man + 1) _ hw) (cwV 2 hts gX6_isStrollOver_X1_hasCorner rfl rfl rfl (by decide +kernel) ⟨Nat.le_of_ble_eq_true rfl, Nat.le_of_ble_eq_true rfl⟩) ⟨wPre_blind, va_recv hK hPc (ci := 1) (q0 := 0) rfl rfl, fun U hU hW => wPre_of hPc hK hDc hN hU hW⟩ rfl rfl hl.1 rfl (lv_room (Nat.le_of_ble_eq_true rfl)) dX6_isStrollOver_20 ⟨(Nat.zero_le _), (Nat.zero_le _)⟩) hS (fun q _ h => hFc q h) hFc (fun r2 u1 t H1 locs ht hvm hw hB hz1 hk1 hS => ?_)
  obtain ⟨hP1, hK1, hD1⟩ := hB
  rw [ht] at hP1
  obtain ⟨hP, hD⟩ := va_join (wr := pickW (ceX6_isStrollOver cyI cyB cyJ cyZ a0 a1 a2 a3 b0_law b0_marks b1_steps b1_greatestAhead b2_xs b2_ys b2_walls g0_drawSeed g1_underWay g1_lead g1_gone g1_greatest g1_remembered g2_wallCount g2_texts g1_way g1_other g1_man g1_dog g2_ways f3) [0, 1]) (w1 := (ceX1_hasCorner cyI cyB cyJ cyZ a2 a3 b2_xs b2_ys b2_walls g2_wallCount g2_texts g2_ways f3)) hP hD [2, 3] [0, 1] rfl rfl (by decide) (by decide) hk1 hFc hP1 hD1
  have hP := hP.sub (ws' := (ceX6_isStrollOver cyI cyB cyJ cyZ a0 a1 a2 a3 b0_law b0_marks b1_steps b1_greatestAhead b2_xs b2_ys b2_walls g0_drawSeed g1_underWay g1_lead g1_gone g1_greatest g1_remembered g2_wallCount g2_texts g1_way g1_other g1_man g1_dog g2_ways f3)) [0, 1, 2, 3] rfl
  have hD := hD.sub (ws' := (ceX6_isStrollOver cyI cyB cyJ cyZ a0 a1 a2 a3 b0_law b0_marks b1_steps b1_greatestAhead b2_xs b2_ys b2_walls g0_drawSeed g1_underWay g1_lead g1_gone g1_greatest g1_remembered g2_wallCount g2_texts g1_way g1_other g1_man g1_dog g2_ways f3)) [0, 1, 2, 3] (by decide) rfl
  generalize H1 = H at hP hS ⊢
  refine lv_if_ne (tgt := 56) hx hb dX6_isStrollOver_23 (by decide) (fun hc => ?_) (fun hc => ?_)
  · have hw := hw.1 hc
    refine lv_iconst (v := 0) hx hb dX6_isStrollOver_56 (by decide) ?_
    rw [hQ]
    exact W.zret (v := 0) (ty := .boolean) hx hb hr rfl (fun t ht hW => ⟨⟨0, (), rfl, hw, by rw [ht]; exact hP, va_K.moved hW.alike hK, hD⟩, hS.F ht⟩) hS.2.2 dX6_isStrollOver_57
  · have hw := hw.2 hc
    refine lv_aload_n hx hb dX6_isStrollOver_26 rfl (lv_at hl 0 rfl) ?_
    refine va_get (D := (dC, dI)) (ci := 6) (v := .ref a2) (C := RX6) (T := TX6) (N := 5) hx hb hts inX6_isStrollOver_X6 hown hK hP 0 rfl rfl 0 (by decide) (hts (.fieldLink RX6 12 "LeadPark$Scene" "ground" "LLeadPark$Ground;") (List.mem_of_getElem? (i := 1) rfl)) (fun _ h9 => h9) rfl dX6_isStrollOver_27 ?_
    refine lv_aload_n hx hb dX6_isStrollOver_30 rfl (lv_at hl 0 rfl) ?_
    refine va_get (D := (dC, dI)) (ci := 6) (v := .ref a1) (C := RX6) (T := TX6) (N := 5) hx hb hts inX6_isStrollOver_X6 hown hK hP 0 rfl rfl 3 (by decide) (hts (.fieldLink RX6 35 "LeadPark$Scene" "stroll" "LLeadPark$Stroll;") (List.mem_of_getElem? (i := 2) rfl)) (fun _ h9 => h9) rfl dX6_isStrollOver_31 ?_
    refine va_getN (D := (dC, dI)) (ci := 7) (v := .int g1_other) (C := RX7) (T := TX7) (N := 11) hx hb hts inX6_isStrollOver_X7 hown hK hP 1 rfl rfl 2 (by decide) (va_Nw.use rfl (hN _ (List.mem_of_getElem? (i := 17) rfl))) (fun _ h9 => h9) rfl dX6_isStrollOver_34 ?_
    refine lv_aload_n hx hb dX6_isStrollOver_37 rfl (lv_at hl 0 rfl) ?_
    refine va_get (D := (dC, dI)) (ci := 6) (v := .ref a1) (C := RX6) (T := TX6) (N := 5) hx hb hts inX6_isStrollOver_X6 hown hK hP 0 rfl rfl 3 (by decide) (hts (.fieldLink RX6 35 "LeadPark$Scene" "stroll" "LLeadPark$Stroll;") (List.mem_of_getElem? (i := 2) rfl)) (fun _ h9 => h9) rfl dX6_isStrollOver_38 ?_
    refine va_getN (D := (dC, dI)) (ci := 7) (v := .int g1_dog) (C := RX7) (T := TX7) (N := 11) hx hb hts inX6_isStrollOver_X7 hown hK hP 1 rfl rfl 5 (by decide) (va_Nw.use rfl (hN _ (List.mem_of_getElem? (i := 22) rfl))) (fun _ h9 => h9) rfl dX6_isStrollOver_41 ?_
    refine lv_iconst (v := 1) hx hb dX6_isStrollOver_44 (by decide) ?_
    refine lv_iadd hx hb dX6_isStrollOver_45 ?_
    have hPc := hP.sub (ws' := (ceX1_hasCorner cyI cyB cyJ cyZ a2 a3 b2_xs b2_ys b2_walls g2_wallCount g2_texts g2_ways f3)) [2, 3] rfl
    have hDc := hD.sub (ws' := (ceX1_hasCorner cyI cyB cyJ cyZ a2 a3 b2_xs b2_ys b2_walls g2_wallCount g2_texts g2_ways f3)) [2, 3] (by decide) rfl
    have hFc := va_free (wc := (ceX1_hasCorner cyI cyB cyJ cyZ a2 a3 b2_xs b2_ys b2_walls g2_wallCount g2_texts g2_ways f3)) hD hS hA [2, 3] rfl
    refine va_calli (va_runV (As := [.int g1_other, .int (g1_dog + 1)]) (rest := []) ⟨hx, hb, hml, hown, hts⟩ (ctX1_hasCorner l dC dI cyI cyB cyJ cyZ _ a2 a3 b2_xs b2_ys b2_walls g2_wallCount g2_texts g2_ways f3 g1_other (g1_dog + 1) _ hw) (cwV 2 hts gX6_isStrollOver_X1_hasCorner rfl rfl rfl (by decide +kernel) ⟨Nat.le_of_ble_eq_true rfl, Nat.le_of_ble_eq_true rfl⟩) ⟨wPre_blind, va_recv hK hPc (ci := 1) (q0 := 0) rfl rfl, fun U hU hW => wPre_of hPc hK hDc hN hU hW⟩ rfl rfl hl.1 rfl (lv_room (Nat.le_of_ble_eq_true rfl)) dX6_isStrollOver_46 ⟨(Nat.zero_le _), (Nat.zero_le _)⟩) hS (fun q _ h => hFc q h) hFc (fun r4 u3 t H1 locs ht hvm hw hB hz1 hk1 hS => ?_)
    obtain ⟨hP1, hK1, hD1⟩ := hB
    rw [ht] at hP1
    obtain ⟨hP, hD⟩ := va_join (wr := pickW (ceX6_isStrollOver cyI cyB cyJ cyZ a0 a1 a2 a3 b0_law b0_marks b1_steps b1_greatestAhead b2_xs b2_ys b2_walls g0_drawSeed g1_underWay g1_lead g1_gone g1_greatest g1_remembered g2_wallCount g2_texts g1_way g1_other g1_man g1_dog g2_ways f3) [0, 1]) (w1 := (ceX1_hasCorner cyI cyB cyJ cyZ a2 a3 b2_xs b2_ys b2_walls g2_wallCount g2_texts g2_ways f3)) hP hD [2, 3] [0, 1] rfl rfl (by decide) (by decide) hk1 hFc hP1 hD1
    have hP := hP.sub (ws' := (ceX6_isStrollOver cyI cyB cyJ cyZ a0 a1 a2 a3 b0_law b0_marks b1_steps b1_greatestAhead b2_xs b2_ys b2_walls g0_drawSeed g1_underWay g1_lead g1_gone g1_greatest g1_remembered g2_wallCount g2_texts g1_way g1_other g1_man g1_dog g2_ways f3)) [0, 1, 2, 3] rfl
    have hD := hD.sub (ws' := (ceX6_isStrollOver cyI cyB cyJ cyZ a0 a1 a2 a3 b0_law b0_marks b1_steps b1_greatestAhead b2_xs b2_ys b2_walls g0_drawSeed g1_underWay g1_lead g1_gone g1_greatest g1_remembered g2_wallCount g2_texts g1_way g1_other g1_man g1_dog g2_ways f3)) [0, 1, 2, 3] (by decide) rfl
    generalize H1 = H at hP hS ⊢
    refine lv_if_ne (tgt := 56) hx hb dX6_isStrollOver_49 (by decide) (fun hc => ?_) (fun hc => ?_)
    · have hw := hw.1 hc
      refine lv_iconst (v := 0) hx hb dX6_isStrollOver_56 (by decide) ?_
      rw [hQ]
      exact W.zret (v := 0) (ty := .boolean) hx hb hr rfl (fun t ht hW => ⟨⟨0, (), rfl, hw, by rw [ht]; exact hP, va_K.moved hW.alike hK, hD⟩, hS.F ht⟩) hS.2.2 dX6_isStrollOver_57
    · have hw := hw.2 hc
      refine lv_iconst (v := 1) hx hb dX6_isStrollOver_52 (by decide) ?_
      refine lv_goto (tgt := 57) hx hb dX6_isStrollOver_53 (by decide) ?_
      rw [hQ]
      exact W.zret (v := 1) (ty := .boolean) hx hb hr rfl (fun t ht hW => ⟨⟨1, (), rfl, hw, by rw [ht]; exact hP, va_K.moved hW.alike hK, hD⟩, hS.F ht⟩) hS.2.2 dX6_isStrollOver_57
/-! LeadPark$Scene.nextDraw ()I -/
abbrev ceX6_nextDraw (cyI cyB cyJ cyZ : ClassId) (a0 b0_ground b0_law b0_marks b0_stroll : Nat) (g0_drawSeed : Int32) : va_W := [(a0, .inr (6, [.ref b0_ground, .ref b0_law, .ref b0_marks, .ref b0_stroll, .int g0_drawSeed]))]

theorem inX6_nextDraw_X6 : ∀ w ∈ wsX60, w ∈ wsX6_nextDraw := fun _ h => List.mem_cons_of_mem _ (List.mem_append_right _ h)
abbrev rmX6_nextDraw : Room := { frames := 0, cells := 0, slots := 0, locals := 0 }
set_option maxRecDepth 100000 in
set_option maxHeartbeats 4000000 in
theorem ctX6_nextDraw (l : Launch) (dC : Nat → ClassId) (dI : Nat → Nat → Nat) (cyI cyB cyJ cyZ : ClassId) (sz : Nat) (a0 b0_ground b0_law b0_marks b0_stroll : Nat) (g0_drawSeed : Int32) (post : Int32 → Int32 → Prop) (hw : wpX6_nextDraw post g0_drawSeed ) : Met l yX6_nextDraw wsX6_nextDraw rmX6_nextDraw (va_Pc [.ref a0] (wPre dC dI cyI cyB cyJ cyZ sz (ceX6_nextDraw cyI cyB cyJ cyZ a0 b0_ground b0_law b0_marks b0_stroll g0_drawSeed))) (va_Qi post (fun u : Int32 => wAt dC dI cyI cyB cyJ cyZ (va_A (ceX6_nextDraw cyI cyB cyJ cyZ a0 b0_ground b0_law b0_marks b0_stroll g0_drawSeed) sz) (ceX6_nextDraw cyI cyB cyJ cyZ a0 b0_ground b0_law b0_marks b0_stroll u)) (va_A (ceX6_nextDraw cyI cyB cyJ cyZ a0 b0_ground b0_law b0_marks b0_stroll g0_drawSeed) sz)) 0 0 (va_A (ceX6_nextDraw cyI cyB cyJ cyZ a0 b0_ground b0_law b0_marks b0_stroll g0_drawSeed) sz) := by
  refine Met.ofW (cc := cX6_nextDraw) (maxL := 1) (ret := (some .int)) (by decide) rfl ?_
  intro p e s m args below meth c s₁ B hml hv
  obtain ⟨rfl, hsz, hP, hK, hD0, hN⟩ := hv
  have hx := B.exec
  have hb := B.bytes
  have hr := B.returns
  have hts := atoms_spec (ws := wsX6_nextDraw) B.pre
  have hown : s.vm.findClass RX6 = some m.cls := findClass_of_methodNamed B.named
  have hlocks := B.notSynchronized
  subst hsz
  have hD := hD0.self (sz := s.heap.size)
  generalize hAe : va_A (ceX6_nextDraw cyI cyB cyJ cyZ a0 b0_ground b0_law b0_marks b0_stroll g0_drawSeed) s.heap.size = A at hD ⊢
  have hA : ∀ q : Nat, s.heap.size ≤ q → A q := fun q h => by rw [← hAe]; exact Or.inr h
  have hS : va_S A s.heap s.heap [] := va_S.rf
  have C0 : cxM p s m meth c _ wsX6_nextDraw RX6 cX6_nextDraw 1 (some .int) := ⟨hx, hb, hr, hml, hown, hts, hlocks⟩
  have hl := lv_entry ([.ref a0]) (n := 1) (Nat.le_of_ble_eq_true rfl)
  rw [lg_entry_eq]
  generalize (lg_sl ([.ref a0]) ++ List.replicate (1 - (lg_sl ([.ref a0])).length) Slot.unset).toArray = ls at hl ⊢
  have hl : lv_has ls 1 [(0, .ref a0)] := hl
  show W p l e rmX6_nextDraw s m _ below meth c _ _ _ _ _ _
  refine wq (fun Q hQ => ?_)
  refine lv_aload_n hx hb dX6_nextDraw_0 rfl (lv_at hl 0 rfl) ?_
  refine lv_ldc (v := 1103515245) hx hb hown (hts (.constant RX6 117 (1103515245)) (List.mem_of_getElem? (i := 1) rfl)) dX6_nextDraw_1 ?_
  refine lv_aload_n hx hb dX6_nextDraw_3 rfl (lv_at hl 0 rfl) ?_
  refine va_get (D := (dC, dI)) (ci := 6) (v := .int g0_drawSeed) (C := RX6) (T := TX6) (N := 5) hx hb hts inX6_nextDraw_X6 hown hK hP 0 rfl rfl 4 (by decide) (hts (.fieldLink RX6 39 "LeadPark$Scene" "drawSeed" "I") (List.mem_of_getElem? (i := 2) rfl)) (fun _ h9 => h9) rfl dX6_nextDraw_4 ?_
  refine lv_imul hx hb dX6_nextDraw_7 ?_
  refine lv_sipush (v := 12345) hx hb dX6_nextDraw_8 (by decide) ?_
  refine lv_iadd hx hb dX6_nextDraw_11 ?_
  refine lv_topi (fun v1 ev1 => ?_)
  have hw := hw v1 ev1
  refine va_put (D := (dC, dI)) (ci := 6) (v := .int v1) (ty := .int) (C := RX6) (T := TX6) (N := 5) hx hb hts inX6_nextDraw_X6 tyX6 tyX6_ok nmX6 hown hK hP hD hS 0 rfl rfl 4 (by decide) (hts (.fieldLink RX6 39 "LeadPark$Scene" "drawSeed" "I") (List.mem_of_getElem? (i := 2) rfl)) (fun _ h9 => h9) rfl (by decide +kernel) rfl rfl (Nat.le_of_ble_eq_true rfl) dX6_nextDraw_12 (fun H locs hP hD hS => ?_)
  have hP : va_P (dC, dI) vwCl (ceX6_nextDraw cyI cyB cyJ cyZ a0 b0_ground b0_law b0_marks b0_stroll v1) H := hP
  have hD : va_D A (ceX6_nextDraw cyI cyB cyJ cyZ a0 b0_ground b0_law b0_marks b0_stroll v1) := hD
  refine lv_aload_n hx hb dX6_nextDraw_15 rfl (lv_at hl 0 rfl) ?_
  refine va_get (D := (dC, dI)) (ci := 6) (v := .int v1) (C := RX6) (T := TX6) (N := 5) hx hb hts inX6_nextDraw_X6 hown hK hP 0 rfl rfl 4 (by decide) (hts (.fieldLink RX6 39 "LeadPark$Scene" "drawSeed" "I") (List.mem_of_getElem? (i := 2) rfl)) (fun _ h9 => h9) rfl dX6_nextDraw_16 ?_
  refine lv_bipush (v := 16) hx hb dX6_nextDraw_19 (by decide) ?_
  refine lv_ishr hx hb dX6_nextDraw_21 ?_
  refine lv_sipush (v := 32767) hx hb dX6_nextDraw_22 (by decide) ?_
  refine lv_iand hx hb dX6_nextDraw_25 ?_
  rw [hQ]
  exact W.iret (v := (v1 >>> ((16 : Int32) &&& 31)) &&& 32767) hx hb hr (fun t ht hW => ⟨⟨(v1 >>> ((16 : Int32) &&& 31)) &&& 32767, (v1), rfl, hw, by rw [ht]; exact hP, va_K.moved hW.alike hK, hD⟩, hS.F ht⟩) hS.2.2 dX6_nextDraw_26
/-! LeadPark$Scene.drawStep ()I -/
abbrev ceX6_drawStep (cyI cyB cyJ cyZ : ClassId) (a0 a1 a2 a3 a4 a5 a6 a7 a8 a9 b0_marks b1_steps b1_greatestAhead : Nat) (g1_gone : Int32) (g1_greatest : Int32) (g1_remembered : Int32) (g2_texts : Int32) (g7_lines : Int32) (g1_underWay : Int32) (g1_way : Int32) (g1_other : Int32) (g1_lead : Int32) (g1_man : Int32) (g1_dog : Int32) (g2_ways : Int32) (g2_wallCount : Int32) (f3 : Nat → Int32) (f4 : Nat → Int32) (f5 : Nat → Int32) (f6 : Nat → Int32) (g7_size : Int32) (f9 : Nat → Int32) (g0_drawSeed : Int32) (f8 : Nat → Int32) : va_W := [(a0, .inr (6, [.ref a2, .ref a7, .ref b0_marks, .ref a1, .int g0_drawSeed])), (a1, .inr (7, [.int g1_underWay, .int g1_way, .int g1_other, .int g1_lead, .int g1_man, .int g1_dog, .int g1_gone, .int g1_greatest, .int g1_remembered, .ref b1_steps, .ref b1_greatestAhead])), (a2, .inr (1, [.ref a4, .ref a5, .ref a3, .ref a6, .int g2_ways, .int g2_wallCount, .int g2_texts])), (a3, .inl (cyI, 12, .inl f3)), (a4, .inl (cyI, 360, .inl f4)), (a5, .inl (cyI, 360, .inl f5)), (a6, .inl (cyI, 32, .inl f6)), (a7, .inr (2, [.ref a9, .ref a8, .int g7_size, .int g7_lines])), (a8, .inl (cyI, 7, .inl f8)), (a9, .inl (cyI, 400, .inl f9))]

abbrev rmX6_drawStep : Room := { frames := 6, cells := 0, slots := 0, locals := 174 }
set_option maxRecDepth 100000 in
set_option maxHeartbeats 4000000 in
theorem bX6_drawStep_78 {p : Program} {l : Launch} {e : Env} {s : State} {m : MethodId} {args : Array Value} {below : List Frame} {meth : Method} {c : Code} {dC : Nat → ClassId} {dI : Nat → Nat → Nat} {cyI cyB cyJ cyZ : ClassId} {A : Nat → Prop} {a0 a1 a2 a3 a4 a5 a6 a7 a8 a9 b0_marks b1_steps b1_greatestAhead : Nat} {g1_gone : Int32} {g1_greatest : Int32} {g1_remembered : Int32} {g2_texts : Int32} {g7_lines : Int32} (C0 : cxM p s m meth c args wsX6_drawStep RX6 cX6_drawStep 5 (some .int)) (hK : va_K (dC, dI) vwCl (tyA cyI cyB cyJ cyZ) s) (hN : nwA s) (hA : ∀ q : Nat, s.heap.size ≤ q → A q) {post : Int32 → (Int32 × (Nat → Int32)) → Prop} {g1_underWay : Int32} {g1_way : Int32} {g1_other : Int32} {g1_lead : Int32} {g1_man : Int32} {g1_dog : Int32} {g2_ways : Int32} {g2_wallCount : Int32} {f3 : Nat → Int32} {f4 : Nat → Int32} {f5 : Nat → Int32} {f6 : Nat → Int32} {g7_size : Int32} {f9 : Nat → Int32} {k50 : Int32 → (Nat → Int32) → Int32 → Int32 → Int32 → Prop} {Q : State → Prop} (hQ : Q = MQ below (va_Qi post (fun u : Int32 × (Nat → Int32) => wAt dC dI cyI cyB cyJ cyZ A (ceX6_drawStep cyI cyB cyJ cyZ a0 a1 a2 a3 a4 a5 a6 a7 a8 a9 b0_marks b1_steps b1_greatestAhead g1_gone g1_greatest g1_remembered g2_texts g7_lines g1_underWay g1_way g1_other g1_lead g1_man g1_dog g2_ways g2_wallCount f3 f4 f5 f6 g7_size f9 u.1 u.2)) A) args s 0 0 A) (hk50 : ∀ (g0_drawSeed : Int32) (f8 : Nat → Int32) (x1 : Int32) (x3 : Int32) (x4 : Int32), k50 g0_drawSeed f8 x1 x3 x4 → AtW p l e rmX6_drawStep s m args below meth c dC dI A Q 5 0 0 (ceX6_drawStep cyI cyB cyJ cyZ a0 a1 a2 a3 a4 a5 a6 a7 a8 a9 b0_marks b1_steps b1_greatestAhead g1_gone g1_greatest g1_remembered g2_texts g7_lines g1_underWay g1_way g1_other g1_lead g1_man g1_dog g2_ways g2_wallCount f3 f4 f5 f6 g7_size f9 g0_drawSeed f8) [(1, .int x1), (3, .int x3), (4, .int x4)] 50 []) : ∀ (g0_drawSeed : Int32) (f8 : Nat → Int32) (x1 : Int32) (x3 : Int32) (x4 : Int32), wpX6_drawStep_78 k50 post g1_underWay g1_way g1_other g1_lead g1_man g1_dog g2_ways g2_wallCount f3 f4 f5 f6 g7_size f9 g0_drawSeed f8 x1 x3 x4 → AtW p l e rmX6_drawStep s m args below meth c dC dI A Q 5 0 0 (ceX6_drawStep cyI cyB cyJ cyZ a0 a1 a2 a3 a4 a5 a6 a7 a8 a9 b0_marks b1_steps b1_greatestAhead g1_gone g1_greatest g1_remembered g2_texts g7_lines g1_underWay g1_way g1_other g1_lead g1_man g1_dog g2_ways g2_wallCount f3 f4 f5 f6 g7_size f9 g0_drawSeed f8) [(1, .int x1), (3, .int x3), (4, .int x4)] 78 [] := by
  intro g0_drawSeed f8 x1 x3 x4 hw H locs hP hD hS ls hl
  have C1 := C0
  obtain ⟨hx, hb, hr, hml, hown, hts, hlocks⟩ := C1
  obtain ⟨v1, ev1⟩ : ∃ y : Int32, y = x4 + 1 := ⟨_, rfl⟩
  have hw := hw v1 ev1
  refine lv_iinc (v := v1) (lv' := [(4, .int v1), (1, .int x1), (3, .int x3)]) hx hb dX6_drawStep_78 hl (k := 2) rfl (by rw [ev1]; rfl) (by decide) rfl (fun ls hl => ?_)
  refine lv_goto (tgt := 50) hx hb dX6_drawStep_81 (by decide) ?_
  exact hk50 g0_drawSeed f8 x1 x3 v1 hw H locs hP hD hS ls (lv_sub hl [1, 2, 0] rfl)
set_option maxRecDepth 100000 in
set_option maxHeartbeats 4000000 in
theorem bX6_drawStep_50 {p : Program} {l : Launch} {e : Env} {s : State} {m : MethodId} {args : Array Value} {below : List Frame} {meth : Method} {c : Code} {dC : Nat → ClassId} {dI : Nat → Nat → Nat} {cyI cyB cyJ cyZ : ClassId} {A : Nat → Prop} {a0 a1 a2 a3 a4 a5 a6 a7 a8 a9 b0_marks b1_steps b1_greatestAhead : Nat} {g1_gone : Int32} {g1_greatest : Int32} {g1_remembered : Int32} {g2_texts : Int32} {g7_lines : Int32} (C0 : cxM p s m meth c args wsX6_drawStep RX6 cX6_drawStep 5 (some .int)) (hK : va_K (dC, dI) vwCl (tyA cyI cyB cyJ cyZ) s) (hN : nwA s) (hA : ∀ q : Nat, s.heap.size ≤ q → A q) {post : Int32 → (Int32 × (Nat → Int32)) → Prop} {g1_underWay : Int32} {g1_way : Int32} {g1_other : Int32} {g1_lead : Int32} {g1_man : Int32} {g1_dog : Int32} {g2_ways : Int32} {g2_wallCount : Int32} {f3 : Nat → Int32} {f4 : Nat → Int32} {f5 : Nat → Int32} {f6 : Nat → Int32} {g7_size : Int32} {f9 : Nat → Int32} {Q : State → Prop} (hQ : Q = MQ below (va_Qi post (fun u : Int32 × (Nat → Int32) => wAt dC dI cyI cyB cyJ cyZ A (ceX6_drawStep cyI cyB cyJ cyZ a0 a1 a2 a3 a4 a5 a6 a7 a8 a9 b0_marks b1_steps b1_greatestAhead g1_gone g1_greatest g1_remembered g2_texts g7_lines g1_underWay g1_way g1_other g1_lead g1_man g1_dog g2_ways g2_wallCount f3 f4 f5 f6 g7_size f9 u.1 u.2)) A) args s 0 0 A) : ∀ (n : Nat) (g0_drawSeed : Int32) (f8 : Nat → Int32) (x1 : Int32) (x3 : Int32) (x4 : Int32), wpX6_drawStep_50 post g1_underWay g1_way g1_other g1_lead g1_man g1_dog g2_ways g2_wallCount f3 f4 f5 f6 g7_size f9 n g0_drawSeed f8 x1 x3 x4 → AtW p l e rmX6_drawStep s m args below meth c dC dI A Q 5 0 0 (ceX6_drawStep cyI cyB cyJ cyZ a0 a1 a2 a3 a4 a5 a6 a7 a8 a9 b0_marks b1_steps b1_greatestAhead g1_gone g1_greatest g1_remembered g2_texts g7_lines g1_underWay g1_way g1_other g1_lead g1_man g1_dog g2_ways g2_wallCount f3 f4 f5 f6 g7_size f9 g0_drawSeed f8) [(1, .int x1), (3, .int x3), (4, .int x4)] 50 [] := by
  intro n
  induction n with
  | zero => intro g0_drawSeed f8 x1 x3 x4 hw; exact False.elim hw
  | succ n ih =>
    intro g0_drawSeed f8 x1 x3 x4 hw H locs hP hD hS ls hl
    have C1 := C0
    obtain ⟨hx, hb, hr, hml, hown, hts, hlocks⟩ := C1
    refine lv_iload hx hb dX6_drawStep_50 (lv_at hl 2 rfl) ?_
    refine lv_iconst (v := 3) hx hb dX6_drawStep_52 (by decide) ?_
    refine lv_icmp_gt (tgt := 84) hx hb dX6_drawStep_53 (by decide) (fun hc => ?_) (fun hc => ?_)
    · have hw := hw.1 hc
      refine lv_iconst (v := (-1)) hx hb dX6_drawStep_84 (by decide) ?_
      rw [hQ]
      exact W.iret (v := (-1)) hx hb hr (fun t ht hW => ⟨⟨(-1), (g0_drawSeed, f8), rfl, hw, by rw [ht]; exact hP, va_K.moved hW.alike hK, hD⟩, hS.F ht⟩) hS.2.2 dX6_drawStep_85
    · have hw := hw.2 hc
      refine lv_iload_n hx hb dX6_drawStep_56 rfl (lv_at hl 0 rfl) ?_
      refine lv_iload hx hb dX6_drawStep_57 (lv_at hl 2 rfl) ?_
      refine lv_ishr hx hb dX6_drawStep_59 ?_
      refine lv_iconst (v := 1) hx hb dX6_drawStep_60 (by decide) ?_
      refine lv_iand hx hb dX6_drawStep_61 ?_
      refine lv_if_ne (tgt := 68) hx hb dX6_drawStep_62 (by decide) (fun hc => ?_) (fun hc => ?_)
      · have hw := hw.1 hc
        refine lv_iload_n hx hb dX6_drawStep_68 rfl (lv_at hl 1 rfl) ?_
        refine lv_if_ne (tgt := 75) hx hb dX6_drawStep_69 (by decide) (fun hc => ?_) (fun hc => ?_)
        · have hw := hw.1 hc
          obtain ⟨v1, ev1⟩ : ∃ y : Int32, y = x3 + (-1) := ⟨_, rfl⟩
          have hw := hw v1 ev1
          refine lv_iinc (v := v1) (lv' := [(3, .int v1), (1, .int x1), (4, .int x4)]) hx hb dX6_drawStep_75 hl (k := 1) rfl (by rw [ev1]; rfl) (by decide) rfl (fun ls hl => ?_)
          exact bX6_drawStep_78 C0 hK hN hA hQ ih g0_drawSeed f8 x1 v1 x4 hw _ _ hP hD hS ls (lv_sub hl [1, 0, 2] rfl)
        · have hw := hw.2 hc
          refine lv_iload hx hb dX6_drawStep_72 (lv_at hl 2 rfl) ?_
          rw [hQ]
          exact W.iret (v := x4) hx hb hr (fun t ht hW => ⟨⟨x4, (g0_drawSeed, f8), rfl, hw, by rw [ht]; exact hP, va_K.moved hW.alike hK, hD⟩, hS.F ht⟩) hS.2.2 dX6_drawStep_74
      · have hw := hw.2 hc
        refine lv_goto (tgt := 78) hx hb dX6_drawStep_65 (by decide) ?_
        exact bX6_drawStep_78 C0 hK hN hA hQ ih g0_drawSeed f8 x1 x3 x4 hw _ _ hP hD hS ls (lv_sub hl [0, 1, 2] rfl)
set_option maxRecDepth 100000 in
set_option maxHeartbeats 4000000 in
theorem bX6_drawStep_28 {p : Program} {l : Launch} {e : Env} {s : State} {m : MethodId} {args : Array Value} {below : List Frame} {meth : Method} {c : Code} {dC : Nat → ClassId} {dI : Nat → Nat → Nat} {cyI cyB cyJ cyZ : ClassId} {A : Nat → Prop} {a0 a1 a2 a3 a4 a5 a6 a7 a8 a9 b0_marks b1_steps b1_greatestAhead : Nat} {g1_gone : Int32} {g1_greatest : Int32} {g1_remembered : Int32} {g2_texts : Int32} {g7_lines : Int32} (C0 : cxM p s m meth c args wsX6_drawStep RX6 cX6_drawStep 5 (some .int)) (hK : va_K (dC, dI) vwCl (tyA cyI cyB cyJ cyZ) s) (hN : nwA s) (hA : ∀ q : Nat, s.heap.size ≤ q → A q) {post : Int32 → (Int32 × (Nat → Int32)) → Prop} {g1_underWay : Int32} {g1_way : Int32} {g1_other : Int32} {g1_lead : Int32} {g1_man : Int32} {g1_dog : Int32} {g2_ways : Int32} {g2_wallCount : Int32} {f3 : Nat → Int32} {f4 : Nat → Int32} {f5 : Nat → Int32} {f6 : Nat → Int32} {g7_size : Int32} {f9 : Nat → Int32} {k6 : Int32 → (Nat → Int32) → Int32 → Int32 → Int32 → Prop} {Q : State → Prop} (hQ : Q = MQ below (va_Qi post (fun u : Int32 × (Nat → Int32) => wAt dC dI cyI cyB cyJ cyZ A (ceX6_drawStep cyI cyB cyJ cyZ a0 a1 a2 a3 a4 a5 a6 a7 a8 a9 b0_marks b1_steps b1_greatestAhead g1_gone g1_greatest g1_remembered g2_texts g7_lines g1_underWay g1_way g1_other g1_lead g1_man g1_dog g2_ways g2_wallCount f3 f4 f5 f6 g7_size f9 u.1 u.2)) A) args s 0 0 A) (hk6 : ∀ (g0_drawSeed : Int32) (f8 : Nat → Int32) (x1 : Int32) (x2 : Int32) (x3 : Int32), k6 g0_drawSeed f8 x1 x2 x3 → AtW p l e rmX6_drawStep s m args below meth c dC dI A Q 5 0 0 (ceX6_drawStep cyI cyB cyJ cyZ a0 a1 a2 a3 a4 a5 a6 a7 a8 a9 b0_marks b1_steps b1_greatestAhead g1_gone g1_greatest g1_remembered g2_texts g7_lines g1_underWay g1_way g1_other g1_lead g1_man g1_dog g2_ways g2_wallCount f3 f4 f5 f6 g7_size f9 g0_drawSeed f8) [(0, .ref a0), (1, .int x1), (2, .int x2), (3, .int x3)] 6 []) : ∀ (g0_drawSeed : Int32) (f8 : Nat → Int32) (x1 : Int32) (x2 : Int32) (x3 : Int32), wpX6_drawStep_28 k6 post g1_underWay g1_way g1_other g1_lead g1_man g1_dog g2_ways g2_wallCount f3 f4 f5 f6 g7_size f9 g0_drawSeed f8 x1 x2 x3 → AtW p l e rmX6_drawStep s m args below meth c dC dI A Q 5 0 0 (ceX6_drawStep cyI cyB cyJ cyZ a0 a1 a2 a3 a4 a5 a6 a7 a8 a9 b0_marks b1_steps b1_greatestAhead g1_gone g1_greatest g1_remembered g2_texts g7_lines g1_underWay g1_way g1_other g1_lead g1_man g1_dog g2_ways g2_wallCount f3 f4 f5 f6 g7_size f9 g0_drawSeed f8) [(0, .ref a0), (1, .int x1), (2, .int x2), (3, .int x3)] 28 [] := by
  intro g0_drawSeed f8 x1 x2 x3 hw H locs hP hD hS ls hl
  have C1 := C0
  obtain ⟨hx, hb, hr, hml, hown, hts, hlocks⟩ := C1
  obtain ⟨v1, ev1⟩ : ∃ y : Int32, y = x3 + 1 := ⟨_, rfl⟩
  have hw := hw v1 ev1
  refine lv_iinc (v := v1) (lv' := [(3, .int v1), (0, .ref a0), (1, .int x1), (2, .int x2)]) hx hb dX6_drawStep_28 hl (k := 3) rfl (by rw [ev1]; rfl) (by decide) rfl (fun ls hl => ?_)
  refine lv_goto (tgt := 6) hx hb dX6_drawStep_31 (by decide) ?_
  exact hk6 g0_drawSeed f8 x1 x2 v1 hw H locs hP hD hS ls (lv_sub hl [1, 2, 3, 0] rfl)
set_option maxRecDepth 100000 in
set_option maxHeartbeats 4000000 in
theorem bX6_drawStep_6 {p : Program} {l : Launch} {e : Env} {s : State} {m : MethodId} {args : Array Value} {below : List Frame} {meth : Method} {c : Code} {dC : Nat → ClassId} {dI : Nat → Nat → Nat} {cyI cyB cyJ cyZ : ClassId} {A : Nat → Prop} {a0 a1 a2 a3 a4 a5 a6 a7 a8 a9 b0_marks b1_steps b1_greatestAhead : Nat} {g1_gone : Int32} {g1_greatest : Int32} {g1_remembered : Int32} {g2_texts : Int32} {g7_lines : Int32} (C0 : cxM p s m meth c args wsX6_drawStep RX6 cX6_drawStep 5 (some .int)) (hK : va_K (dC, dI) vwCl (tyA cyI cyB cyJ cyZ) s) (hN : nwA s) (hA : ∀ q : Nat, s.heap.size ≤ q → A q) {post : Int32 → (Int32 × (Nat → Int32)) → Prop} {g1_underWay : Int32} {g1_way : Int32} {g1_other : Int32} {g1_lead : Int32} {g1_man : Int32} {g1_dog : Int32} {g2_ways : Int32} {g2_wallCount : Int32} {f3 : Nat → Int32} {f4 : Nat → Int32} {f5 : Nat → Int32} {f6 : Nat → Int32} {g7_size : Int32} {f9 : Nat → Int32} {Q : State → Prop} (hQ : Q = MQ below (va_Qi post (fun u : Int32 × (Nat → Int32) => wAt dC dI cyI cyB cyJ cyZ A (ceX6_drawStep cyI cyB cyJ cyZ a0 a1 a2 a3 a4 a5 a6 a7 a8 a9 b0_marks b1_steps b1_greatestAhead g1_gone g1_greatest g1_remembered g2_texts g7_lines g1_underWay g1_way g1_other g1_lead g1_man g1_dog g2_ways g2_wallCount f3 f4 f5 f6 g7_size f9 u.1 u.2)) A) args s 0 0 A) : ∀ (n : Nat) (g0_drawSeed : Int32) (f8 : Nat → Int32) (x1 : Int32) (x2 : Int32) (x3 : Int32), wpX6_drawStep_6 post g1_underWay g1_way g1_other g1_lead g1_man g1_dog g2_ways g2_wallCount f3 f4 f5 f6 g7_size f9 n g0_drawSeed f8 x1 x2 x3 → AtW p l e rmX6_drawStep s m args below meth c dC dI A Q 5 0 0 (ceX6_drawStep cyI cyB cyJ cyZ a0 a1 a2 a3 a4 a5 a6 a7 a8 a9 b0_marks b1_steps b1_greatestAhead g1_gone g1_greatest g1_remembered g2_texts g7_lines g1_underWay g1_way g1_other g1_lead g1_man g1_dog g2_ways g2_wallCount f3 f4 f5 f6 g7_size f9 g0_drawSeed f8) [(0, .ref a0), (1, .int x1), (2, .int x2), (3, .int x3)] 6 [] := by
  intro n
  induction n with
  | zero => intro g0_drawSeed f8 x1 x2 x3 hw; exact False.elim hw
  | succ n ih =>
    intro g0_drawSeed f8 x1 x2 x3 hw H locs hP hD hS ls hl
    have C1 := C0
    obtain ⟨hx, hb, hr, hml, hown, hts, hlocks⟩ := C1
    refine lv_iload_n hx hb dX6_drawStep_6 rfl (lv_at hl 3 rfl) ?_
    refine lv_iconst (v := 3) hx hb dX6_drawStep_7 (by decide) ?_
    refine lv_icmp_gt (tgt := 34) hx hb dX6_drawStep_8 (by decide) (fun hc => ?_) (fun hc => ?_)
    · have hw := hw.1 hc
      refine lv_iload_n hx hb dX6_drawStep_34 rfl (lv_at hl 2 rfl) ?_
      refine lv_if_ne (tgt := 40) hx hb dX6_drawStep_35 (by decide) (fun hc => ?_) (fun hc => ?_)
      · have hw := hw.1 hc
        refine lv_aload_n hx hb dX6_drawStep_40 rfl (lv_at hl 0 rfl) ?_
        have hPc := hP.sub (ws' := (ceX6_nextDraw cyI cyB cyJ cyZ a0 a2 a7 b0_marks a1 g0_drawSeed)) [0] rfl
        have hDc := hD.sub (ws' := (ceX6_nextDraw cyI cyB cyJ cyZ a0 a2 a7 b0_marks a1 g0_drawSeed)) [0] (by decide) rfl
        have hFc := va_free (wc := (ceX6_nextDraw cyI cyB cyJ cyZ a0 a2 a7 b0_marks a1 g0_drawSeed)) hD hS hA [0] rfl
        refine va_calli (va_runV (As := []) (rest := []) ⟨hx, hb, hml, hown, hts⟩ (ctX6_nextDraw l dC dI cyI cyB cyJ cyZ _ a0 a2 a7 b0_marks a1 g0_drawSeed _ hw) (cwV 0 hts gX6_drawStep_X6_nextDraw rfl rfl rfl (by decide +kernel) ⟨Nat.le_of_ble_eq_true rfl, Nat.le_of_ble_eq_true rfl⟩) ⟨wPre_blind, va_recv hK hPc (ci := 6) (q0 := 0) rfl rfl, fun U hU hW => wPre_of hPc hK hDc hN hU hW⟩ rfl rfl hl.1 rfl (lv_room (Nat.le_of_ble_eq_true rfl)) dX6_drawStep_41 ⟨(Nat.zero_le _), (Nat.zero_le _)⟩) hS (fun q _ h => hFc q h) hFc (fun r2 u1 t H1 locs ht hvm hw hB hz1 hk1 hS => ?_)
        obtain ⟨hP1, hK1, hD1⟩ := hB
        rw [ht] at hP1
        obtain ⟨hP, hD⟩ := va_join (wr := pickW (ceX6_drawStep cyI cyB cyJ cyZ a0 a1 a2 a3 a4 a5 a6 a7 a8 a9 b0_marks b1_steps b1_greatestAhead g1_gone g1_greatest g1_remembered g2_texts g7_lines g1_underWay g1_way g1_other g1_lead g1_man g1_dog g2_ways g2_wallCount f3 f4 f5 f6 g7_size f9 g0_drawSeed f8) [1, 2, 3, 4, 5, 6, 7, 8, 9]) (w1 := (ceX6_nextDraw cyI cyB cyJ cyZ a0 a2 a7 b0_marks a1 u1)) hP hD [0] [1, 2, 3, 4, 5, 6, 7, 8, 9] rfl rfl (by decide) (by decide) hk1 hFc hP1 hD1
        have hP := hP.sub (ws' := (ceX6_drawStep cyI cyB cyJ cyZ a0 a1 a2 a3 a4 a5 a6 a7 a8 a9 b0_marks b1_steps b1_greatestAhead g1_gone g1_greatest g1_remembered g2_texts g7_lines g1_underWay g1_way g1_other g1_lead g1_man g1_dog g2_ways g2_wallCount f3 f4 f5 f6 g7_size f9 u1 f8)) [9, 0, 1, 2, 3, 4, 5, 6, 7, 8] rfl
        have hD := hD.sub (ws' := (ceX6_drawStep cyI cyB cyJ cyZ a0 a1 a2 a3 a4 a5 a6 a7 a8 a9 b0_marks b1_steps b1_greatestAhead g1_gone g1_greatest g1_remembered g2_texts g7_lines g1_underWay g1_way g1_other g1_lead g1_man g1_dog g2_ways g2_wallCount f3 f4 f5 f6 g7_size f9 u1 f8)) [9, 0, 1, 2, 3, 4, 5, 6, 7, 8] (by decide) rfl
        generalize H1 = H at hP hS ⊢
        refine lv_iload_n hx hb dX6_drawStep_44 rfl (lv_at hl 2 rfl) ?_
        obtain ⟨h0, hw⟩ := hw
        refine lv_irem hx hb dX6_drawStep_45 h0 ?_
        refine lv_topi (fun v3 ev3 => ?_)
        have hw := hw v3 ev3
        refine lv_istore_n (lv' := [(3, .int v3), (0, .ref a0), (1, .int x1), (2, .int x2)]) hx hb dX6_drawStep_46 rfl hl (by decide) rfl (fun ls hl => ?_)
        refine lv_iconst (v := 1) hx hb dX6_drawStep_47 (by decide) ?_
        refine lv_istore (lv' := [(4, .int 1), (3, .int v3), (0, .ref a0), (1, .int x1), (2, .int x2)]) hx hb dX6_drawStep_48 hl (by decide) rfl (fun ls hl => ?_)
        obtain ⟨nn, hw⟩ := hw
        exact bX6_drawStep_50 C0 hK hN hA hQ nn u1 f8 x1 v3 1 hw _ _ hP hD hS ls (lv_sub hl [3, 1, 0] rfl)
      · have hw := hw.2 hc
        refine lv_iconst (v := (-1)) hx hb dX6_drawStep_38 (by decide) ?_
        rw [hQ]
        exact W.iret (v := (-1)) hx hb hr (fun t ht hW => ⟨⟨(-1), (g0_drawSeed, f8), rfl, hw, by rw [ht]; exact hP, va_K.moved hW.alike hK, hD⟩, hS.F ht⟩) hS.2.2 dX6_drawStep_39
    · have hw := hw.2 hc
      refine lv_aload_n hx hb dX6_drawStep_11 rfl (lv_at hl 0 rfl) ?_
      refine lv_iload_n hx hb dX6_drawStep_12 rfl (lv_at hl 3 rfl) ?_
      have hPc := hP.sub (ws' := (ceX6_canGo cyI cyB cyJ cyZ a0 a1 a2 a3 a4 a5 a6 a7 a8 a9 b0_marks b1_steps b1_greatestAhead g0_drawSeed g1_gone g1_greatest g1_remembered g2_texts g7_lines g1_underWay g1_way g1_other g1_lead g1_man g1_dog g2_ways g2_wallCount f3 f4 f5 f6 g7_size f9 f8)) [0, 1, 2, 3, 4, 5, 6, 7, 8, 9] rfl
      have hDc := hD.sub (ws' := (ceX6_canGo cyI cyB cyJ cyZ a0 a1 a2 a3 a4 a5 a6 a7 a8 a9 b0_marks b1_steps b1_greatestAhead g0_drawSeed g1_gone g1_greatest g1_remembered g2_texts g7_lines g1_underWay g1_way g1_other g1_lead g1_man g1_dog g2_ways g2_wallCount f3 f4 f5 f6 g7_size f9 f8)) [0, 1, 2, 3, 4, 5, 6, 7, 8, 9] (by decide) rfl
      have hFc := va_free (wc := (ceX6_canGo cyI cyB cyJ cyZ a0 a1 a2 a3 a4 a5 a6 a7 a8 a9 b0_marks b1_steps b1_greatestAhead g0_drawSeed g1_gone g1_greatest g1_remembered g2_texts g7_lines g1_underWay g1_way g1_other g1_lead g1_man g1_dog g2_ways g2_wallCount f3 f4 f5 f6 g7_size f9 f8)) hD hS hA [0, 1, 2, 3, 4, 5, 6, 7, 8, 9] rfl
      refine va_calli (va_runV (As := [.int x3]) (rest := []) ⟨hx, hb, hml, hown, hts⟩ (ctX6_canGo l dC dI cyI cyB cyJ cyZ _ a0 a1 a2 a3 a4 a5 a6 a7 a8 a9 b0_marks b1_steps b1_greatestAhead g0_drawSeed g1_gone g1_greatest g1_remembered g2_texts g7_lines g1_underWay g1_way g1_other g1_lead g1_man g1_dog g2_ways g2_wallCount f3 f4 f5 f6 g7_size f9 f8 x3 _ hw) (cwV 1 hts gX6_drawStep_X6_canGo rfl rfl rfl (by decide +kernel) ⟨Nat.le_of_ble_eq_true rfl, Nat.le_of_ble_eq_true rfl⟩) ⟨wPre_blind, va_recv hK hPc (ci := 6) (q0 := 0) rfl rfl, fun U hU hW => wPre_of hPc hK hDc hN hU hW⟩ rfl rfl hl.1 rfl (lv_room (Nat.le_of_ble_eq_true rfl)) dX6_drawStep_13 ⟨(Nat.zero_le _), (Nat.zero_le _)⟩) hS (fun q _ h => hFc q h) hFc (fun r5 u4 t H1 locs ht hvm hw hB hz1 hk1 hS => ?_)
      obtain ⟨hP1, hK1, hD1⟩ := hB
      rw [ht] at hP1
      obtain ⟨hP, hD⟩ := va_join (wr := pickW (ceX6_drawStep cyI cyB cyJ cyZ a0 a1 a2 a3 a4 a5 a6 a7 a8 a9 b0_marks b1_steps b1_greatestAhead g1_gone g1_greatest g1_remembered g2_texts g7_lines g1_underWay g1_way g1_other g1_lead g1_man g1_dog g2_ways g2_wallCount f3 f4 f5 f6 g7_size f9 g0_drawSeed f8) []) (w1 := (ceX6_canGo cyI cyB cyJ cyZ a0 a1 a2 a3 a4 a5 a6 a7 a8 a9 b0_marks b1_steps b1_greatestAhead g0_drawSeed g1_gone g1_greatest g1_remembered g2_texts g7_lines g1_underWay g1_way g1_other g1_lead g1_man g1_dog g2_ways g2_wallCount f3 f4 f5 f6 g7_size f9 u4)) hP hD [0, 1, 2, 3, 4, 5, 6, 7, 8, 9] [] rfl rfl (by decide) (by decide) hk1 hFc hP1 hD1
      have hP := hP.sub (ws' := (ceX6_drawStep cyI cyB cyJ cyZ a0 a1 a2 a3 a4 a5 a6 a7 a8 a9 b0_marks b1_steps b1_greatestAhead g1_gone g1_greatest g1_remembered g2_texts g7_lines g1_underWay g1_way g1_other g1_lead g1_man g1_dog g2_ways g2_wallCount f3 f4 f5 f6 g7_size f9 g0_drawSeed u4)) [0, 1, 2, 3, 4, 5, 6, 7, 8, 9] rfl
      have hD := hD.sub (ws' := (ceX6_drawStep cyI cyB cyJ cyZ a0 a1 a2 a3 a4 a5 a6 a7 a8 a9 b0_marks b1_steps b1_greatestAhead g1_gone g1_greatest g1_remembered g2_texts g7_lines g1_underWay g1_way g1_other g1_lead g1_man g1_dog g2_ways g2_wallCount f3 f4 f5 f6 g7_size f9 g0_drawSeed u4)) [0, 1, 2, 3, 4, 5, 6, 7, 8, 9] (by decide) rfl
      generalize H1 = H at hP hS ⊢
      refine lv_if_eq (tgt := 28) hx hb dX6_drawStep_16 (by decide) (fun hc => ?_) (fun hc => ?_)
      · have hw := hw.1 hc
        exact bX6_drawStep_28 C0 hK hN hA hQ ih g0_drawSeed u4 x1 x2 x3 hw _ _ hP hD hS ls (lv_sub hl [0, 1, 2, 3] rfl)
      · have hw := hw.2 hc
        refine lv_iload_n hx hb dX6_drawStep_19 rfl (lv_at hl 1 rfl) ?_
        refine lv_iconst (v := 1) hx hb dX6_drawStep_20 (by decide) ?_
        refine lv_iload_n hx hb dX6_drawStep_21 rfl (lv_at hl 3 rfl) ?_
        refine lv_ishl hx hb dX6_drawStep_22 ?_
        refine lv_ior hx hb dX6_drawStep_23 ?_
        refine lv_topi (fun v6 ev6 => ?_)
        have hw := hw v6 ev6
        refine lv_istore_n (lv' := [(1, .int v6), (0, .ref a0), (2, .int x2), (3, .int x3)]) hx hb dX6_drawStep_24 rfl hl (by decide) rfl (fun ls hl => ?_)
        obtain ⟨v7, ev7⟩ : ∃ y : Int32, y = x2 + 1 := ⟨_, rfl⟩
        have hw := hw v7 ev7
        refine lv_iinc (v := v7) (lv' := [(2, .int v7), (1, .int v6), (0, .ref a0), (3, .int x3)]) hx hb dX6_drawStep_25 hl (k := 2) rfl (by rw [ev7]; rfl) (by decide) rfl (fun ls hl => ?_)
        exact bX6_drawStep_28 C0 hK hN hA hQ ih g0_drawSeed u4 v6 v7 x3 hw _ _ hP hD hS ls (lv_sub hl [2, 1, 0, 3] rfl)
set_option maxRecDepth 100000 in
set_option maxHeartbeats 4000000 in
theorem ctX6_drawStep (l : Launch) (dC : Nat → ClassId) (dI : Nat → Nat → Nat) (cyI cyB cyJ cyZ : ClassId) (sz : Nat) (a0 a1 a2 a3 a4 a5 a6 a7 a8 a9 b0_marks b1_steps b1_greatestAhead : Nat) (g1_gone : Int32) (g1_greatest : Int32) (g1_remembered : Int32) (g2_texts : Int32) (g7_lines : Int32) (g1_underWay : Int32) (g1_way : Int32) (g1_other : Int32) (g1_lead : Int32) (g1_man : Int32) (g1_dog : Int32) (g2_ways : Int32) (g2_wallCount : Int32) (f3 : Nat → Int32) (f4 : Nat → Int32) (f5 : Nat → Int32) (f6 : Nat → Int32) (g7_size : Int32) (f9 : Nat → Int32) (g0_drawSeed : Int32) (f8 : Nat → Int32) (post : Int32 → (Int32 × (Nat → Int32)) → Prop) (hw : wpX6_drawStep post g1_underWay g1_way g1_other g1_lead g1_man g1_dog g2_ways g2_wallCount f3 f4 f5 f6 g7_size f9 g0_drawSeed f8 ) : Met l yX6_drawStep wsX6_drawStep rmX6_drawStep (va_Pc [.ref a0] (wPre dC dI cyI cyB cyJ cyZ sz (ceX6_drawStep cyI cyB cyJ cyZ a0 a1 a2 a3 a4 a5 a6 a7 a8 a9 b0_marks b1_steps b1_greatestAhead g1_gone g1_greatest g1_remembered g2_texts g7_lines g1_underWay g1_way g1_other g1_lead g1_man g1_dog g2_ways g2_wallCount f3 f4 f5 f6 g7_size f9 g0_drawSeed f8))) (va_Qi post (fun u : Int32 × (Nat → Int32) => wAt dC dI cyI cyB cyJ cyZ (va_A (ceX6_drawStep cyI cyB cyJ cyZ a0 a1 a2 a3 a4 a5 a6 a7 a8 a9 b0_marks b1_steps b1_greatestAhead g1_gone g1_greatest g1_remembered g2_texts g7_lines g1_underWay g1_way g1_other g1_lead g1_man g1_dog g2_ways g2_wallCount f3 f4 f5 f6 g7_size f9 g0_drawSeed f8) sz) (ceX6_drawStep cyI cyB cyJ cyZ a0 a1 a2 a3 a4 a5 a6 a7 a8 a9 b0_marks b1_steps b1_greatestAhead g1_gone g1_greatest g1_remembered g2_texts g7_lines g1_underWay g1_way g1_other g1_lead g1_man g1_dog g2_ways g2_wallCount f3 f4 f5 f6 g7_size f9 u.1 u.2)) (va_A (ceX6_drawStep cyI cyB cyJ cyZ a0 a1 a2 a3 a4 a5 a6 a7 a8 a9 b0_marks b1_steps b1_greatestAhead g1_gone g1_greatest g1_remembered g2_texts g7_lines g1_underWay g1_way g1_other g1_lead g1_man g1_dog g2_ways g2_wallCount f3 f4 f5 f6 g7_size f9 g0_drawSeed f8) sz)) 0 0 (va_A (ceX6_drawStep cyI cyB cyJ cyZ a0 a1 a2 a3 a4 a5 a6 a7 a8 a9 b0_marks b1_steps b1_greatestAhead g1_gone g1_greatest g1_remembered g2_texts g7_lines g1_underWay g1_way g1_other g1_lead g1_man g1_dog g2_ways g2_wallCount f3 f4 f5 f6 g7_size f9 g0_drawSeed f8) sz) := by
  refine Met.ofW (cc := cX6_drawStep) (maxL := 5) (ret := (some .int)) (by decide) rfl ?_
  intro p e s m args below meth c s₁ B hml hv
  obtain ⟨rfl, hsz, hP, hK, hD0, hN⟩ := hv
  have hx := B.exec
  have hb := B.bytes
  have hr := B.returns
  have hts := atoms_spec (ws := wsX6_drawStep) B.pre
  have hown : s.vm.findClass RX6 = some m.cls := findClass_of_methodNamed B.named
  have hlocks := B.notSynchronized
  subst hsz
  have hD := hD0.self (sz := s.heap.size)
  generalize hAe : va_A (ceX6_drawStep cyI cyB cyJ cyZ a0 a1 a2 a3 a4 a5 a6 a7 a8 a9 b0_marks b1_steps b1_greatestAhead g1_gone g1_greatest g1_remembered g2_texts g7_lines g1_underWay g1_way g1_other g1_lead g1_man g1_dog g2_ways g2_wallCount f3 f4 f5 f6 g7_size f9 g0_drawSeed f8) s.heap.size = A at hD ⊢
  have hA : ∀ q : Nat, s.heap.size ≤ q → A q := fun q h => by rw [← hAe]; exact Or.inr h
  have hS : va_S A s.heap s.heap [] := va_S.rf
  have C0 : cxM p s m meth c _ wsX6_drawStep RX6 cX6_drawStep 5 (some .int) := ⟨hx, hb, hr, hml, hown, hts, hlocks⟩
  have hl := lv_entry ([.ref a0]) (n := 5) (Nat.le_of_ble_eq_true rfl)
  rw [lg_entry_eq]
  generalize (lg_sl ([.ref a0]) ++ List.replicate (5 - (lg_sl ([.ref a0])).length) Slot.unset).toArray = ls at hl ⊢
  have hl : lv_has ls 5 [(0, .ref a0)] := hl
  show W p l e rmX6_drawStep s m _ below meth c _ _ _ _ _ _
  refine wq (fun Q hQ => ?_)
  refine lv_iconst (v := 0) hx hb dX6_drawStep_0 (by decide) ?_
  refine lv_istore_n (lv' := [(1, .int 0), (0, .ref a0)]) hx hb dX6_drawStep_1 rfl hl (by decide) rfl (fun ls hl => ?_)
  refine lv_iconst (v := 0) hx hb dX6_drawStep_2 (by decide) ?_
  refine lv_istore_n (lv' := [(2, .int 0), (1, .int 0), (0, .ref a0)]) hx hb dX6_drawStep_3 rfl hl (by decide) rfl (fun ls hl => ?_)
  refine lv_iconst (v := 1) hx hb dX6_drawStep_4 (by decide) ?_
  refine lv_istore_n (lv' := [(3, .int 1), (2, .int 0), (1, .int 0), (0, .ref a0)]) hx hb dX6_drawStep_5 rfl hl (by decide) rfl (fun ls hl => ?_)
  obtain ⟨nn, hw⟩ := hw
  exact bX6_drawStep_6 C0 hK hN hA hQ nn g0_drawSeed f8 0 0 1 hw _ _ hP hD hS ls (lv_sub hl [3, 2, 1, 0] rfl)
