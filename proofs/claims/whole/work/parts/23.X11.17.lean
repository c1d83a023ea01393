/-! LeadParkModel.nearestOf (II)I -/
abbrev ceX11_nearestOf (cyI cyB cyJ cyZ : ClassId) (a0 a1 a2 a3 a4 b0_image b0_before b0_taken b0_tape b0_five b0_walk b0_ends b0_manX b0_manY b0_dogX b0_dogY b0_row b0_round b0_farOne b0_leads b0_drags b0_from b0_near : Nat) (g0_thrown : Int32) (g0_hasImage : Int32) (g0_remembered : Int32) (g0_taped : Int32) (g0_point : Int32) (g0_end : Int32) (g0_begin : Int32) (g0_deep : Int32) (g0_faultAt : Int32) (g0_steps : Int32) (f1 : Nat → Int32) (g0_men : Int32) (g0_dogs : Int32) (f2 : Nat → Int32) (f3 : Nat → Int32) (f4 : Nat → Int32) : va_W := [(a0, .inr (11, [.int g0_thrown, .ref a1, .ref b0_image, .ref b0_before, .int g0_hasImage, .ref b0_taken, .int g0_remembered, .ref b0_tape, .int g0_taped, .int g0_point, .int g0_end, .int g0_begin, .int g0_deep, .int g0_faultAt, .ref b0_five, .int g0_steps, .ref a2, .ref a3, .int g0_men, .int g0_dogs, .ref a4, .ref b0_walk, .ref b0_ends, .ref b0_manX, .ref b0_manY, .ref b0_dogX, .ref b0_dogY, .ref b0_row, .ref b0_round, .ref b0_farOne, .ref b0_leads, .ref b0_drags, .ref b0_from, .ref b0_near])), (a1, .inl (cyI, 2508, .inl f1)), (a2, .inl (cyI, 400, .inl f2)), (a3, .inl (cyI, 900, .inl f3)), (a4, .inl (cyI, 900, .inl f4))]

abbrev rmX11_nearestOf : Room := { frames := 7, cells := 0, slots := 0, locals := 188 }
set_option maxRecDepth 100000 in
set_option maxHeartbeats 4000000 in
theorem bX11_nearestOf_66 {p : Program} {l : Launch} {e : Env} {s : State} {m : MethodId} {args : Array Value} {below : List Frame} {meth : Method} {c : Code} {dC : Nat → ClassId} {dI : Nat → Nat → Nat} {cyI cyB cyJ cyZ : ClassId} {A : Nat → Prop} {a0 a1 a2 a3 a4 b0_image b0_before b0_taken b0_tape b0_five b0_walk b0_ends b0_manX b0_manY b0_dogX b0_dogY b0_row b0_round b0_farOne b0_leads b0_drags b0_from b0_near : Nat} {g0_thrown : Int32} {g0_hasImage : Int32} {g0_remembered : Int32} {g0_taped : Int32} {g0_point : Int32} {g0_end : Int32} {g0_begin : Int32} {g0_deep : Int32} {g0_faultAt : Int32} {g0_steps : Int32} (C0 : cxM p s m meth c args wsX11_nearestOf RX11 cX11_nearestOf 7 (some .int)) (hK : va_K (dC, dI) vwCl (tyA cyI cyB cyJ cyZ) s) (hN : nwA s) (hA : ∀ q : Nat, s.heap.size ≤ q → A q) {post : Int32 → (Int32 × Int32 × (Nat → Int32) × (Nat → Int32) × (Nat → Int32)) → Prop} {f1 : Nat → Int32} {k10 : Int32 → Int32 → (Nat → Int32) → (Nat → Int32) → (Nat → Int32) → Int32 → Int32 → Int32 → Int32 → Int32 → Prop} {Q : State → Prop} (hQ : Q = MQ below (va_Qi post (fun u : Int32 × Int32 × (Nat → Int32) × (Nat → Int32) × (Nat → Int32) => wAt dC dI cyI cyB cyJ cyZ A (ceX11_nearestOf cyI cyB cyJ cyZ a0 a1 a2 a3 a4 b0_image b0_before b0_taken b0_tape b0_five b0_walk b0_ends b0_manX b0_manY b0_dogX b0_dogY b0_row b0_round b0_farOne b0_leads b0_drags b0_from b0_near g0_thrown g0_hasImage g0_remembered g0_taped g0_point g0_end g0_begin g0_deep g0_faultAt g0_steps f1 u.1 u.2.1 u.2.2.1 u.2.2.2.1 u.2.2.2.2)) A) args s 0 0 A) (hk10 : ∀ (g0_men : Int32) (g0_dogs : Int32) (f2 : Nat → Int32) (f3 : Nat → Int32) (f4 : Nat → Int32) (x1 : Int32) (x2 : Int32) (x3 : Int32) (x4 : Int32) (x5 : Int32), k10 g0_men g0_dogs f2 f3 f4 x1 x2 x3 x4 x5 → AtW p l e rmX11_nearestOf s m args below meth c dC dI A Q 7 0 0 (ceX11_nearestOf cyI cyB cyJ cyZ a0 a1 a2 a3 a4 b0_image b0_before b0_taken b0_tape b0_five b0_walk b0_ends b0_manX b0_manY b0_dogX b0_dogY b0_row b0_round b0_farOne b0_leads b0_drags b0_from b0_near g0_thrown g0_hasImage g0_remembered g0_taped g0_point g0_end g0_begin g0_deep g0_faultAt g0_steps f1 g0_men g0_dogs f2 f3 f4) [(0, .ref a0), (1, .int x1), (2, .int x2), (3, .int x3), (4, .int x4), (5, .int x5)] 10 []) : ∀ (g0_men : Int32) (g0_dogs : Int32) (f2 : Nat → Int32) (f3 : Nat → Int32) (f4 : Nat → Int32) (x1 : Int32) (x2 : Int32) (x3 : Int32) (x4 : Int32) (x5 : Int32), wpX11_nearestOf_66 k10 post f1 g0_men g0_dogs f2 f3 f4 x1 x2 x3 x4 x5 → AtW p l e rmX11_nearestOf s m args below meth c dC dI A Q 7 0 0 (ceX11_nearestOf cyI cyB cyJ cyZ a0 a1 a2 a3 a4 b0_image b0_before b0_taken b0_tape b0_five b0_walk b0_ends b0_manX b0_manY b0_dogX b0_dogY b0_row b0_round b0_farOne b0_leads b0_drags b0_from b0_near g0_thrown g0_hasImage g0_remembered g0_taped g0_point g0_end g0_begin g0_deep g0_faultAt g0_steps f1 g0_men g0_dogs f2 f3 f4) [(0, .ref a0), (1, .int x1), (2, .int x2), (3, .int x3), (4, .int x4), (5, .int x5)] 66 [] := by
  intro g0_men g0_dogs f2 f3 f4 x1 x2 x3 x4 x5 hw H locs hP hD hS ls hl
  have C1 := C0
  obtain ⟨hx, hb, hr, hml, hown, hts, hlocks⟩ := C1
  obtain ⟨v1, ev1⟩ : ∃ y : Int32, y = x5 + 1 := ⟨_, rfl⟩
  have hw := hw v1 ev1
  refine lv_iinc (v := v1) (lv' := [(5, .int v1), (0, .ref a0), (1, .int x1), (2, .int x2), (3, .int x3), (4, .int x4)]) hx hb dX11_nearestOf_66 hl (k := 5) rfl (by rw [ev1]; rfl) (by decide) rfl (fun ls hl => ?_)
  refine lv_goto (tgt := 10) hx hb dX11_nearestOf_69 (by decide) ?_
  exact hk10 g0_men g0_dogs f2 f3 f4 x1 x2 x3 x4 v1 hw H locs hP hD hS ls (lv_sub hl [1, 2, 3, 4, 5, 0] rfl)
set_option maxRecDepth 100000 in
set_option maxHeartbeats 4000000 in
theorem bX11_nearestOf_47 {p : Program} {l : Launch} {e : Env} {s : State} {m : MethodId} {args : Array Value} {below : List Frame} {meth : Method} {c : Code} {dC : Nat → ClassId} {dI : Nat → Nat → Nat} {cyI cyB cyJ cyZ : ClassId} {A : Nat → Prop} {a0 a1 a2 a3 a4 b0_image b0_before b0_taken b0_tape b0_five b0_walk b0_ends b0_manX b0_manY b0_dogX b0_dogY b0_row b0_round b0_farOne b0_leads b0_drags b0_from b0_near : Nat} {g0_thrown : Int32} {g0_hasImage : Int32} {g0_remembered : Int32} {g0_taped : Int32} {g0_point : Int32} {g0_end : Int32} {g0_begin : Int32} {g0_deep : Int32} {g0_faultAt : Int32} {g0_steps : Int32} (C0 : cxM p s m meth c args wsX11_nearestOf RX11 cX11_nearestOf 7 (some .int)) (hK : va_K (dC, dI) vwCl (tyA cyI cyB cyJ cyZ) s) (hN : nwA s) (hA : ∀ q : Nat, s.heap.size ≤ q → A q) {post : Int32 → (Int32 × Int32 × (Nat → Int32) × (Nat → Int32) × (Nat → Int32)) → Prop} {f1 : Nat → Int32} {k10 : Int32 → Int32 → (Nat → Int32) → (Nat → Int32) → (Nat → Int32) → Int32 → Int32 → Int32 → Int32 → Int32 → Prop} {Q : State → Prop} (hQ : Q = MQ below (va_Qi post (fun u : Int32 × Int32 × (Nat → Int32) × (Nat → Int32) × (Nat → Int32) => wAt dC dI cyI cyB cyJ cyZ A (ceX11_nearestOf cyI cyB cyJ cyZ a0 a1 a2 a3 a4 b0_image b0_before b0_taken b0_tape b0_five b0_walk b0_ends b0_manX b0_manY b0_dogX b0_dogY b0_row b0_round b0_farOne b0_leads b0_drags b0_from b0_near g0_thrown g0_hasImage g0_remembered g0_taped g0_point g0_end g0_begin g0_deep g0_faultAt g0_steps f1 u.1 u.2.1 u.2.2.1 u.2.2.2.1 u.2.2.2.2)) A) args s 0 0 A) (hk10 : ∀ (g0_men : Int32) (g0_dogs : Int32) (f2 : Nat → Int32) (f3 : Nat → Int32) (f4 : Nat → Int32) (x1 : Int32) (x2 : Int32) (x3 : Int32) (x4 : Int32) (x5 : Int32), k10 g0_men g0_dogs f2 f3 f4 x1 x2 x3 x4 x5 → AtW p l e rmX11_nearestOf s m args below meth c dC dI A Q 7 0 0 (ceX11_nearestOf cyI cyB cyJ cyZ a0 a1 a2 a3 a4 b0_image b0_before b0_taken b0_tape b0_five b0_walk b0_ends b0_manX b0_manY b0_dogX b0_dogY b0_row b0_round b0_farOne b0_leads b0_drags b0_from b0_near g0_thrown g0_hasImage g0_remembered g0_taped g0_point g0_end g0_begin g0_deep g0_faultAt g0_steps f1 g0_men g0_dogs f2 f3 f4) [(0, .ref a0), (1, .int x1), (2, .int x2), (3, .int x3), (4, .int x4), (5, .int x5)] 10 []) : ∀ (g0_men : Int32) (g0_dogs : Int32) (f2 : Nat → Int32) (f3 : Nat → Int32) (f4 : Nat → Int32) (x1 : Int32) (x2 : Int32) (x3 : Int32) (x4 : Int32) (x5 : Int32) (s0 : Int32), wpX11_nearestOf_47 k10 post f1 g0_men g0_dogs f2 f3 f4 x1 x2 x3 x4 x5 s0 → AtW p l e rmX11_nearestOf s m args below meth c dC dI A Q 7 0 0 (ceX11_nearestOf cyI cyB cyJ cyZ a0 a1 a2 a3 a4 b0_image b0_before b0_taken b0_tape b0_five b0_walk b0_ends b0_manX b0_manY b0_dogX b0_dogY b0_row b0_round b0_farOne b0_leads b0_drags b0_from b0_near g0_thrown g0_hasImage g0_remembered g0_taped g0_point g0_end g0_begin g0_deep g0_faultAt g0_steps f1 g0_men g0_dogs f2 f3 f4) [(0, .ref a0), (1, .int x1), (2, .int x2), (3, .int x3), (4, .int x4), (5, .int x5)] 47 [.int s0] := by
  intro g0_men g0_dogs f2 f3 f4 x1 x2 x3 x4 x5 s0 hw H locs hP hD hS ls hl
  have C1 := C0
  obtain ⟨hx, hb, hr, hml, hown, hts, hlocks⟩ := C1
  refine lv_istore (lv' := [(6, .int s0), (0, .ref a0), (1, .int x1), (2, .int x2), (3, .int x3), (4, .int x4), (5, .int x5)]) hx hb dX11_nearestOf_47 hl (by decide) rfl (fun ls hl => ?_)
  refine lv_iload hx hb dX11_nearestOf_49 (lv_at hl 0 rfl) ?_
  refine lv_iload hx hb dX11_nearestOf_51 (lv_at hl 5 rfl) ?_
  refine lv_icmp_lt (tgt := 59) hx hb dX11_nearestOf_53 (by decide) (fun hc => ?_) (fun hc => ?_)
  · have hw := hw.1 hc
    refine lv_iload hx hb dX11_nearestOf_59 (lv_at hl 6 rfl) ?_
    refine lv_istore_n (lv' := [(3, .int x5), (6, .int s0), (0, .ref a0), (1, .int x1), (2, .int x2), (4, .int x4), (5, .int x5)]) hx hb dX11_nearestOf_61 rfl hl (by decide) rfl (fun ls hl => ?_)
    refine lv_iload hx hb dX11_nearestOf_62 (lv_at hl 1 rfl) ?_
    refine lv_istore (lv' := [(4, .int s0), (3, .int x5), (6, .int s0), (0, .ref a0), (1, .int x1), (2, .int x2), (5, .int x5)]) hx hb dX11_nearestOf_64 hl (by decide) rfl (fun ls hl => ?_)
    exact bX11_nearestOf_66 C0 hK hN hA hQ hk10 g0_men g0_dogs f2 f3 f4 x1 x2 x5 s0 x5 hw _ _ hP hD hS ls (lv_sub hl [3, 4, 5, 1, 0, 6] rfl)
  · have hw := hw.2 hc
    refine lv_goto (tgt := 66) hx hb dX11_nearestOf_56 (by decide) ?_
    exact bX11_nearestOf_66 C0 hK hN hA hQ hk10 g0_men g0_dogs f2 f3 f4 x1 x2 x3 x4 x5 hw _ _ hP hD hS ls (lv_sub hl [1, 2, 3, 4, 5, 6] rfl)
set_option maxRecDepth 100000 in
set_option maxHeartbeats 4000000 in
theorem bX11_nearestOf_34 {p : Program} {l : Launch} {e : Env} {s : State} {m : MethodId} {args : Array Value} {below : List Frame} {meth : Method} {c : Code} {dC : Nat → ClassId} {dI : Nat → Nat → Nat} {cyI cyB cyJ cyZ : ClassId} {A : Nat → Prop} {a0 a1 a2 a3 a4 b0_image b0_before b0_taken b0_tape b0_five b0_walk b0_ends b0_manX b0_manY b0_dogX b0_dogY b0_row b0_round b0_farOne b0_leads b0_drags b0_from b0_near : Nat} {g0_thrown : Int32} {g0_hasImage : Int32} {g0_remembered : Int32} {g0_taped : Int32} {g0_point : Int32} {g0_end : Int32} {g0_begin : Int32} {g0_deep : Int32} {g0_faultAt : Int32} {g0_steps : Int32} (C0 : cxM p s m meth c args wsX11_nearestOf RX11 cX11_nearestOf 7 (some .int)) (hK : va_K (dC, dI) vwCl (tyA cyI cyB cyJ cyZ) s) (hN : nwA s) (hA : ∀ q : Nat, s.heap.size ≤ q → A q) {post : Int32 → (Int32 × Int32 × (Nat → Int32) × (Nat → Int32) × (Nat → Int32)) → Prop} {f1 : Nat → Int32} {k10 : Int32 → Int32 → (Nat → Int32) → (Nat → Int32) → (Nat → Int32) → Int32 → Int32 → Int32 → Int32 → Int32 → Prop} {Q : State → Prop} (hQ : Q = MQ below (va_Qi post (fun u : Int32 × Int32 × (Nat → Int32) × (Nat → Int32) × (Nat → Int32) => wAt dC dI cyI cyB cyJ cyZ A (ceX11_nearestOf cyI cyB cyJ cyZ a0 a1 a2 a3 a4 b0_image b0_before b0_taken b0_tape b0_five b0_walk b0_ends b0_manX b0_manY b0_dogX b0_dogY b0_row b0_round b0_farOne b0_leads b0_drags b0_from b0_near g0_thrown g0_hasImage g0_remembered g0_taped g0_point g0_end g0_begin g0_deep g0_faultAt g0_steps f1 u.1 u.2.1 u.2.2.1 u.2.2.2.1 u.2.2.2.2)) A) args s 0 0 A) (hk10 : ∀ (g0_men : Int32) (g0_dogs : Int32) (f2 : Nat → Int32) (f3 : Nat → Int32) (f4 : Nat → Int32) (x1 : Int32) (x2 : Int32) (x3 : Int32) (x4 : Int32) (x5 : Int32), k10 g0_men g0_dogs f2 f3 f4 x1 x2 x3 x4 x5 → AtW p l e rmX11_nearestOf s m args below meth c dC dI A Q 7 0 0 (ceX11_nearestOf cyI cyB cyJ cyZ a0 a1 a2 a3 a4 b0_image b0_before b0_taken b0_tape b0_five b0_walk b0_ends b0_manX b0_manY b0_dogX b0_dogY b0_row b0_round b0_farOne b0_leads b0_drags b0_from b0_near g0_thrown g0_hasImage g0_remembered g0_taped g0_point g0_end g0_begin g0_deep g0_faultAt g0_steps f1 g0_men g0_dogs f2 f3 f4) [(0, .ref a0), (1, .int x1), (2, .int x2), (3, .int x3), (4, .int x4), (5, .int x5)] 10 []) : ∀ (g0_men : Int32) (g0_dogs : Int32) (f2 : Nat → Int32) (f3 : Nat → Int32) (f4 : Nat → Int32) (x1 : Int32) (x2 : Int32) (x3 : Int32) (x4 : Int32) (x5 : Int32), wpX11_nearestOf_34 k10 post f1 g0_men g0_dogs f2 f3 f4 x1 x2 x3 x4 x5 → AtW p l e rmX11_nearestOf s m args below meth c dC dI A Q 7 0 0 (ceX11_nearestOf cyI cyB cyJ cyZ a0 a1 a2 a3 a4 b0_image b0_before b0_taken b0_tape b0_five b0_walk b0_ends b0_manX b0_manY b0_dogX b0_dogY b0_row b0_round b0_farOne b0_leads b0_drags b0_from b0_near g0_thrown g0_hasImage g0_remembered g0_taped g0_point g0_end g0_begin g0_deep g0_faultAt g0_steps f1 g0_men g0_dogs f2 f3 f4) [(0, .ref a0), (1, .int x1), (2, .int x2), (3, .int x3), (4, .int x4), (5, .int x5)] 34 [] := by
  intro g0_men g0_dogs f2 f3 f4 x1 x2 x3 x4 x5 hw H locs hP hD hS ls hl
  have C1 := C0
  obtain ⟨hx, hb, hr, hml, hown, hts, hlocks⟩ := C1
  refine lv_ldcw (v := 2000000000) hx hb hown (hts (.constant RX11 306 (2000000000)) (List.mem_of_getElem? (i := 1) rfl)) dX11_nearestOf_34 ?_
  refine lv_goto (tgt := 47) hx hb dX11_nearestOf_37 (by decide) ?_
  exact bX11_nearestOf_47 C0 hK hN hA hQ hk10 g0_men g0_dogs f2 f3 f4 x1 x2 x3 x4 x5 2000000000 hw _ _ hP hD hS ls (lv_sub hl [0, 1, 2, 3, 4, 5] rfl)
set_option maxRecDepth 100000 in
set_option maxHeartbeats 4000000 in
theorem bX11_nearestOf_10 {p : Program} {l : Launch} {e : Env} {s : State} {m : MethodId} {args : Array Value} {below : List Frame} {meth : Method} {c : Code} {dC : Nat → ClassId} {dI : Nat → Nat → Nat} {cyI cyB cyJ cyZ : ClassId} {A : Nat → Prop} {a0 a1 a2 a3 a4 b0_image b0_before b0_taken b0_tape b0_five b0_walk b0_ends b0_manX b0_manY b0_dogX b0_dogY b0_row b0_round b0_farOne b0_leads b0_drags b0_from b0_near : Nat} {g0_thrown : Int32} {g0_hasImage : Int32} {g0_remembered : Int32} {g0_taped : Int32} {g0_point : Int32} {g0_end : Int32} {g0_begin : Int32} {g0_deep : Int32} {g0_faultAt : Int32} {g0_steps : Int32} (C0 : cxM p s m meth c args wsX11_nearestOf RX11 cX11_nearestOf 7 (some .int)) (hK : va_K (dC, dI) vwCl (tyA cyI cyB cyJ cyZ) s) (hN : nwA s) (hA : ∀ q : Nat, s.heap.size ≤ q → A q) {post : Int32 → (Int32 × Int32 × (Nat → Int32) × (Nat → Int32) × (Nat → Int32)) → Prop} {f1 : Nat → Int32} {Q : State → Prop} (hQ : Q = MQ below (va_Qi post (fun u : Int32 × Int32 × (Nat → Int32) × (Nat → Int32) × (Nat → Int32) => wAt dC dI cyI cyB cyJ cyZ A (ceX11_nearestOf cyI cyB cyJ cyZ a0 a1 a2 a3 a4 b0_image b0_before b0_taken b0_tape b0_five b0_walk b0_ends b0_manX b0_manY b0_dogX b0_dogY b0_row b0_round b0_farOne b0_leads b0_drags b0_from b0_near g0_thrown g0_hasImage g0_remembered g0_taped g0_point g0_end g0_begin g0_deep g0_faultAt g0_steps f1 u.1 u.2.1 u.2.2.1 u.2.2.2.1 u.2.2.2.2)) A) args s 0 0 A) : ∀ (n : Nat) (g0_men : Int32) (g0_dogs : Int32) (f2 : Nat → Int32) (f3 : Nat → Int32) (f4 : Nat → Int32) (x1 : Int32) (x2 : Int32) (x3 : Int32) (x4 : Int32) (x5 : Int32), wpX11_nearestOf_10 post f1 n g0_men g0_dogs f2 f3 f4 x1 x2 x3 x4 x5 → AtW p l e rmX11_nearestOf s m args below meth c dC dI A Q 7 0 0 (ceX11_nearestOf cyI cyB cyJ cyZ a0 a1 a2 a3 a4 b0_image b0_before b0_taken b0_tape b0_five b0_walk b0_ends b0_manX b0_manY b0_dogX b0_dogY b0_row b0_round b0_farOne b0_leads b0_drags b0_from b0_near g0_thrown g0_hasImage g0_remembered g0_taped g0_point g0_end g0_begin g0_deep g0_faultAt g0_steps f1 g0_men g0_dogs f2 f3 f4) [(0, .ref a0), (1, .int x1), (2, .int x2), (3, .int x3), (4, .int x4), (5, .int x5)] 10 [] := by
  intro n
  induction n with
  | zero => intro g0_men g0_dogs f2 f3 f4 x1 x2 x3 x4 x5 hw; exact False.elim hw
  | succ n ih =>
    intro g0_men g0_dogs f2 f3 f4 x1 x2 x3 x4 x5 hw H locs hP hD hS ls hl
    have C1 := C0
    obtain ⟨hx, hb, hr, hml, hown, hts, hlocks⟩ := C1
    refine lv_iload hx hb dX11_nearestOf_10 (lv_at hl 5 rfl) ?_
    refine lv_aload_n hx hb dX11_nearestOf_12 rfl (lv_at hl 0 rfl) ?_
    have hPc := hP.sub (ws' := (ceX11_ways cyI cyB cyJ cyZ a0 a1 b0_image b0_before b0_taken b0_tape b0_five a2 a3 a4 b0_walk b0_ends b0_manX b0_manY b0_dogX b0_dogY b0_row b0_round b0_farOne b0_leads b0_drags b0_from b0_near g0_thrown g0_hasImage g0_remembered g0_taped g0_point g0_end g0_begin g0_deep g0_faultAt g0_steps g0_men g0_dogs f1)) [0, 1] rfl
    have hDc := hD.sub (ws' := (ceX11_ways cyI cyB cyJ cyZ a0 a1 b0_image b0_before b0_taken b0_tape b0_five a2 a3 a4 b0_walk b0_ends b0_manX b0_manY b0_dogX b0_dogY b0_row b0_round b0_farOne b0_leads b0_drags b0_from b0_near g0_thrown g0_hasImage g0_remembered g0_taped g0_point g0_end g0_begin g0_deep g0_faultAt g0_steps g0_men g0_dogs f1)) [0, 1] (by decide) rfl
    have hFc := va_free (wc := (ceX11_ways cyI cyB cyJ cyZ a0 a1 b0_image b0_before b0_taken b0_tape b0_five a2 a3 a4 b0_walk b0_ends b0_manX b0_manY b0_dogX b0_dogY b0_row b0_round b0_farOne b0_leads b0_drags b0_from b0_near g0_thrown g0_hasImage g0_remembered g0_taped g0_point g0_end g0_begin g0_deep g0_faultAt g0_steps g0_men g0_dogs f1)) hD hS hA [0, 1] rfl
    refine va_calli (va_runV (As := []) (rest := [.int x5]) ⟨hx, hb, hml, hown, hts⟩ (ctX11_ways l dC dI cyI cyB cyJ cyZ _ a0 a1 b0_image b0_before b0_taken b0_tape b0_five a2 a3 a4 b0_walk b0_ends b0_manX b0_manY b0_dogX b0_dogY b0_row b0_round b0_farOne b0_leads b0_drags b0_from b0_near g0_thrown g0_hasImage g0_remembered g0_taped g0_point g0_end g0_begin g0_deep g0_faultAt g0_steps g0_men g0_dogs f1 _ hw) (cwV 0 hts gX11_nearestOf_X11_ways rfl rfl rfl (by decide +kernel) ⟨Nat.le_of_ble_eq_true rfl, Nat.le_of_ble_eq_true rfl⟩) ⟨wPre_blind, va_recv hK hPc (ci := 11) (q0 := 0) rfl rfl, fun U hU hW => wPre_of hPc hK hDc hN hU hW⟩ rfl rfl hl.1 rfl (lv_room (Nat.le_of_ble_eq_true rfl)) dX11_nearestOf_13 ⟨(Nat.zero_le _), (Nat.zero_le _)⟩) hS (fun q _ h => hFc q h) hFc (fun r2 u1 t H1 locs ht hvm hw hB hz1 hk1 hS => ?_)
    obtain ⟨hP1, hK1, hD1⟩ := hB
    rw [ht] at hP1
    obtain ⟨hP, hD⟩ := va_join (wr := pickW (ceX11_nearestOf cyI cyB cyJ cyZ a0 a1 a2 a3 a4 b0_image b0_before b0_taken b0_tape b0_five b0_walk b0_ends b0_manX b0_manY b0_dogX b0_dogY b0_row b0_round b0_farOne b0_leads b0_drags b0_from b0_near g0_thrown g0_hasImage g0_remembered g0_taped g0_point g0_end g0_begin g0_deep g0_faultAt g0_steps f1 g0_men g0_dogs f2 f3 f4) [2, 3, 4]) (w1 := (ceX11_ways cyI cyB cyJ cyZ a0 a1 b0_image b0_before b0_taken b0_tape b0_five a2 a3 a4 b0_walk b0_ends b0_manX b0_manY b0_dogX b0_dogY b0_row b0_round b0_farOne b0_leads b0_drags b0_from b0_near g0_thrown g0_hasImage g0_remembered g0_taped g0_point g0_end g0_begin g0_deep g0_faultAt g0_steps g0_men g0_dogs f1)) hP hD [0, 1] [2, 3, 4] rfl rfl (by decide) (by decide) hk1 hFc hP1 hD1
    have hP := hP.sub (ws' := (ceX11_nearestOf cyI cyB cyJ cyZ a0 a1 a2 a3 a4 b0_image b0_before b0_taken b0_tape b0_five b0_walk b0_ends b0_manX b0_manY b0_dogX b0_dogY b0_row b0_round b0_farOne b0_leads b0_drags b0_from b0_near g0_thrown g0_hasImage g0_remembered g0_taped g0_point g0_end g0_begin g0_deep g0_faultAt g0_steps f1 g0_men g0_dogs f2 f3 f4)) [3, 4, 0, 1, 2] rfl
    have hD := hD.sub (ws' := (ceX11_nearestOf cyI cyB cyJ cyZ a0 a1 a2 a3 a4 b0_image b0_before b0_taken b0_tape b0_five b0_walk b0_ends b0_manX b0_manY b0_dogX b0_dogY b0_row b0_round b0_farOne b0_leads b0_drags b0_from b0_near g0_thrown g0_hasImage g0_remembered g0_taped g0_point g0_end g0_begin g0_deep g0_faultAt g0_steps f1 g0_men g0_dogs f2 f3 f4)) [3, 4, 0, 1, 2] (by decide) rfl
    generalize H1 = H at hP hS ⊢
    refine lv_icmp_ge (tgt := 72) hx hb dX11_nearestOf_16 (by decide) (fun hc => ?_) (fun hc => ?_)
    · have hw := hw.1 hc
      refine lv_iload_n hx hb dX11_nearestOf_72 rfl (lv_at hl 3 rfl) ?_
      rw [hQ]
      exact W.iret (v := x3) hx hb hr (fun t ht hW => ⟨⟨x3, (g0_men, g0_dogs, f2, f3, f4), rfl, hw, by rw [ht]; exact hP, va_K.moved hW.alike hK, hD⟩, hS.F ht⟩) hS.2.2 dX11_nearestOf_73
    · have hw := hw.2 hc
      refine lv_iload hx hb dX11_nearestOf_19 (lv_at hl 5 rfl) ?_
      refine lv_iload_n hx hb dX11_nearestOf_21 rfl (lv_at hl 1 rfl) ?_
      refine lv_icmp_eq (tgt := 34) hx hb dX11_nearestOf_22 (by decide) (fun hc => ?_) (fun hc => ?_)
      · have hw := hw.1 hc
        exact bX11_nearestOf_34 C0 hK hN hA hQ ih g0_men g0_dogs f2 f3 f4 x1 x2 x3 x4 x5 hw _ _ hP hD hS ls (lv_sub hl [0, 1, 2, 3, 4, 5] rfl)
      · have hw := hw.2 hc
        refine lv_iload_n hx hb dX11_nearestOf_25 rfl (lv_at hl 2 rfl) ?_
        refine lv_iload hx hb dX11_nearestOf_26 (lv_at hl 5 rfl) ?_
        have hPc := hP.sub (ws' := ([] : va_W)) [] rfl
        have hDc := hD.sub (ws' := ([] : va_W)) [] (by decide) rfl
        have hFc := va_free (wc := ([] : va_W)) hD hS hA [] rfl
        refine va_calli (va_runS (As := [.int x2, .int x5]) (rest := []) ⟨hx, hb, hml, hown, hts⟩ (ctX11_has l dC dI cyI cyB cyJ cyZ _ x2 x5 _ hw) (va_cwS 2 hts gX11_nearestOf_X11_has rfl rfl rfl (by decide +kernel) ⟨Nat.le_of_ble_eq_true rfl, Nat.le_of_ble_eq_true rfl⟩) ⟨wPre_blind, fun U hU hW => wPre_of hPc hK hDc hN hU hW⟩ rfl rfl hl.1 rfl (lv_room (Nat.le_of_ble_eq_true rfl)) dX11_nearestOf_28 ⟨(Nat.zero_le _), (Nat.zero_le _)⟩) hS (fun q _ h => hFc q h) hFc (fun r4 u3 t H1 locs ht hvm hw hB hz1 hk1 hS => ?_)
        obtain ⟨hP1, hK1, hD1⟩ := hB
        rw [ht] at hP1
        obtain ⟨hP, hD⟩ := va_join (wr := pickW (ceX11_nearestOf cyI cyB cyJ cyZ a0 a1 a2 a3 a4 b0_image b0_before b0_taken b0_tape b0_five b0_walk b0_ends b0_manX b0_manY b0_dogX b0_dogY b0_row b0_round b0_farOne b0_leads b0_drags b0_from b0_near g0_thrown g0_hasImage g0_remembered g0_taped g0_point g0_end g0_begin g0_deep g0_faultAt g0_steps f1 g0_men g0_dogs f2 f3 f4) [0, 1, 2, 3, 4]) (w1 := ([] : va_W)) hP hD [] [0, 1, 2, 3, 4] rfl rfl (by decide) (by decide) hk1 hFc hP1 hD1
        have hP := hP.sub (ws' := (ceX11_nearestOf cyI cyB cyJ cyZ a0 a1 a2 a3 a4 b0_image b0_before b0_taken b0_tape b0_five b0_walk b0_ends b0_manX b0_manY b0_dogX b0_dogY b0_row b0_round b0_farOne b0_leads b0_drags b0_from b0_near g0_thrown g0_hasImage g0_remembered g0_taped g0_point g0_end g0_begin g0_deep g0_faultAt g0_steps f1 g0_men g0_dogs f2 f3 f4)) [0, 1, 2, 3, 4] rfl
        have hD := hD.sub (ws' := (ceX11_nearestOf cyI cyB cyJ cyZ a0 a1 a2 a3 a4 b0_image b0_before b0_taken b0_tape b0_five b0_walk b0_ends b0_manX b0_manY b0_dogX b0_dogY b0_row b0_round b0_farOne b0_leads b0_drags b0_from b0_near g0_thrown g0_hasImage g0_remembered g0_taped g0_point g0_end g0_begin g0_deep g0_faultAt g0_steps f1 g0_men g0_dogs f2 f3 f4)) [0, 1, 2, 3, 4] (by decide) rfl
        generalize H1 = H at hP hS ⊢
        refine lv_if_ne (tgt := 40) hx hb dX11_nearestOf_31 (by decide) (fun hc => ?_) (fun hc => ?_)
        · have hw := hw.1 hc
          refine lv_aload_n hx hb dX11_nearestOf_40 rfl (lv_at hl 0 rfl) ?_
          refine lv_iload_n hx hb dX11_nearestOf_41 rfl (lv_at hl 1 rfl) ?_
          refine lv_iload hx hb dX11_nearestOf_42 (lv_at hl 5 rfl) ?_
          have hPc := hP.sub (ws' := (ceX11_leastOf cyI cyB cyJ cyZ a0 a1 a2 a3 a4 b0_image b0_before b0_taken b0_tape b0_five b0_walk b0_ends b0_manX b0_manY b0_dogX b0_dogY b0_row b0_round b0_farOne b0_leads b0_drags b0_from b0_near g0_thrown g0_hasImage g0_remembered g0_taped g0_point g0_end g0_begin g0_deep g0_faultAt g0_steps f1 g0_men g0_dogs f2 f3 f4)) [0, 1, 2, 3, 4] rfl
          have hDc := hD.sub (ws' := (ceX11_leastOf cyI cyB cyJ cyZ a0 a1 a2 a3 a4 b0_image b0_before b0_taken b0_tape b0_five b0_walk b0_ends b0_manX b0_manY b0_dogX b0_dogY b0_row b0_round b0_farOne b0_leads b0_drags b0_from b0_near g0_thrown g0_hasImage g0_remembered g0_taped g0_point g0_end g0_begin g0_deep g0_faultAt g0_steps f1 g0_men g0_dogs f2 f3 f4)) [0, 1, 2, 3, 4] (by decide) rfl
          have hFc := va_free (wc := (ceX11_leastOf cyI cyB cyJ cyZ a0 a1 a2 a3 a4 b0_image b0_before b0_taken b0_tape b0_five b0_walk b0_ends b0_manX b0_manY b0_dogX b0_dogY b0_row b0_round b0_farOne b0_leads b0_drags b0_from b0_near g0_thrown g0_hasImage g0_remembered g0_taped g0_point g0_end g0_begin g0_deep g0_faultAt g0_steps f1 g0_men g0_dogs f2 f3 f4)) hD hS hA [0, 1, 2, 3, 4] rfl
          refine va_calli (va_runV (As := [.int x1, .int x5]) (rest := []) ⟨hx, hb, hml, hown, hts⟩ (ctX11_leastOf l dC dI cyI cyB cyJ cyZ _ a0 a1 a2 a3 a4 b0_image b0_before b0_taken b0_tape b0_five b0_walk b0_ends b0_manX b0_manY b0_dogX b0_dogY b0_row b0_round b0_farOne b0_leads b0_drags b0_from b0_near g0_thrown g0_hasImage g0_remembered g0_taped g0_point g0_end g0_begin g0_deep g0_faultAt g0_steps f1 g0_men g0_dogs f2 f3 f4 x1 x5 _ hw) (cwV 2 hts gX11_nearestOf_X11_leastOf rfl rfl rfl (by decide +kernel) ⟨Nat.le_of_ble_eq_true rfl, Nat.le_of_ble_eq_true rfl⟩) ⟨wPre_blind, va_recv hK hPc (ci := 11) (q0 := 0) rfl rfl, fun U hU hW => wPre_of hPc hK hDc hN hU hW⟩ rfl rfl hl.1 rfl (lv_room (Nat.le_of_ble_eq_true rfl)) dX11_nearestOf_44 ⟨(Nat.zero_le _), (Nat.zero_le _)⟩) hS (fun q _ h => hFc q h) hFc (fun r6 u5 t H1 locs ht hvm hw hB hz1 hk1 hS => ?_)
          obtain ⟨hP1, hK1, hD1⟩ := hB
          rw [ht] at hP1
          obtain ⟨hP, hD⟩ := va_join (wr := pickW (ceX11_nearestOf cyI cyB cyJ cyZ a0 a1 a2 a3 a4 b0_image b0_before b0_taken b0_tape b0_five b0_walk b0_ends b0_manX b0_manY b0_dogX b0_dogY b0_row b0_round b0_farOne b0_leads b0_drags b0_from b0_near g0_thrown g0_hasImage g0_remembered g0_taped g0_point g0_end g0_begin g0_deep g0_faultAt g0_steps f1 g0_men g0_dogs f2 f3 f4) []) (w1 := (ceX11_leastOf cyI cyB cyJ cyZ a0 a1 a2 a3 a4 b0_image b0_before b0_taken b0_tape b0_five b0_walk b0_ends b0_manX b0_manY b0_dogX b0_dogY b0_row b0_round b0_farOne b0_leads b0_drags b0_from b0_near g0_thrown g0_hasImage g0_remembered g0_taped g0_point g0_end g0_begin g0_deep g0_faultAt g0_steps f1 u5.1 u5.2.1 u5.2.2.1 u5.2.2.2.1 u5.2.2.2.2)) hP hD [0, 1, 2, 3, 4] [] rfl rfl (by decide) (by decide) hk1 hFc hP1 hD1
          have hP := hP.sub (ws' := (ceX11_nearestOf cyI cyB cyJ cyZ a0 a1 a2 a3 a4 b0_image b0_before b0_taken b0_tape b0_five b0_walk b0_ends b0_manX b0_manY b0_dogX b0_dogY b0_row b0_round b0_farOne b0_leads b0_drags b0_from b0_near g0_thrown g0_hasImage g0_remembered g0_taped g0_point g0_end g0_begin g0_deep g0_faultAt g0_steps f1 u5.1 u5.2.1 u5.2.2.1 u5.2.2.2.1 u5.2.2.2.2)) [0, 1, 2, 3, 4] rfl
          have hD := hD.sub (ws' := (ceX11_nearestOf cyI cyB cyJ cyZ a0 a1 a2 a3 a4 b0_image b0_before b0_taken b0_tape b0_five b0_walk b0_ends b0_manX b0_manY b0_dogX b0_dogY b0_row b0_round b0_farOne b0_leads b0_drags b0_from b0_near g0_thrown g0_hasImage g0_remembered g0_taped g0_point g0_end g0_begin g0_deep g0_faultAt g0_steps f1 u5.1 u5.2.1 u5.2.2.1 u5.2.2.2.1 u5.2.2.2.2)) [0, 1, 2, 3, 4] (by decide) rfl
          generalize H1 = H at hP hS ⊢
          exact bX11_nearestOf_47 C0 hK hN hA hQ ih u5.1 u5.2.1 u5.2.2.1 u5.2.2.2.1 u5.2.2.2.2 x1 x2 x3 x4 x5 r6 hw _ _ hP hD hS ls (lv_sub hl [0, 1, 2, 3, 4, 5] rfl)
        · have hw := hw.2 hc
          exact bX11_nearestOf_34 C0 hK hN hA hQ ih g0_men g0_dogs f2 f3 f4 x1 x2 x3 x4 x5 hw _ _ hP hD hS ls (lv_sub hl [0, 1, 2, 3, 4, 5] rfl)
set_option maxRecDepth 100000 in
set_option maxHeartbeats 4000000 in
theorem ctX11_nearestOf (l : Launch) (dC : Nat → ClassId) (dI : Nat → Nat → Nat) (cyI cyB cyJ cyZ : ClassId) (sz : Nat) (a0 a1 a2 a3 a4 b0_image b0_before b0_taken b0_tape b0_five b0_walk b0_ends b0_manX b0_manY b0_dogX b0_dogY b0_row b0_round b0_farOne b0_leads b0_drags b0_from b0_near : Nat) (g0_thrown : Int32) (g0_hasImage : Int32) (g0_remembered : Int32) (g0_taped : Int32) (g0_point : Int32) (g0_end : Int32) (g0_begin : Int32) (g0_deep : Int32) (g0_faultAt : Int32) (g0_steps : Int32) (f1 : Nat → Int32) (g0_men : Int32) (g0_dogs : Int32) (f2 : Nat → Int32) (f3 : Nat → Int32) (f4 : Nat → Int32) (p0 : Int32) (p1 : Int32) (post : Int32 → (Int32 × Int32 × (Nat → Int32) × (Nat → Int32) × (Nat → Int32)) → Prop) (hw : wpX11_nearestOf post f1 g0_men g0_dogs f2 f3 f4 p0 p1) : Met l yX11_nearestOf wsX11_nearestOf rmX11_nearestOf (va_Pc [.ref a0, .int p0, .int p1] (wPre dC dI cyI cyB cyJ cyZ sz (ceX11_nearestOf cyI cyB cyJ cyZ a0 a1 a2 a3 a4 b0_image b0_before b0_taken b0_tape b0_five b0_walk b0_ends b0_manX b0_manY b0_dogX b0_dogY b0_row b0_round b0_farOne b0_leads b0_drags b0_from b0_near g0_thrown g0_hasImage g0_remembered g0_taped g0_point g0_end g0_begin g0_deep g0_faultAt g0_steps f1 g0_men g0_dogs f2 f3 f4))) (va_Qi post (fun u : Int32 × Int32 × (Nat → Int32) × (Nat → Int32) × (Nat → Int32) => wAt dC dI cyI cyB cyJ cyZ (va_A (ceX11_nearestOf cyI cyB cyJ cyZ a0 a1 a2 a3 a4 b0_image b0_before b0_taken b0_tape b0_five b0_walk b0_ends b0_manX b0_manY b0_dogX b0_dogY b0_row b0_round b0_farOne b0_leads b0_drags b0_from b0_near g0_thrown g0_hasImage g0_remembered g0_taped g0_point g0_end g0_begin g0_deep g0_faultAt g0_steps f1 g0_men g0_dogs f2 f3 f4) sz) (ceX11_nearestOf cyI cyB cyJ cyZ a0 a1 a2 a3 a4 b0_image b0_before b0_taken b0_tape b0_five b0_walk b0_ends b0_manX b0_manY b0_dogX b0_dogY b0_row b0_round b0_farOne b0_leads b0_drags b0_from b0_near g0_thrown g0_hasImage g0_remembered g0_taped g0_point g0_end g0_begin g0_deep g0_faultAt g0_steps f1 u.1 u.2.1 u.2.2.1 u.2.2.2.1 u.2.2.2.2)) (va_A (ceX11_nearestOf cyI cyB cyJ cyZ a0 a1 a2 a3 a4 b0_image b0_before b0_taken b0_tape b0_five b0_walk b0_ends b0_manX b0_manY b0_dogX b0_dogY b0_row b0_round b0_farOne b0_leads b0_drags b0_from b0_near g0_thrown g0_hasImage g0_remembered g0_taped g0_point g0_end g0_begin g0_deep g0_faultAt g0_steps f1 g0_men g0_dogs f2 f3 f4) sz)) 0 0 (va_A (ceX11_nearestOf cyI cyB cyJ cyZ a0 a1 a2 a3 a4 b0_image b0_before b0_taken b0_tape b0_five b0_walk b0_ends b0_manX b0_manY b0_dogX b0_dogY b0_row b0_round b0_farOne b0_leads b0_drags b0_from b0_near g0_thrown g0_hasImage g0_remembered g0_taped g0_point g0_end g0_begin g0_deep g0_faultAt g0_steps f1 g0_men g0_dogs f2 f3 f4) sz) := by
  refine Met.ofW (cc := cX11_nearestOf) (maxL := 7) (ret := (some .int)) (by decide) rfl ?_
  intro p e s m args below meth c s₁ B hml hv
  obtain ⟨rfl, hsz, hP, hK, hD0, hN⟩ := hv
  have hx := B.exec
  have hb := B.bytes
  have hr := B.returns
  have hts := atoms_spec (ws := wsX11_nearestOf) B.pre
  have hown : s.vm.findClass RX11 = some m.cls := findClass_of_methodNamed B.named
  have hlocks := B.notSynchronized
  subst hsz
  have hD := hD0.self (sz := s.heap.size)
  generalize hAe : va_A (ceX11_nearestOf cyI cyB cyJ cyZ a0 a1 a2 a3 a4 b0_image b0_before b0_taken b0_tape b0_five b0_walk b0_ends b0_manX b0_manY b0_dogX b0_dogY b0_row b0_round b0_farOne b0_leads b0_drags b0_from b0_near g0_thrown g0_hasImage g0_remembered g0_taped g0_point g0_end g0_begin g0_deep g0_faultAt g0_steps f1 g0_men g0_dogs f2 f3 f4) s.heap.size = A at hD ⊢
  have hA : ∀ q : Nat, s.heap.size ≤ q → A q := fun q h => by rw [← hAe]; exact Or.inr h
  have hS : va_S A s.heap s.heap [] := va_S.rf
  have C0 : cxM p s m meth c _ wsX11_nearestOf RX11 cX11_nearestOf 7 (some .int) := ⟨hx, hb, hr, hml, hown, hts, hlocks⟩
  have hl := lv_entry ([.ref a0, .int p0, .int p1]) (n := 7) (Nat.le_of_ble_eq_true rfl)
  rw [lg_entry_eq]
  generalize (lg_sl ([.ref a0, .int p0, .int p1]) ++ List.replicate (7 - (lg_sl ([.ref a0, .int p0, .int p1])).length) Slot.unset).toArray = ls at hl ⊢
  have hl : lv_has ls 7 [(0, .ref a0), (1, .int p0), (2, .int p1)] := hl
  show W p l e rmX11_nearestOf s m _ below meth c _ _ _ _ _ _
  refine wq (fun Q hQ => ?_)
  refine lv_iconst (v := (-1)) hx hb dX11_nearestOf_0 (by decide) ?_
  refine lv_istore_n (lv' := [(3, .int (-1)), (0, .ref a0), (1, .int p0), (2, .int p1)]) hx hb dX11_nearestOf_1 rfl hl (by decide) rfl (fun ls hl => ?_)
  refine lv_ldcw (v := 2000000000) hx hb hown (hts (.constant RX11 306 (2000000000)) (List.mem_of_getElem? (i := 1) rfl)) dX11_nearestOf_2 ?_
  refine lv_istore (lv' := [(4, .int 2000000000), (3, .int (-1)), (0, .ref a0), (1, .int p0), (2, .int p1)]) hx hb dX11_nearestOf_5 hl (by decide) rfl (fun ls hl => ?_)
  refine lv_iconst (v := 0) hx hb dX11_nearestOf_7 (by decide) ?_
  refine lv_istore (lv' := [(5, .int 0), (4, .int 2000000000), (3, .int (-1)), (0, .ref a0), (1, .int p0), (2, .int p1)]) hx hb dX11_nearestOf_8 hl (by decide) rfl (fun ls hl => ?_)
  obtain ⟨nn, hw⟩ := hw
  exact bX11_nearestOf_10 C0 hK hN hA hQ nn g0_men g0_dogs f2 f3 f4 p0 p1 (-1) 2000000000 0 hw _ _ hP hD hS ls (lv_sub hl [3, 4, 5, 2, 1, 0] rfl)
/-! LeadParkModel.nearest (II)I -/
abbrev ceX11_nearest (cyI cyB cyJ cyZ : ClassId) (a0 a1 a2 a3 a4 b0_image b0_before b0_taken b0_tape b0_five b0_walk b0_ends b0_manX b0_manY b0_dogX b0_dogY b0_row b0_round b0_farOne b0_leads b0_drags b0_from b0_near : Nat) (g0_hasImage : Int32) (g0_remembered : Int32) (g0_taped : Int32) (g0_point : Int32) (g0_end : Int32) (g0_begin : Int32) (g0_deep : Int32) (g0_faultAt : Int32) (g0_steps : Int32) (f1 : Nat → Int32) (g0_thrown : Int32) (g0_men : Int32) (g0_dogs : Int32) (f2 : Nat → Int32) (f3 : Nat → Int32) (f4 : Nat → Int32) : va_W := [(a0, .inr (11, [.int g0_thrown, .ref a1, .ref b0_image, .ref b0_before, .int g0_hasImage, .ref b0_taken, .int g0_remembered, .ref b0_tape, .int g0_taped, .int g0_point, .int g0_end, .int g0_begin, .int g0_deep, .int g0_faultAt, .ref b0_five, .int g0_steps, .ref a2, .ref a3, .int g0_men, .int g0_dogs, .ref a4, .ref b0_walk, .ref b0_ends, .ref b0_manX, .ref b0_manY, .ref b0_dogX, .ref b0_dogY, .ref b0_row, .ref b0_round, .ref b0_farOne, .ref b0_leads, .ref b0_drags, .ref b0_from, .ref b0_near])), (a1, .inl (cyI, 2508, .inl f1)), (a2, .inl (cyI, 400, .inl f2)), (a3, .inl (cyI, 900, .inl f3)), (a4, .inl (cyI, 900, .inl f4))]

theorem inX11_nearest_X11 : ∀ w ∈ wsX110, w ∈ wsX11_nearest := fun _ h => List.mem_cons_of_mem _ (List.mem_append_right _ h)
abbrev rmX11_nearest : Room := { frames := 8, cells := 0, slots := 0, locals := 214 }
set_option maxRecDepth 100000 in
set_option maxHeartbeats 4000000 in
theorem ctX11_nearest (l : Launch) (dC : Nat → ClassId) (dI : Nat → Nat → Nat) (cyI cyB cyJ cyZ : ClassId) (sz : Nat) (a0 a1 a2 a3 a4 b0_image b0_before b0_taken b0_tape b0_five b0_walk b0_ends b0_manX b0_manY b0_dogX b0_dogY b0_row b0_round b0_farOne b0_leads b0_drags b0_from b0_near : Nat) (g0_hasImage : Int32) (g0_remembered : Int32) (g0_taped : Int32) (g0_point : Int32) (g0_end : Int32) (g0_begin : Int32) (g0_deep : Int32) (g0_faultAt : Int32) (g0_steps : Int32) (f1 : Nat → Int32) (g0_thrown : Int32) (g0_men : Int32) (g0_dogs : Int32) (f2 : Nat → Int32) (f3 : Nat → Int32) (f4 : Nat → Int32) (p0 : Int32) (p1 : Int32) (post : Int32 → (Int32 × Int32 × Int32 × (Nat → Int32) × (Nat → Int32) × (Nat → Int32)) → Prop) (hw : wpX11_nearest post f1 g0_thrown g0_men g0_dogs f2 f3 f4 p0 p1) : Met l yX11_nearest wsX11_nearest rmX11_nearest (va_Pc [.ref a0, .int p0, .int p1] (wPre dC dI cyI cyB cyJ cyZ sz (ceX11_nearest cyI cyB cyJ cyZ a0 a1 a2 a3 a4 b0_image b0_before b0_taken b0_tape b0_five b0_walk b0_ends b0_manX b0_manY b0_dogX b0_dogY b0_row b0_round b0_farOne b0_leads b0_drags b0_from b0_near g0_hasImage g0_remembered g0_taped g0_point g0_end g0_begin g0_deep g0_faultAt g0_steps f1 g0_thrown g0_men g0_dogs f2 f3 f4))) (va_Qi post (fun u : Int32 × Int32 × Int32 × (Nat → Int32) × (Nat → Int32) × (Nat → Int32) => wAt dC dI cyI cyB cyJ cyZ (va_A (ceX11_nearest cyI cyB cyJ cyZ a0 a1 a2 a3 a4 b0_image b0_before b0_taken b0_tape b0_five b0_walk b0_ends b0_manX b0_manY b0_dogX b0_dogY b0_row b0_round b0_farOne b0_leads b0_drags b0_from b0_near g0_hasImage g0_remembered g0_taped g0_point g0_end g0_begin g0_deep g0_faultAt g0_steps f1 g0_thrown g0_men g0_dogs f2 f3 f4) sz) (ceX11_nearest cyI cyB cyJ cyZ a0 a1 a2 a3 a4 b0_image b0_before b0_taken b0_tape b0_five b0_walk b0_ends b0_manX b0_manY b0_dogX b0_dogY b0_row b0_round b0_farOne b0_leads b0_drags b0_from b0_near g0_hasImage g0_remembered g0_taped g0_point g0_end g0_begin g0_deep g0_faultAt g0_steps f1 u.1 u.2.1 u.2.2.1 u.2.2.2.1 u.2.2.2.2.1 u.2.2.2.2.2)) (va_A (ceX11_nearest cyI cyB cyJ cyZ a0 a1 a2 a3 a4 b0_image b0_before b0_taken b0_tape b0_five b0_walk b0_ends b0_manX b0_manY b0_dogX b0_dogY b0_row b0_round b0_farOne b0_leads b0_drags b0_from b0_near g0_hasImage g0_remembered g0_taped g0_point g0_end g0_begin g0_deep g0_faultAt g0_steps f1 g0_thrown g0_men g0_dogs f2 f3 f4) sz)) 0 0 (va_A (ceX11_nearest cyI cyB cyJ cyZ a0 a1 a2 a3 a4 b0_image b0_before b0_taken b0_tape b0_five b0_walk b0_ends b0_manX b0_manY b0_dogX b0_dogY b0_row b0_round b0_farOne b0_leads b0_drags b0_from b0_near g0_hasImage g0_remembered g0_taped g0_point g0_end g0_begin g0_deep g0_faultAt g0_steps f1 g0_thrown g0_men g0_dogs f2 f3 f4) sz) := by
  refine Met.ofW (cc := cX11_nearest) (maxL := 3) (ret := (some .int)) (by decide) rfl ?_
  intro p e s m args below meth c s₁ B hml hv
  obtain ⟨rfl, hsz, hP, hK, hD0, hN⟩ := hv
  have hx := B.exec
  have hb := B.bytes
  have hr := B.returns
  have hts := atoms_spec (ws := wsX11_nearest) B.pre
  have hown : s.vm.findClass RX11 = some m.cls := findClass_of_methodNamed B.named
  have hlocks := B.notSynchronized
  subst hsz
  have hD := hD0.self (sz := s.heap.size)
  generalize hAe : va_A (ceX11_nearest cyI cyB cyJ cyZ a0 a1 a2 a3 a4 b0_image b0_before b0_taken b0_tape b0_five b0_walk b0_ends b0_manX b0_manY b0_dogX b0_dogY b0_row b0_round b0_farOne b0_leads b0_drags b0_from b0_near g0_hasImage g0_remembered g0_taped g0_point g0_end g0_begin g0_deep g0_faultAt g0_steps f1 g0_thrown g0_men g0_dogs f2 f3 f4) s.heap.size = A at hD ⊢
  have hA : ∀ q : Nat, s.heap.size ≤ q → A q := fun q h => by rw [← hAe]; exact Or.inr h
  have hS : va_S A s.heap s.heap [] := va_S.rf
  have C0 : cxM p s m meth c _ wsX11_nearest RX11 cX11_nearest 3 (some .int) := ⟨hx, hb, hr, hml, hown, hts, hlocks⟩
  have hl := lv_entry ([.ref a0, .int p0, .int p1]) (n := 3) (Nat.le_of_ble_eq_true rfl)
  rw [lg_entry_eq]
  generalize (lg_sl ([.ref a0, .int p0, .int p1]) ++ List.replicate (3 - (lg_sl ([.ref a0, .int p0, .int p1])).length) Slot.unset).toArray = ls at hl ⊢
  have hl : lv_has ls 3 [(0, .ref a0), (1, .int p0), (2, .int p1)] := hl
  show W p l e rmX11_nearest s m _ below meth c _ _ _ _ _ _
  refine wq (fun Q hQ => ?_)
  refine lv_aload_n hx hb dX11_nearest_0 rfl (lv_at hl 0 rfl) ?_
  refine lv_iconst (v := 0) hx hb dX11_nearest_1 (by decide) ?_
  refine va_put (D := (dC, dI)) (ci := 11) (v := .int 0) (ty := .int) (C := RX11) (T := TX11) (N := 34) hx hb hts inX11_nearest_X11 tyX11 tyX11_ok nmX11 hown hK hP hD hS 0 rfl rfl 0 (by decide) (hts (.fieldLink RX11 3 "LeadParkModel" "thrown" "I") (List.mem_of_getElem? (i := 1) rfl)) (fun _ h9 => h9) rfl (by decide +kernel) rfl rfl (Nat.le_of_ble_eq_true rfl) dX11_nearest_2 (fun H locs hP hD hS => ?_)
  have hP : va_P (dC, dI) vwCl (ceX11_nearest cyI cyB cyJ cyZ a0 a1 a2 a3 a4 b0_image b0_before b0_taken b0_tape b0_five b0_walk b0_ends b0_manX b0_manY b0_dogX b0_dogY b0_row b0_round b0_farOne b0_leads b0_drags b0_from b0_near g0_hasImage g0_remembered g0_taped g0_point g0_end g0_begin g0_deep g0_faultAt g0_steps f1 0 g0_men g0_dogs f2 f3 f4) H := hP
  have hD : va_D A (ceX11_nearest cyI cyB cyJ cyZ a0 a1 a2 a3 a4 b0_image b0_before b0_taken b0_tape b0_five b0_walk b0_ends b0_manX b0_manY b0_dogX b0_dogY b0_row b0_round b0_farOne b0_leads b0_drags b0_from b0_near g0_hasImage g0_remembered g0_taped g0_point g0_end g0_begin g0_deep g0_faultAt g0_steps f1 0 g0_men g0_dogs f2 f3 f4) := hD
  refine lv_aload_n hx hb dX11_nearest_5 rfl (lv_at hl 0 rfl) ?_
  refine lv_aload_n hx hb dX11_nearest_6 rfl (lv_at hl 0 rfl) ?_
  refine lv_iload_n hx hb dX11_nearest_7 rfl (lv_at hl 1 rfl) ?_
  have hPc := hP.sub (ws' := (ceX11_noWay cyI cyB cyJ cyZ a0 a1 b0_image b0_before b0_taken b0_tape b0_five a2 a3 a4 b0_walk b0_ends b0_manX b0_manY b0_dogX b0_dogY b0_row b0_round b0_farOne b0_leads b0_drags b0_from b0_near 0 g0_hasImage g0_remembered g0_taped g0_point g0_end g0_begin g0_deep g0_faultAt g0_steps g0_men g0_dogs f1)) [0, 1] rfl
  have hDc := hD.sub (ws' := (ceX11_noWay cyI cyB cyJ cyZ a0 a1 b0_image b0_before b0_taken b0_tape b0_five a2 a3 a4 b0_walk b0_ends b0_manX b0_manY b0_dogX b0_dogY b0_row b0_round b0_farOne b0_leads b0_drags b0_from b0_near 0 g0_hasImage g0_remembered g0_taped g0_point g0_end g0_begin g0_deep g0_faultAt g0_steps g0_men g0_dogs f1)) [0, 1] (by decide) rfl
  have hFc := va_free (wc := (ceX11_noWay cyI cyB cyJ cyZ a0 a1 b0_image b0_before b0_taken b0_tape b0_five a2 a3 a4 b0_walk b0_ends b0_manX b0_manY b0_dogX b0_dogY b0_row b0_round b0_farOne b0_leads b0_drags b0_from b0_near 0 g0_hasImage g0_remembered g0_taped g0_point g0_end g0_begin g0_deep g0_faultAt g0_steps g0_men g0_dogs f1)) hD hS hA [0, 1] rfl
  refine va_calli (va_runV (As := [.int p0]) (rest := [.ref a0]) ⟨hx, hb, hml, hown, hts⟩ (ctX11_noWay l dC dI cyI cyB cyJ cyZ _ a0 a1 b0_image b0_before b0_taken b0_tape b0_five a2 a3 a4 b0_walk b0_ends b0_manX b0_manY b0_dogX b0_dogY b0_row b0_round b0_farOne b0_leads b0_drags b0_from b0_near 0 g0_hasImage g0_remembered g0_taped g0_point g0_end g0_begin g0_deep g0_faultAt g0_steps g0_men g0_dogs f1 p0 _ hw) (cwV 1 hts gX11_nearest_X11_noWay rfl rfl rfl (by decide +kernel) ⟨Nat.le_of_ble_eq_true rfl, Nat.le_of_ble_eq_true rfl⟩) ⟨wPre_blind, va_recv hK hPc (ci := 11) (q0 := 0) rfl rfl, fun U hU hW => wPre_of hPc hK hDc hN hU hW⟩ rfl rfl hl.1 rfl (lv_room (Nat.le_of_ble_eq_true rfl)) dX11_nearest_8 ⟨(Nat.zero_le _), (Nat.zero_le _)⟩) hS (fun q _ h => hFc q h) hFc (fun r2 u1 t H1 locs ht hvm hw hB hz1 hk1 hS => ?_)
  obtain ⟨hP1, hK1, hD1⟩ := hB
  rw [ht] at hP1
  obtain ⟨hP, hD⟩ := va_join (wr := pickW (ceX11_nearest cyI cyB cyJ cyZ a0 a1 a2 a3 a4 b0_image b0_before b0_taken b0_tape b0_five b0_walk b0_ends b0_manX b0_manY b0_dogX b0_dogY b0_row b0_round b0_farOne b0_leads b0_drags b0_from b0_near g0_hasImage g0_remembered g0_taped g0_point g0_end g0_begin g0_deep g0_faultAt g0_steps f1 0 g0_men g0_dogs f2 f3 f4) [2, 3, 4]) (w1 := (ceX11_noWay cyI cyB cyJ cyZ a0 a1 b0_image b0_before b0_taken b0_tape b0_five a2 a3 a4 b0_walk b0_ends b0_manX b0_manY b0_dogX b0_dogY b0_row b0_round b0_farOne b0_leads b0_drags b0_from b0_near 0 g0_hasImage g0_remembered g0_taped g0_point g0_end g0_begin g0_deep g0_faultAt g0_steps g0_men g0_dogs f1)) hP hD [0, 1] [2, 3, 4] rfl rfl (by decide) (by decide) hk1 hFc hP1 hD1
  have hP := hP.sub (ws' := (ceX11_nearest cyI cyB cyJ cyZ a0 a1 a2 a3 a4 b0_image b0_before b0_taken b0_tape b0_five b0_walk b0_ends b0_manX b0_manY b0_dogX b0_dogY b0_row b0_round b0_farOne b0_leads b0_drags b0_from b0_near g0_hasImage g0_remembered g0_taped g0_point g0_end g0_begin g0_deep g0_faultAt g0_steps f1 0 g0_men g0_dogs f2 f3 f4)) [3, 4, 0, 1, 2] rfl
  have hD := hD.sub (ws' := (ceX11_nearest cyI cyB cyJ cyZ a0 a1 a2 a3 a4 b0_image b0_before b0_taken b0_tape b0_five b0_walk b0_ends b0_manX b0_manY b0_dogX b0_dogY b0_row b0_round b0_farOne b0_leads b0_drags b0_from b0_near g0_hasImage g0_remembered g0_taped g0_point g0_end g0_begin g0_deep g0_faultAt g0_steps f1 0 g0_men g0_dogs f2 f3 f4)) [3, 4, 0, 1, 2] (by decide) rfl
  generalize H1 = H at hP hS ⊢
  refine lv_iconst (v := 1) hx hb dX11_nearest_11 (by decide) ?_
  have hPc := hP.sub (ws' := (ceX11_throwsIf cyI cyB cyJ cyZ a0 a1 b0_image b0_before b0_taken b0_tape b0_five a2 a3 a4 b0_walk b0_ends b0_manX b0_manY b0_dogX b0_dogY b0_row b0_round b0_farOne b0_leads b0_drags b0_from b0_near g0_hasImage g0_remembered g0_taped g0_point g0_end g0_begin g0_deep g0_faultAt g0_steps g0_men g0_dogs 0)) [0] rfl
  have hDc := hD.sub (ws' := (ceX11_throwsIf cyI cyB cyJ cyZ a0 a1 b0_image b0_before b0_taken b0_tape b0_five a2 a3 a4 b0_walk b0_ends b0_manX b0_manY b0_dogX b0_dogY b0_row b0_round b0_farOne b0_leads b0_drags b0_from b0_near g0_hasImage g0_remembered g0_taped g0_point g0_end g0_begin g0_deep g0_faultAt g0_steps g0_men g0_dogs 0)) [0] (by decide) rfl
  have hFc := va_free (wc := (ceX11_throwsIf cyI cyB cyJ cyZ a0 a1 b0_image b0_before b0_taken b0_tape b0_five a2 a3 a4 b0_walk b0_ends b0_manX b0_manY b0_dogX b0_dogY b0_row b0_round b0_farOne b0_leads b0_drags b0_from b0_near g0_hasImage g0_remembered g0_taped g0_point g0_end g0_begin g0_deep g0_faultAt g0_steps g0_men g0_dogs 0)) hD hS hA [0] rfl
  refine va_calli (va_runV (As := [.int r2, .int 1]) (rest := []) ⟨hx, hb, hml, hown, hts⟩ (ctX11_throwsIf l dC dI cyI cyB cyJ cyZ _ a0 a1 b0_image b0_before b0_taken b0_tape b0_five a2 a3 a4 b0_walk b0_ends b0_manX b0_manY b0_dogX b0_dogY b0_row b0_round b0_farOne b0_leads b0_drags b0_from b0_near g0_hasImage g0_remembered g0_taped g0_point g0_end g0_begin g0_deep g0_faultAt g0_steps g0_men g0_dogs 0 r2 1 _ hw) (cwV 2 hts gX11_nearest_X11_throwsIf rfl rfl rfl (by decide +kernel) ⟨Nat.le_of_ble_eq_true rfl, Nat.le_of_ble_eq_true rfl⟩) ⟨wPre_blind, va_recv hK hPc (ci := 11) (q0 := 0) rfl rfl, fun U hU hW => wPre_of hPc hK hDc hN hU hW⟩ rfl rfl hl.1 rfl (lv_room (Nat.le_of_ble_eq_true rfl)) dX11_nearest_12 ⟨(Nat.zero_le _), (Nat.zero_le _)⟩) hS (fun q _ h => hFc q h) hFc (fun r4 u3 t H1 locs ht hvm hw hB hz1 hk1 hS => ?_)
  obtain ⟨hP1, hK1, hD1⟩ := hB
  rw [ht] at hP1
  obtain ⟨hP, hD⟩ := va_join (wr := pickW (ceX11_nearest cyI cyB cyJ cyZ a0 a1 a2 a3 a4 b0_image b0_before b0_taken b0_tape b0_five b0_walk b0_ends b0_manX b0_manY b0_dogX b0_dogY b0_row b0_round b0_farOne b0_leads b0_drags b0_from b0_near g0_hasImage g0_remembered g0_taped g0_point g0_end g0_begin g0_deep g0_faultAt g0_steps f1 0 g0_men g0_dogs f2 f3 f4) [1, 2, 3, 4]) (w1 := (ceX11_throwsIf cyI cyB cyJ cyZ a0 a1 b0_image b0_before b0_taken b0_tape b0_five a2 a3 a4 b0_walk b0_ends b0_manX b0_manY b0_dogX b0_dogY b0_row b0_round b0_farOne b0_leads b0_drags b0_from b0_near g0_hasImage g0_remembered g0_taped g0_point g0_end g0_begin g0_deep g0_faultAt g0_steps g0_men g0_dogs u3)) hP hD [0] [1, 2, 3, 4] rfl rfl (by decide) (by decide) hk1 hFc hP1 hD1
  have hP := hP.sub (ws' := (ceX11_nearest cyI cyB cyJ cyZ a0 a1 a2 a3 a4 b0_image b0_before b0_taken b0_tape b0_five b0_walk b0_ends b0_manX b0_manY b0_dogX b0_dogY b0_row b0_round b0_farOne b0_leads b0_drags b0_from b0_near g0_hasImage g0_remembered g0_taped g0_point g0_end g0_begin g0_deep g0_faultAt g0_steps f1 u3 g0_men g0_dogs f2 f3 f4)) [4, 0, 1, 2, 3] rfl
  have hD := hD.sub (ws' := (ceX11_nearest cyI cyB cyJ cyZ a0 a1 a2 a3 a4 b0_image b0_before b0_taken b0_tape b0_five b0_walk b0_ends b0_manX b0_manY b0_dogX b0_dogY b0_row b0_round b0_farOne b0_leads b0_drags b0_from b0_near g0_hasImage g0_remembered g0_taped g0_point g0_end g0_begin g0_deep g0_faultAt g0_steps f1 u3 g0_men g0_dogs f2 f3 f4)) [4, 0, 1, 2, 3] (by decide) rfl
  generalize H1 = H at hP hS ⊢
  refine lv_if_eq (tgt := 22) hx hb dX11_nearest_15 (by decide) (fun hc => ?_) (fun hc => ?_)
  · have hw := hw.1 hc
    refine lv_aload_n hx hb dX11_nearest_22 rfl (lv_at hl 0 rfl) ?_
    refine lv_iload_n hx hb dX11_nearest_23 rfl (lv_at hl 1 rfl) ?_
    refine lv_iload_n hx hb dX11_nearest_24 rfl (lv_at hl 2 rfl) ?_
    have hPc := hP.sub (ws' := (ceX11_nearestOf cyI cyB cyJ cyZ a0 a1 a2 a3 a4 b0_image b0_before b0_taken b0_tape b0_five b0_walk b0_ends b0_manX b0_manY b0_dogX b0_dogY b0_row b0_round b0_farOne b0_leads b0_drags b0_from b0_near u3 g0_hasImage g0_remembered g0_taped g0_point g0_end g0_begin g0_deep g0_faultAt g0_steps f1 g0_men g0_dogs f2 f3 f4)) [0, 1, 2, 3, 4] rfl
    have hDc := hD.sub (ws' := (ceX11_nearestOf cyI cyB cyJ cyZ a0 a1 a2 a3 a4 b0_image b0_before b0_taken b0_tape b0_five b0_walk b0_ends b0_manX b0_manY b0_dogX b0_dogY b0_row b0_round b0_farOne b0_leads b0_drags b0_from b0_near u3 g0_hasImage g0_remembered g0_taped g0_point g0_end g0_begin g0_deep g0_faultAt g0_steps f1 g0_men g0_dogs f2 f3 f4)) [0, 1, 2, 3, 4] (by decide) rfl
    have hFc := va_free (wc := (ceX11_nearestOf cyI cyB cyJ cyZ a0 a1 a2 a3 a4 b0_image b0_before b0_taken b0_tape b0_five b0_walk b0_ends b0_manX b0_manY b0_dogX b0_dogY b0_row b0_round b0_farOne b0_leads b0_drags b0_from b0_near u3 g0_hasImage g0_remembered g0_taped g0_point g0_end g0_begin g0_deep g0_faultAt g0_steps f1 g0_men g0_dogs f2 f3 f4)) hD hS hA [0, 1, 2, 3, 4] rfl
    refine va_calli (va_runV (As := [.int p0, .int p1]) (rest := []) ⟨hx, hb, hml, hown, hts⟩ (ctX11_nearestOf l dC dI cyI cyB cyJ cyZ _ a0 a1 a2 a3 a4 b0_image b0_before b0_taken b0_tape b0_five b0_walk b0_ends b0_manX b0_manY b0_dogX b0_dogY b0_row b0_round b0_farOne b0_leads b0_drags b0_from b0_near u3 g0_hasImage g0_remembered g0_taped g0_point g0_end g0_begin g0_deep g0_faultAt g0_steps f1 g0_men g0_dogs f2 f3 f4 p0 p1 _ hw) (cwV 2 hts gX11_nearest_X11_nearestOf rfl rfl rfl (by decide +kernel) ⟨Nat.le_of_ble_eq_true rfl, Nat.le_of_ble_eq_true rfl⟩) ⟨wPre_blind, va_recv hK hPc (ci := 11) (q0 := 0) rfl rfl, fun U hU hW => wPre_of hPc hK hDc hN hU hW⟩ rfl rfl hl.1 rfl (lv_room (Nat.le_of_ble_eq_true rfl)) dX11_nearest_25 ⟨(Nat.zero_le _), (Nat.zero_le _)⟩) hS (fun q _ h => hFc q h) hFc (fun r6 u5 t H1 locs ht hvm hw hB hz1 hk1 hS => ?_)
    obtain ⟨hP1, hK1, hD1⟩ := hB
    rw [ht] at hP1
    obtain ⟨hP, hD⟩ := va_join (wr := pickW (ceX11_nearest cyI cyB cyJ cyZ a0 a1 a2 a3 a4 b0_image b0_before b0_taken b0_tape b0_five b0_walk b0_ends b0_manX b0_manY b0_dogX b0_dogY b0_row b0_round b0_farOne b0_leads b0_drags b0_from b0_near g0_hasImage g0_remembered g0_taped g0_point g0_end g0_begin g0_deep g0_faultAt g0_steps f1 u3 g0_men g0_dogs f2 f3 f4) []) (w1 := (ceX11_nearestOf cyI cyB cyJ cyZ a0 a1 a2 a3 a4 b0_image b0_before b0_taken b0_tape b0_five b0_walk b0_ends b0_manX b0_manY b0_dogX b0_dogY b0_row b0_round b0_farOne b0_leads b0_drags b0_from b0_near u3 g0_hasImage g0_remembered g0_taped g0_point g0_end g0_begin g0_deep g0_faultAt g0_steps f1 u5.1 u5.2.1 u5.2.2.1 u5.2.2.2.1 u5.2.2.2.2)) hP hD [0, 1, 2, 3, 4] [] rfl rfl (by decide) (by decide) hk1 hFc hP1 hD1
    have hP := hP.sub (ws' := (ceX11_nearest cyI cyB cyJ cyZ a0 a1 a2 a3 a4 b0_image b0_before b0_taken b0_tape b0_five b0_walk b0_ends b0_manX b0_manY b0_dogX b0_dogY b0_row b0_round b0_farOne b0_leads b0_drags b0_from b0_near g0_hasImage g0_remembered g0_taped g0_point g0_end g0_begin g0_deep g0_faultAt g0_steps f1 u3 u5.1 u5.2.1 u5.2.2.1 u5.2.2.2.1 u5.2.2.2.2)) [0, 1, 2, 3, 4] rfl
    have hD := hD.sub (ws' := (ceX11_nearest cyI cyB cyJ cyZ a0 a1 a2 a3 a4 b0_image b0_before b0_taken b0_tape b0_five b0_walk b0_ends b0_manX b0_manY b0_dogX b0_dogY b0_row b0_round b0_farOne b0_leads b0_drags b0_from b0_near g0_hasImage g0_remembered g0_taped g0_point g0_end g0_begin g0_deep g0_faultAt g0_steps f1 u3 u5.1 u5.2.1 u5.2.2.1 u5.2.2.2.1 u5.2.2.2.2)) [0, 1, 2, 3, 4] (by decide) rfl
    generalize H1 = H at hP hS ⊢
    rw [hQ]
    exact W.iret (v := r6) hx hb hr (fun t ht hW => ⟨⟨r6, (u3, u5.1, u5.2.1, u5.2.2.1, u5.2.2.2.1, u5.2.2.2.2), rfl, hw, by rw [ht]; exact hP, va_K.moved hW.alike hK, hD⟩, hS.F ht⟩) hS.2.2 dX11_nearest_28
  · have hw := hw.2 hc
    refine lv_iconst (v := 0) hx hb dX11_nearest_18 (by decide) ?_
    refine lv_goto (tgt := 28) hx hb dX11_nearest_19 (by decide) ?_
    rw [hQ]
    exact W.iret (v := 0) hx hb hr (fun t ht hW => ⟨⟨0, (u3, g0_men, g0_dogs, f2, f3, f4), rfl, hw, by rw [ht]; exact hP, va_K.moved hW.alike hK, hD⟩, hS.F ht⟩) hS.2.2 dX11_nearest_28
/-! LeadParkModel.middle (I)I -/
abbrev ceX11_middle (cyI cyB cyJ cyZ : ClassId) (a0 a1 a2 a3 a4 b0_image b0_before b0_taken b0_tape b0_five b0_walk b0_ends b0_manX b0_manY b0_dogX b0_dogY b0_row b0_round b0_farOne b0_leads b0_drags b0_from b0_near : Nat) (g0_hasImage : Int32) (g0_remembered : Int32) (g0_taped : Int32) (g0_point : Int32) (g0_end : Int32) (g0_begin : Int32) (g0_deep : Int32) (g0_faultAt : Int32) (g0_steps : Int32) (f1 : Nat → Int32) (g0_thrown : Int32) (g0_men : Int32) (g0_dogs : Int32) (f2 : Nat → Int32) (f3 : Nat → Int32) (f4 : Nat → Int32) : va_W := [(a0, .inr (11, [.int g0_thrown, .ref a1, .ref b0_image, .ref b0_before, .int g0_hasImage, .ref b0_taken, .int g0_remembered, .ref b0_tape, .int g0_taped, .int g0_point, .int g0_end, .int g0_begin, .int g0_deep, .int g0_faultAt, .ref b0_five, .int g0_steps, .ref a2, .ref a3, .int g0_men, .int g0_dogs, .ref a4, .ref b0_walk, .ref b0_ends, .ref b0_manX, .ref b0_manY, .ref b0_dogX, .ref b0_dogY, .ref b0_row, .ref b0_round, .ref b0_farOne, .ref b0_leads, .ref b0_drags, .ref b0_from, .ref b0_near])), (a1, .inl (cyI, 2508, .inl f1)), (a2, .inl (cyI, 400, .inl f2)), (a3, .inl (cyI, 900, .inl f3)), (a4, .inl (cyI, 900, .inl f4))]

theorem inX11_middle_X11 : ∀ w ∈ wsX110, w ∈ wsX11_middle := fun _ h => List.mem_cons_of_mem _ (List.mem_append_right _ h)
abbrev rmX11_middle : Room := { frames := 7, cells := 0, slots := 0, locals := 188 }
set_option maxRecDepth 100000 in
set_option maxHeartbeats 4000000 in
theorem bX11_middle_102 {p : Program} {l : Launch} {e : Env} {s : State} {m : MethodId} {args : Array Value} {below : List Frame} {meth : Method} {c : Code} {dC : Nat → ClassId} {dI : Nat → Nat → Nat} {cyI cyB cyJ cyZ : ClassId} {A : Nat → Prop} {a0 a1 a2 a3 a4 b0_image b0_before b0_taken b0_tape b0_five b0_walk b0_ends b0_manX b0_manY b0_dogX b0_dogY b0_row b0_round b0_farOne b0_leads b0_drags b0_from b0_near : Nat} {g0_hasImage : Int32} {g0_remembered : Int32} {g0_taped : Int32} {g0_point : Int32} {g0_end : Int32} {g0_begin : Int32} {g0_deep : Int32} {g0_faultAt : Int32} {g0_steps : Int32} (C0 : cxM p s m meth c args wsX11_middle RX11 cX11_middle 7 (some .int)) (hK : va_K (dC, dI) vwCl (tyA cyI cyB cyJ cyZ) s) (hN : nwA s) (hA : ∀ q : Nat, s.heap.size ≤ q → A q) {post : Int32 → (Int32 × Int32 × Int32 × (Nat → Int32) × (Nat → Int32) × (Nat → Int32)) → Prop} {f1 : Nat → Int32} {k14 : Int32 → Int32 → Int32 → (Nat → Int32) → (Nat → Int32) → (Nat → Int32) → Int32 → Int32 → Int32 → Int32 → Prop} {Q : State → Prop} (hQ : Q = MQ below (va_Qi post (fun u : Int32 × Int32 × Int32 × (Nat → Int32) × (Nat → Int32) × (Nat → Int32) => wAt dC dI cyI cyB cyJ cyZ A (ceX11_middle cyI cyB cyJ cyZ a0 a1 a2 a3 a4 b0_image b0_before b0_taken b0_tape b0_five b0_walk b0_ends b0_manX b0_manY b0_dogX b0_dogY b0_row b0_round b0_farOne b0_leads b0_drags b0_from b0_near g0_hasImage g0_remembered g0_taped g0_point g0_end g0_begin g0_deep g0_faultAt g0_steps f1 u.1 u.2.1 u.2.2.1 u.2.2.2.1 u.2.2.2.2.1 u.2.2.2.2.2)) A) args s 0 0 A) (hk14 : ∀ (g0_thrown : Int32) (g0_men : Int32) (g0_dogs : Int32) (f2 : Nat → Int32) (f3 : Nat → Int32) (f4 : Nat → Int32) (x1 : Int32) (x2 : Int32) (x3 : Int32) (x4 : Int32), k14 g0_thrown g0_men g0_dogs f2 f3 f4 x1 x2 x3 x4 → AtW p l e rmX11_middle s m args below meth c dC dI A Q 7 0 0 (ceX11_middle cyI cyB cyJ cyZ a0 a1 a2 a3 a4 b0_image b0_before b0_taken b0_tape b0_five b0_walk b0_ends b0_manX b0_manY b0_dogX b0_dogY b0_row b0_round b0_farOne b0_leads b0_drags b0_from b0_near g0_hasImage g0_remembered g0_taped g0_point g0_end g0_begin g0_deep g0_faultAt g0_steps f1 g0_thrown g0_men g0_dogs f2 f3 f4) [(0, .ref a0), (1, .int x1), (2, .int x2), (3, .int x3), (4, .int x4)] 14 []) : ∀ (g0_thrown : Int32) (g0_men : Int32) (g0_dogs : Int32) (f2 : Nat → Int32) (f3 : Nat → Int32) (f4 : Nat → Int32) (x1 : Int32) (x2 : Int32) (x3 : Int32) (x4 : Int32), wpX11_middle_102 k14 post f1 g0_thrown g0_men g0_dogs f2 f3 f4 x1 x2 x3 x4 → AtW p l e rmX11_middle s m args below meth c dC dI A Q 7 0 0 (ceX11_middle cyI cyB cyJ cyZ a0 a1 a2 a3 a4 b0_image b0_before b0_taken b0_tape b0_five b0_walk b0_ends b0_manX b0_manY b0_dogX b0_dogY b0_row b0_round b0_farOne b0_leads b0_drags b0_from b0_near g0_hasImage g0_remembered g0_taped g0_point g0_end g0_begin g0_deep g0_faultAt g0_steps f1 g0_thrown g0_men g0_dogs f2 f3 f4) [(0, .ref a0), (1, .int x1), (2, .int x2), (3, .int x3), (4, .int x4)] 102 [] := by
  intro g0_thrown g0_men g0_dogs f2 f3 f4 x1 x2 x3 x4 hw H locs hP hD hS ls hl
  have C1 := C0
  obtain ⟨hx, hb, hr, hml, hown, hts, hlocks⟩ := C1
  obtain ⟨v1, ev1⟩ : ∃ y : Int32, y = x4 + 1 := ⟨_, rfl⟩
  have hw := hw v1 ev1
  refine lv_iinc (v := v1) (lv' := [(4, .int v1), (0, .ref a0), (1, .int x1), (2, .int x2), (3, .int x3)]) hx hb dX11_middle_102 hl (k := 4) rfl (by rw [ev1]; rfl) (by decide) rfl (fun ls hl => ?_)
  refine lv_goto (tgt := 14) hx hb dX11_middle_105 (by decide) ?_
  exact hk14 g0_thrown g0_men g0_dogs f2 f3 f4 x1 x2 x3 v1 hw H locs hP hD hS ls (lv_sub hl [1, 2, 3, 4, 0] rfl)
set_option maxRecDepth 100000 in
set_option maxHeartbeats 4000000 in
theorem bX11_middle_81 {p : Program} {l : Launch} {e : Env} {s : State} {m : MethodId} {args : Array Value} {below : List Frame} {meth : Method} {c : Code} {dC : Nat → ClassId} {dI : Nat → Nat → Nat} {cyI cyB cyJ cyZ : ClassId} {A : Nat → Prop} {a0 a1 a2 a3 a4 b0_image b0_before b0_taken b0_tape b0_five b0_walk b0_ends b0_manX b0_manY b0_dogX b0_dogY b0_row b0_round b0_farOne b0_leads b0_drags b0_from b0_near : Nat} {g0_hasImage : Int32} {g0_remembered : Int32} {g0_taped : Int32} {g0_point : Int32} {g0_end : Int32} {g0_begin : Int32} {g0_deep : Int32} {g0_faultAt : Int32} {g0_steps : Int32} (C0 : cxM p s m meth c args wsX11_middle RX11 cX11_middle 7 (some .int)) (hK : va_K (dC, dI) vwCl (tyA cyI cyB cyJ cyZ) s) (hN : nwA s) (hA : ∀ q : Nat, s.heap.size ≤ q → A q) {post : Int32 → (Int32 × Int32 × Int32 × (Nat → Int32) × (Nat → Int32) × (Nat → Int32)) → Prop} {f1 : Nat → Int32} {k41 : Int32 → Int32 → Int32 → (Nat → Int32) → (Nat → Int32) → (Nat → Int32) → Int32 → Int32 → Int32 → Int32 → Int32 → Int32 → Prop} {k14 : Int32 → Int32 → Int32 → (Nat → Int32) → (Nat → Int32) → (Nat → Int32) → Int32 → Int32 → Int32 → Int32 → Prop} {Q : State → Prop} (hQ : Q = MQ below (va_Qi post (fun u : Int32 × Int32 × Int32 × (Nat → Int32) × (Nat → Int32) × (Nat → Int32) => wAt dC dI cyI cyB cyJ cyZ A (ceX11_middle cyI cyB cyJ cyZ a0 a1 a2 a3 a4 b0_image b0_before b0_taken b0_tape b0_five b0_walk b0_ends b0_manX b0_manY b0_dogX b0_dogY b0_row b0_round b0_farOne b0_leads b0_drags b0_from b0_near g0_hasImage g0_remembered g0_taped g0_point g0_end g0_begin g0_deep g0_faultAt g0_steps f1 u.1 u.2.1 u.2.2.1 u.2.2.2.1 u.2.2.2.2.1 u.2.2.2.2.2)) A) args s 0 0 A) (hk41 : ∀ (g0_thrown : Int32) (g0_men : Int32) (g0_dogs : Int32) (f2 : Nat → Int32) (f3 : Nat → Int32) (f4 : Nat → Int32) (x1 : Int32) (x2 : Int32) (x3 : Int32) (x4 : Int32) (x5 : Int32) (x6 : Int32), k41 g0_thrown g0_men g0_dogs f2 f3 f4 x1 x2 x3 x4 x5 x6 → AtW p l e rmX11_middle s m args below meth c dC dI A Q 7 0 0 (ceX11_middle cyI cyB cyJ cyZ a0 a1 a2 a3 a4 b0_image b0_before b0_taken b0_tape b0_five b0_walk b0_ends b0_manX b0_manY b0_dogX b0_dogY b0_row b0_round b0_farOne b0_leads b0_drags b0_from b0_near g0_hasImage g0_remembered g0_taped g0_point g0_end g0_begin g0_deep g0_faultAt g0_steps f1 g0_thrown g0_men g0_dogs f2 f3 f4) [(0, .ref a0), (1, .int x1), (2, .int x2), (3, .int x3), (4, .int x4), (5, .int x5), (6, .int x6)] 41 []) (hk14 : ∀ (g0_thrown : Int32) (g0_men : Int32) (g0_dogs : Int32) (f2 : Nat → Int32) (f3 : Nat → Int32) (f4 : Nat → Int32) (x1 : Int32) (x2 : Int32) (x3 : Int32) (x4 : Int32), k14 g0_thrown g0_men g0_dogs f2 f3 f4 x1 x2 x3 x4 → AtW p l e rmX11_middle s m args below meth c dC dI A Q 7 0 0 (ceX11_middle cyI cyB cyJ cyZ a0 a1 a2 a3 a4 b0_image b0_before b0_taken b0_tape b0_five b0_walk b0_ends b0_manX b0_manY b0_dogX b0_dogY b0_row b0_round b0_farOne b0_leads b0_drags b0_from b0_near g0_hasImage g0_remembered g0_taped g0_point g0_end g0_begin g0_deep g0_faultAt g0_steps f1 g0_thrown g0_men g0_dogs f2 f3 f4) [(0, .ref a0), (1, .int x1), (2, .int x2), (3, .int x3), (4, .int x4)] 14 []) : ∀ (g0_thrown : Int32) (g0_men : Int32) (g0_dogs : Int32) (f2 : Nat → Int32) (f3 : Nat → Int32) (f4 : Nat → Int32) (x1 : Int32) (x2 : Int32) (x3 : Int32) (x4 : Int32) (x5 : Int32) (x6 : Int32), wpX11_middle_81 k41 k14 post f1 g0_thrown g0_men g0_dogs f2 f3 f4 x1 x2 x3 x4 x5 x6 → AtW p l e rmX11_middle s m args below meth c dC dI A Q 7 0 0 (ceX11_middle cyI cyB cyJ cyZ a0 a1 a2 a3 a4 b0_image b0_before b0_taken b0_tape b0_five b0_walk b0_ends b0_manX b0_manY b0_dogX b0_dogY b0_row b0_round b0_farOne b0_leads b0_drags b0_from b0_near g0_hasImage g0_remembered g0_taped g0_point g0_end g0_begin g0_deep g0_faultAt g0_steps f1 g0_thrown g0_men g0_dogs f2 f3 f4) [(0, .ref a0), (1, .int x1), (2, .int x2), (3, .int x3), (4, .int x4), (5, .int x5), (6, .int x6)] 81 [] := by
  intro g0_thrown g0_men g0_dogs f2 f3 f4 x1 x2 x3 x4 x5 x6 hw H locs hP hD hS ls hl
  have C1 := C0
  obtain ⟨hx, hb, hr, hml, hown, hts, hlocks⟩ := C1
  obtain ⟨v1, ev1⟩ : ∃ y : Int32, y = x6 + 1 := ⟨_, rfl⟩
  have hw := hw v1 ev1
  refine lv_iinc (v := v1) (lv' := [(6, .int v1), (0, .ref a0), (1, .int x1), (2, .int x2), (3, .int x3), (4, .int x4), (5, .int x5)]) hx hb dX11_middle_81 hl (k := 6) rfl (by rw [ev1]; rfl) (by decide) rfl (fun ls hl => ?_)
  refine lv_goto (tgt := 41) hx hb dX11_middle_84 (by decide) ?_
  exact hk41 g0_thrown g0_men g0_dogs f2 f3 f4 x1 x2 x3 x4 x5 v1 hw H locs hP hD hS ls (lv_sub hl [1, 2, 3, 4, 5, 6, 0] rfl)
set_option maxRecDepth 100000 in
set_option maxHeartbeats 4000000 in
theorem bX11_middle_41 {p : Program} {l : Launch} {e : Env} {s : State} {m : MethodId} {args : Array Value} {below : List Frame} {meth : Method} {c : Code} {dC : Nat → ClassId} {dI : Nat → Nat → Nat} {cyI cyB cyJ cyZ : ClassId} {A : Nat → Prop} {a0 a1 a2 a3 a4 b0_image b0_before b0_taken b0_tape b0_five b0_walk b0_ends b0_manX b0_manY b0_dogX b0_dogY b0_row b0_round b0_farOne b0_leads b0_drags b0_from b0_near : Nat} {g0_hasImage : Int32} {g0_remembered : Int32} {g0_taped : Int32} {g0_point : Int32} {g0_end : Int32} {g0_begin : Int32} {g0_deep : Int32} {g0_faultAt : Int32} {g0_steps : Int32} (C0 : cxM p s m meth c args wsX11_middle RX11 cX11_middle 7 (some .int)) (hK : va_K (dC, dI) vwCl (tyA cyI cyB cyJ cyZ) s) (hN : nwA s) (hA : ∀ q : Nat, s.heap.size ≤ q → A q) {post : Int32 → (Int32 × Int32 × Int32 × (Nat → Int32) × (Nat → Int32) × (Nat → Int32)) → Prop} {f1 : Nat → Int32} {k14 : Int32 → Int32 → Int32 → (Nat → Int32) → (Nat → Int32) → (Nat → Int32) → Int32 → Int32 → Int32 → Int32 → Prop} {Q : State → Prop} (hQ : Q = MQ below (va_Qi post (fun u : Int32 × Int32 × Int32 × (Nat → Int32) × (Nat → Int32) × (Nat → Int32) => wAt dC dI cyI cyB cyJ cyZ A (ceX11_middle cyI cyB cyJ cyZ a0 a1 a2 a3 a4 b0_image b0_before b0_taken b0_tape b0_five b0_walk b0_ends b0_manX b0_manY b0_dogX b0_dogY b0_row b0_round b0_farOne b0_leads b0_drags b0_from b0_near g0_hasImage g0_remembered g0_taped g0_point g0_end g0_begin g0_deep g0_faultAt g0_steps f1 u.1 u.2.1 u.2.2.1 u.2.2.2.1 u.2.2.2.2.1 u.2.2.2.2.2)) A) args s 0 0 A) (hk14 : ∀ (g0_thrown : Int32) (g0_men : Int32) (g0_dogs : Int32) (f2 : Nat → Int32) (f3 : Nat → Int32) (f4 : Nat → Int32) (x1 : Int32) (x2 : Int32) (x3 : Int32) (x4 : Int32), k14 g0_thrown g0_men g0_dogs f2 f3 f4 x1 x2 x3 x4 → AtW p l e rmX11_middle s m args below meth c dC dI A Q 7 0 0 (ceX11_middle cyI cyB cyJ cyZ a0 a1 a2 a3 a4 b0_image b0_before b0_taken b0_tape b0_five b0_walk b0_ends b0_manX b0_manY b0_dogX b0_dogY b0_row b0_round b0_farOne b0_leads b0_drags b0_from b0_near g0_hasImage g0_remembered g0_taped g0_point g0_end g0_begin g0_deep g0_faultAt g0_steps f1 g0_thrown g0_men g0_dogs f2 f3 f4) [(0, .ref a0), (1, .int x1), (2, .int x2), (3, .int x3), (4, .int x4)] 14 []) : ∀ (n : Nat) (g0_thrown : Int32) (g0_men : Int32) (g0_dogs : Int32) (f2 : Nat → Int32) (f3 : Nat → Int32) (f4 : Nat → Int32) (x1 : Int32) (x2 : Int32) (x3 : Int32) (x4 : Int32) (x5 : Int32) (x6 : Int32), wpX11_middle_41 k14 post f1 n g0_thrown g0_men g0_dogs f2 f3 f4 x1 x2 x3 x4 x5 x6 → AtW p l e rmX11_middle s m args below meth c dC dI A Q 7 0 0 (ceX11_middle cyI cyB cyJ cyZ a0 a1 a2 a3 a4 b0_image b0_before b0_taken b0_tape b0_five b0_walk b0_ends b0_manX b0_manY b0_dogX b0_dogY b0_row b0_round b0_farOne b0_leads b0_drags b0_from b0_near g0_hasImage g0_remembered g0_taped g0_point g0_end g0_begin g0_deep g0_faultAt g0_steps f1 g0_thrown g0_men g0_dogs f2 f3 f4) [(0, .ref a0), (1, .int x1), (2, .int x2), (3, .int x3), (4, .int x4), (5, .int x5), (6, .int x6)] 41 [] := by
  intro n
  induction n with
  | zero => intro g0_thrown g0_men g0_dogs f2 f3 f4 x1 x2 x3 x4 x5 x6 hw; exact False.elim hw
  | succ n ih =>
    intro g0_thrown g0_men g0_dogs f2 f3 f4 x1 x2 x3 x4 x5 x6 hw H locs hP hD hS ls hl
    have C1 := C0
    obtain ⟨hx, hb, hr, hml, hown, hts, hlocks⟩ := C1
    refine lv_iload hx hb dX11_middle_41 (lv_at hl 6 rfl) ?_
    refine lv_aload_n hx hb dX11_middle_43 rfl (lv_at hl 0 rfl) ?_
    have hPc := hP.sub (ws' := (ceX11_ways cyI cyB cyJ cyZ a0 a1 b0_image b0_before b0_taken b0_tape b0_five a2 a3 a4 b0_walk b0_ends b0_manX b0_manY b0_dogX b0_dogY b0_row b0_round b0_farOne b0_leads b0_drags b0_from b0_near g0_thrown g0_hasImage g0_remembered g0_taped g0_point g0_end g0_begin g0_deep g0_faultAt g0_steps g0_men g0_dogs f1)) [0, 1] rfl
    have hDc := hD.sub (ws' := (ceX11_ways cyI cyB cyJ cyZ a0 a1 b0_image b0_before b0_taken b0_tape b0_five a2 a3 a4 b0_walk b0_ends b0_manX b0_manY b0_dogX b0_dogY b0_row b0_round b0_farOne b0_leads b0_drags b0_from b0_near g0_thrown g0_hasImage g0_remembered g0_taped g0_point g0_end g0_begin g0_deep g0_faultAt g0_steps g0_men g0_dogs f1)) [0, 1] (by decide) rfl
    have hFc := va_free (wc := (ceX11_ways cyI cyB cyJ cyZ a0 a1 b0_image b0_before b0_taken b0_tape b0_five a2 a3 a4 b0_walk b0_ends b0_manX b0_manY b0_dogX b0_dogY b0_row b0_round b0_farOne b0_leads b0_drags b0_from b0_near g0_thrown g0_hasImage g0_remembered g0_taped g0_point g0_end g0_begin g0_deep g0_faultAt g0_steps g0_men g0_dogs f1)) hD hS hA [0, 1] rfl
    refine va_calli (va_runV (As := []) (rest := [.int x6]) ⟨hx, hb, hml, hown, hts⟩ (ctX11_ways l dC dI cyI cyB cyJ cyZ _ a0 a1 b0_image b0_before b0_taken b0_tape b0_five a2 a3 a4 b0_walk b0_ends b0_manX b0_manY b0_dogX b0_dogY b0_row b0_round b0_farOne b0_leads b0_drags b0_from b0_near g0_thrown g0_hasImage g0_remembered g0_taped g0_point g0_end g0_begin g0_deep g0_faultAt g0_steps g0_men g0_dogs f1 _ hw) (cwV 0 hts gX11_middle_X11_ways rfl rfl rfl (by decide +kernel) ⟨Nat.le_of_ble_eq_true rfl, Nat.le_of_ble_eq_true rfl⟩) ⟨wPre_blind, va_recv hK hPc (ci := 11) (q0 := 0) rfl rfl, fun U hU hW => wPre_of hPc hK hDc hN hU hW⟩ rfl rfl hl.1 rfl (lv_room (Nat.le_of_ble_eq_true rfl)) dX11_middle_44 ⟨(Nat.zero_le _), (Nat.zero_le _)⟩) hS (fun q _ h => hFc q h) hFc (fun r2 u1 t H1 locs ht hvm hw hB hz1 hk1 hS => ?_)
    obtain ⟨hP1, hK1, hD1⟩ := hB
    rw [ht] at hP1
    obtain ⟨hP, hD⟩ := va_join (wr := pickW (ceX11_middle cyI cyB cyJ cyZ a0 a1 a2 a3 a4 b0_image b0_before b0_taken b0_tape b0_five b0_walk b0_ends b0_manX b0_manY b0_dogX b0_dogY b0_row b0_round b0_farOne b0_leads b0_drags b0_from b0_near g0_hasImage g0_remembered g0_taped g0_point g0_end g0_begin g0_deep g0_faultAt g0_steps f1 g0_thrown g0_men g0_dogs f2 f3 f4) [2, 3, 4]) (w1 := (ceX11_ways cyI cyB cyJ cyZ a0 a1 b0_image b0_before b0_taken b0_tape b0_five a2 a3 a4 b0_walk b0_ends b0_manX b0_manY b0_dogX b0_dogY b0_row b0_round b0_farOne b0_leads b0_drags b0_from b0_near g0_thrown g0_hasImage g0_remembered g0_taped g0_point g0_end g0_begin g0_deep g0_faultAt g0_steps g0_men g0_dogs f1)) hP hD [0, 1] [2, 3, 4] rfl rfl (by decide) (by decide) hk1 hFc hP1 hD1
    have hP := hP.sub (ws' := (ceX11_middle cyI cyB cyJ cyZ a0 a1 a2 a3 a4 b0_image b0_before b0_taken b0_tape b0_five b0_walk b0_ends b0_manX b0_manY b0_dogX b0_dogY b0_row b0_round b0_farOne b0_leads b0_drags b0_from b0_near g0_hasImage g0_remembered g0_taped g0_point g0_end g0_begin g0_deep g0_faultAt g0_steps f1 g0_thrown g0_men g0_dogs f2 f3 f4)) [3, 4, 0, 1, 2] rfl
    have hD := hD.sub (ws' := (ceX11_middle cyI cyB cyJ cyZ a0 a1 a2 a3 a4 b0_image b0_before b0_taken b0_tape b0_five b0_walk b0_ends b0_manX b0_manY b0_dogX b0_dogY b0_row b0_round b0_farOne b0_leads b0_drags b0_from b0_near g0_hasImage g0_remembered g0_taped g0_point g0_end g0_begin g0_deep g0_faultAt g0_steps f1 g0_thrown g0_men g0_dogs f2 f3 f4)) [3, 4, 0, 1, 2] (by decide) rfl
    generalize H1 = H at hP hS ⊢
    refine lv_icmp_ge (tgt := 87) hx hb dX11_middle_47 (by decide) (fun hc => ?_) (fun hc => ?_)
    · have hw := hw.1 hc
      refine lv_iload hx hb dX11_middle_87 (lv_at hl 5 rfl) ?_
      refine lv_iload_n hx hb dX11_middle_89 rfl (lv_at hl 3 rfl) ?_
      refine lv_icmp_lt (tgt := 96) hx hb dX11_middle_90 (by decide) (fun hc => ?_) (fun hc => ?_)
      · have hw := hw.1 hc
        refine lv_iload hx hb dX11_middle_96 (lv_at hl 4 rfl) ?_
        refine lv_istore_n (lv' := [(2, .int x4), (0, .ref a0), (1, .int x1), (3, .int x3), (4, .int x4), (5, .int x5), (6, .int x6)]) hx hb dX11_middle_98 rfl hl (by decide) rfl (fun ls hl => ?_)
        refine lv_iload hx hb dX11_middle_99 (lv_at hl 5 rfl) ?_
        refine lv_istore_n (lv' := [(3, .int x5), (2, .int x4), (0, .ref a0), (1, .int x1), (4, .int x4), (5, .int x5), (6, .int x6)]) hx hb dX11_middle_101 rfl hl (by decide) rfl (fun ls hl => ?_)
        exact bX11_middle_102 C0 hK hN hA hQ hk14 g0_thrown g0_men g0_dogs f2 f3 f4 x1 x4 x5 x4 hw _ _ hP hD hS ls (lv_sub hl [2, 3, 1, 0, 4] rfl)
      · have hw := hw.2 hc
        refine lv_goto (tgt := 102) hx hb dX11_middle_93 (by decide) ?_
        exact bX11_middle_102 C0 hK hN hA hQ hk14 g0_thrown g0_men g0_dogs f2 f3 f4 x1 x2 x3 x4 hw _ _ hP hD hS ls (lv_sub hl [0, 1, 2, 3, 4] rfl)
    · have hw := hw.2 hc
      refine lv_iload hx hb dX11_middle_50 (lv_at hl 6 rfl) ?_
      refine lv_iload hx hb dX11_middle_52 (lv_at hl 4 rfl) ?_
      refine lv_icmp_eq (tgt := 81) hx hb dX11_middle_54 (by decide) (fun hc => ?_) (fun hc => ?_)
      · have hw := hw.1 hc
        exact bX11_middle_81 C0 hK hN hA hQ ih hk14 g0_thrown g0_men g0_dogs f2 f3 f4 x1 x2 x3 x4 x5 x6 hw _ _ hP hD hS ls (lv_sub hl [0, 1, 2, 3, 4, 5, 6] rfl)
      · have hw := hw.2 hc
        refine lv_iload_n hx hb dX11_middle_57 rfl (lv_at hl 1 rfl) ?_
        refine lv_iload hx hb dX11_middle_58 (lv_at hl 6 rfl) ?_
        have hPc := hP.sub (ws' := ([] : va_W)) [] rfl
        have hDc := hD.sub (ws' := ([] : va_W)) [] (by decide) rfl
        have hFc := va_free (wc := ([] : va_W)) hD hS hA [] rfl
        refine va_calli (va_runS (As := [.int x1, .int x6]) (rest := []) ⟨hx, hb, hml, hown, hts⟩ (ctX11_has l dC dI cyI cyB cyJ cyZ _ x1 x6 _ hw) (va_cwS 2 hts gX11_middle_X11_has rfl rfl rfl (by decide +kernel) ⟨Nat.le_of_ble_eq_true rfl, Nat.le_of_ble_eq_true rfl⟩) ⟨wPre_blind, fun U hU hW => wPre_of hPc hK hDc hN hU hW⟩ rfl rfl hl.1 rfl (lv_room (Nat.le_of_ble_eq_true rfl)) dX11_middle_60 ⟨(Nat.zero_le _), (Nat.zero_le _)⟩) hS (fun q _ h => hFc q h) hFc (fun r4 u3 t H1 locs ht hvm hw hB hz1 hk1 hS => ?_)
        obtain ⟨hP1, hK1, hD1⟩ := hB
        rw [ht] at hP1
        obtain ⟨hP, hD⟩ := va_join (wr := pickW (ceX11_middle cyI cyB cyJ cyZ a0 a1 a2 a3 a4 b0_image b0_before b0_taken b0_tape b0_five b0_walk b0_ends b0_manX b0_manY b0_dogX b0_dogY b0_row b0_round b0_farOne b0_leads b0_drags b0_from b0_near g0_hasImage g0_remembered g0_taped g0_point g0_end g0_begin g0_deep g0_faultAt g0_steps f1 g0_thrown g0_men g0_dogs f2 f3 f4) [0, 1, 2, 3, 4]) (w1 := ([] : va_W)) hP hD [] [0, 1, 2, 3, 4] rfl rfl (by decide) (by decide) hk1 hFc hP1 hD1
        have hP := hP.sub (ws' := (ceX11_middle cyI cyB cyJ cyZ a0 a1 a2 a3 a4 b0_image b0_before b0_taken b0_tape b0_five b0_walk b0_ends b0_manX b0_manY b0_dogX b0_dogY b0_row b0_round b0_farOne b0_leads b0_drags b0_from b0_near g0_hasImage g0_remembered g0_taped g0_point g0_end g0_begin g0_deep g0_faultAt g0_steps f1 g0_thrown g0_men g0_dogs f2 f3 f4)) [0, 1, 2, 3, 4] rfl
        have hD := hD.sub (ws' := (ceX11_middle cyI cyB cyJ cyZ a0 a1 a2 a3 a4 b0_image b0_before b0_taken b0_tape b0_five b0_walk b0_ends b0_manX b0_manY b0_dogX b0_dogY b0_row b0_round b0_farOne b0_leads b0_drags b0_from b0_near g0_hasImage g0_remembered g0_taped g0_point g0_end g0_begin g0_deep g0_faultAt g0_steps f1 g0_thrown g0_men g0_dogs f2 f3 f4)) [0, 1, 2, 3, 4] (by decide) rfl
        generalize H1 = H at hP hS ⊢
        refine lv_if_eq (tgt := 81) hx hb dX11_middle_63 (by decide) (fun hc => ?_) (fun hc => ?_)
        · have hw := hw.1 hc
          exact bX11_middle_81 C0 hK hN hA hQ ih hk14 g0_thrown g0_men g0_dogs f2 f3 f4 x1 x2 x3 x4 x5 x6 hw _ _ hP hD hS ls (lv_sub hl [0, 1, 2, 3, 4, 5, 6] rfl)
        · have hw := hw.2 hc
          refine lv_iload hx hb dX11_middle_66 (lv_at hl 5 rfl) ?_
          refine lv_aload_n hx hb dX11_middle_68 rfl (lv_at hl 0 rfl) ?_
          refine lv_iload hx hb dX11_middle_69 (lv_at hl 4 rfl) ?_
          refine lv_iload hx hb dX11_middle_71 (lv_at hl 6 rfl) ?_
          have hPc := hP.sub (ws' := (ceX11_leastOf cyI cyB cyJ cyZ a0 a1 a2 a3 a4 b0_image b0_before b0_taken b0_tape b0_five b0_walk b0_ends b0_manX b0_manY b0_dogX b0_dogY b0_row b0_round b0_farOne b0_leads b0_drags b0_from b0_near g0_thrown g0_hasImage g0_remembered g0_taped g0_point g0_end g0_begin g0_deep g0_faultAt g0_steps f1 g0_men g0_dogs f2 f3 f4)) [0, 1, 2, 3, 4] rfl
          have hDc := hD.sub (ws' := (ceX11_leastOf cyI cyB cyJ cyZ a0 a1 a2 a3 a4 b0_image b0_before b0_taken b0_tape b0_five b0_walk b0_ends b0_manX b0_manY b0_dogX b0_dogY b0_row b0_round b0_farOne b0_leads b0_drags b0_from b0_near g0_thrown g0_hasImage g0_remembered g0_taped g0_point g0_end g0_begin g0_deep g0_faultAt g0_steps f1 g0_men g0_dogs f2 f3 f4)) [0, 1, 2, 3, 4] (by decide) rfl
          have hFc := va_free (wc := (ceX11_leastOf cyI cyB cyJ cyZ a0 a1 a2 a3 a4 b0_image b0_before b0_taken b0_tape b0_five b0_walk b0_ends b0_manX b0_manY b0_dogX b0_dogY b0_row b0_round b0_farOne b0_leads b0_drags b0_from b0_near g0_thrown g0_hasImage g0_remembered g0_taped g0_point g0_end g0_begin g0_deep g0_faultAt g0_steps f1 g0_men g0_dogs f2 f3 f4)) hD hS hA [0, 1, 2, 3, 4] rfl
          refine va_calli (va_runV (As := [.int x4, .int x6]) (rest := [.int x5]) ⟨hx, hb, hml, hown, hts⟩ (ctX11_leastOf l dC dI cyI cyB cyJ cyZ _ a0 a1 a2 a3 a4 b0_image b0_before b0_taken b0_tape b0_five b0_walk b0_ends b0_manX b0_manY b0_dogX b0_dogY b0_row b0_round b0_farOne b0_leads b0_drags b0_from b0_near g0_thrown g0_hasImage g0_remembered g0_taped g0_point g0_end g0_begin g0_deep g0_faultAt g0_steps f1 g0_men g0_dogs f2 f3 f4 x4 x6 _ hw) (cwV 2 hts gX11_middle_X11_leastOf rfl rfl rfl (by decide +kernel) ⟨Nat.le_of_ble_eq_true rfl, Nat.le_of_ble_eq_true rfl⟩) ⟨wPre_blind, va_recv hK hPc (ci := 11) (q0 := 0) rfl rfl, fun U hU hW => wPre_of hPc hK hDc hN hU hW⟩ rfl rfl hl.1 rfl (lv_room (Nat.le_of_ble_eq_true rfl)) dX11_middle_73 ⟨(Nat.zero_le _), (Nat.zero_le _)⟩) hS (fun q _ h => hFc q h) hFc (fun r6 u5 t H1 locs ht hvm hw hB hz1 hk1 hS => ?_)
          obtain ⟨hP1, hK1, hD1⟩ := hB
          rw [ht] at hP1
          obtain ⟨hP, hD⟩ := va_join (wr := pickW (ceX11_middle cyI cyB cyJ cyZ a0 a1 a2 a3 a4 b0_image b0_before b0_taken b0_tape b0_five b0_walk b0_ends b0_manX b0_manY b0_dogX b0_dogY b0_row b0_round b0_farOne b0_leads b0_drags b0_from b0_near g0_hasImage g0_remembered g0_taped g0_point g0_end g0_begin g0_deep g0_faultAt g0_steps f1 g0_thrown g0_men g0_dogs f2 f3 f4) []) (w1 := (ceX11_leastOf cyI cyB cyJ cyZ a0 a1 a2 a3 a4 b0_image b0_before b0_taken b0_tape b0_five b0_walk b0_ends b0_manX b0_manY b0_dogX b0_dogY b0_row b0_round b0_farOne b0_leads b0_drags b0_from b0_near g0_thrown g0_hasImage g0_remembered g0_taped g0_point g0_end g0_begin g0_deep g0_faultAt g0_steps f1 u5.1 u5.2.1 u5.2.2.1 u5.2.2.2.1 u5.2.2.2.2)) hP hD [0, 1, 2, 3, 4] [] rfl rfl (by decide) (by decide) hk1 hFc hP1 hD1
          have hP := hP.sub (ws' := (ceX11_middle cyI cyB cyJ cyZ a0 a1 a2 a3 a4 b0_image b0_before b0_taken b0_tape b0_five b0_walk b0_ends b0_manX b0_manY b0_dogX b0_dogY b0_row b0_round b0_farOne b0_leads b0_drags b0_from b0_near g0_hasImage g0_remembered g0_taped g0_point g0_end g0_begin g0_deep g0_faultAt g0_steps f1 g0_thrown u5.1 u5.2.1 u5.2.2.1 u5.2.2.2.1 u5.2.2.2.2)) [0, 1, 2, 3, 4] rfl
          have hD := hD.sub (ws' := (ceX11_middle cyI cyB cyJ cyZ a0 a1 a2 a3 a4 b0_image b0_before b0_taken b0_tape b0_five b0_walk b0_ends b0_manX b0_manY b0_dogX b0_dogY b0_row b0_round b0_farOne b0_leads b0_drags b0_from b0_near g0_hasImage g0_remembered g0_taped g0_point g0_end g0_begin g0_deep g0_faultAt g0_steps f1 g0_thrown u5.1 u5.2.1 u5.2.2.1 u5.2.2.2.1 u5.2.2.2.2)) [0, 1, 2, 3, 4] (by decide) rfl
          generalize H1 = H at hP hS ⊢
          refine va_mmax hx hb (hml.trans hl.1.symm) hown (hts (.methodLink RX11 273 Lib.Math.max.name) (List.mem_of_getElem? (i := 3) rfl)) (hts (.static Lib.Math.max.name) (List.mem_of_getElem? (i := 4) rfl)) (hts (.initialized "java/lang/Math") (List.mem_of_getElem? (i := 5) rfl)) (hts (.code Lib.Math.max.name Lib.Math.max.code 2 (some .int)) (List.mem_of_getElem? (i := 6) rfl)) (Nat.le_of_ble_eq_true rfl) (Nat.le_of_ble_eq_true rfl) (by decide) (by decide) dX11_middle_76 ?_
          refine lv_topi (fun v7 ev7 => ?_)
          have hw := hw v7 ev7
          refine lv_istore (lv' := [(5, .int v7), (0, .ref a0), (1, .int x1), (2, .int x2), (3, .int x3), (4, .int x4), (6, .int x6)]) hx hb dX11_middle_79 hl (by decide) rfl (fun ls hl => ?_)
          exact bX11_middle_81 C0 hK hN hA hQ ih hk14 g0_thrown u5.1 u5.2.1 u5.2.2.1 u5.2.2.2.1 u5.2.2.2.2 x1 x2 x3 x4 v7 x6 hw _ _ hP hD hS ls (lv_sub hl [1, 2, 3, 4, 5, 0, 6] rfl)
set_option maxRecDepth 100000 in
set_option maxHeartbeats 4000000 in
theorem bX11_middle_14 {p : Program} {l : Launch} {e : Env} {s : State} {m : MethodId} {args : Array Value} {below : List Frame} {meth : Method} {c : Code} {dC : Nat → ClassId} {dI : Nat → Nat → Nat} {cyI cyB cyJ cyZ : ClassId} {A : Nat → Prop} {a0 a1 a2 a3 a4 b0_image b0_before b0_taken b0_tape b0_five b0_walk b0_ends b0_manX b0_manY b0_dogX b0_dogY b0_row b0_round b0_farOne b0_leads b0_drags b0_from b0_near : Nat} {g0_hasImage : Int32} {g0_remembered : Int32} {g0_taped : Int32} {g0_point : Int32} {g0_end : Int32} {g0_begin : Int32} {g0_deep : Int32} {g0_faultAt : Int32} {g0_steps : Int32} (C0 : cxM p s m meth c args wsX11_middle RX11 cX11_middle 7 (some .int)) (hK : va_K (dC, dI) vwCl (tyA cyI cyB cyJ cyZ) s) (hN : nwA s) (hA : ∀ q : Nat, s.heap.size ≤ q → A q) {post : Int32 → (Int32 × Int32 × Int32 × (Nat → Int32) × (Nat → Int32) × (Nat → Int32)) → Prop} {f1 : Nat → Int32} {Q : State → Prop} (hQ : Q = MQ below (va_Qi post (fun u : Int32 × Int32 × Int32 × (Nat → Int32) × (Nat → Int32) × (Nat → Int32) => wAt dC dI cyI cyB cyJ cyZ A (ceX11_middle cyI cyB cyJ cyZ a0 a1 a2 a3 a4 b0_image b0_before b0_taken b0_tape b0_five b0_walk b0_ends b0_manX b0_manY b0_dogX b0_dogY b0_row b0_round b0_farOne b0_leads b0_drags b0_from b0_near g0_hasImage g0_remembered g0_taped g0_point g0_end g0_begin g0_deep g0_faultAt g0_steps f1 u.1 u.2.1 u.2.2.1 u.2.2.2.1 u.2.2.2.2.1 u.2.2.2.2.2)) A) args s 0 0 A) : ∀ (n : Nat) (g0_thrown : Int32) (g0_men : Int32) (g0_dogs : Int32) (f2 : Nat → Int32) (f3 : Nat → Int32) (f4 : Nat → Int32) (x1 : Int32) (x2 : Int32) (x3 : Int32) (x4 : Int32), wpX11_middle_14 post f1 n g0_thrown g0_men g0_dogs f2 f3 f4 x1 x2 x3 x4 → AtW p l e rmX11_middle s m args below meth c dC dI A Q 7 0 0 (ceX11_middle cyI cyB cyJ cyZ a0 a1 a2 a3 a4 b0_image b0_before b0_taken b0_tape b0_five b0_walk b0_ends b0_manX b0_manY b0_dogX b0_dogY b0_row b0_round b0_farOne b0_leads b0_drags b0_from b0_near g0_hasImage g0_remembered g0_taped g0_point g0_end g0_begin g0_deep g0_faultAt g0_steps f1 g0_thrown g0_men g0_dogs f2 f3 f4) [(0, .ref a0), (1, .int x1), (2, .int x2), (3, .int x3), (4, .int x4)] 14 [] := by
  intro n
  induction n with
  | zero => intro g0_thrown g0_men g0_dogs f2 f3 f4 x1 x2 x3 x4 hw; exact False.elim hw
  | succ n ih =>
    intro g0_thrown g0_men g0_dogs f2 f3 f4 x1 x2 x3 x4 hw H locs hP hD hS ls hl
    have C1 := C0
    obtain ⟨hx, hb, hr, hml, hown, hts, hlocks⟩ := C1
    refine lv_iload hx hb dX11_middle_14 (lv_at hl 4 rfl) ?_
    refine lv_aload_n hx hb dX11_middle_16 rfl (lv_at hl 0 rfl) ?_
    have hPc := hP.sub (ws' := (ceX11_ways cyI cyB cyJ cyZ a0 a1 b0_image b0_before b0_taken b0_tape b0_five a2 a3 a4 b0_walk b0_ends b0_manX b0_manY b0_dogX b0_dogY b0_row b0_round b0_farOne b0_leads b0_drags b0_from b0_near g0_thrown g0_hasImage g0_remembered g0_taped g0_point g0_end g0_begin g0_deep g0_faultAt g0_steps g0_men g0_dogs f1)) [0, 1] rfl
    have hDc := hD.sub (ws' := (ceX11_ways cyI cyB cyJ cyZ a0 a1 b0_image b0_before b0_taken b0_tape b0_five a2 a3 a4 b0_walk b0_ends b0_manX b0_manY b0_dogX b0_dogY b0_row b0_round b0_farOne b0_leads b0_drags b0_from b0_near g0_thrown g0_hasImage g0_remembered g0_taped g0_point g0_end g0_begin g0_deep g0_faultAt g0_steps g0_men g0_dogs f1)) [0, 1] (by decide) rfl
    have hFc := va_free (wc := (ceX11_ways cyI cyB cyJ cyZ a0 a1 b0_image b0_before b0_taken b0_tape b0_five a2 a3 a4 b0_walk b0_ends b0_manX b0_manY b0_dogX b0_dogY b0_row b0_round b0_farOne b0_leads b0_drags b0_from b0_near g0_thrown g0_hasImage g0_remembered g0_taped g0_point g0_end g0_begin g0_deep g0_faultAt g0_steps g0_men g0_dogs f1)) hD hS hA [0, 1] rfl
    refine va_calli (va_runV (As := []) (rest := [.int x4]) ⟨hx, hb, hml, hown, hts⟩ (ctX11_ways l dC dI cyI cyB cyJ cyZ _ a0 a1 b0_image b0_before b0_taken b0_tape b0_five a2 a3 a4 b0_walk b0_ends b0_manX b0_manY b0_dogX b0_dogY b0_row b0_round b0_farOne b0_leads b0_drags b0_from b0_near g0_thrown g0_hasImage g0_remembered g0_taped g0_point g0_end g0_begin g0_deep g0_faultAt g0_steps g0_men g0_dogs f1 _ hw) (cwV 0 hts gX11_middle_X11_ways rfl rfl rfl (by decide +kernel) ⟨Nat.le_of_ble_eq_true rfl, Nat.le_of_ble_eq_true rfl⟩) ⟨wPre_blind, va_recv hK hPc (ci := 11) (q0 := 0) rfl rfl, fun U hU hW => wPre_of hPc hK hDc hN hU hW⟩ rfl rfl hl.1 rfl (lv_room (Nat.le_of_ble_eq_true rfl)) dX11_middle_17 ⟨(Nat.zero_le _), (Nat.zero_le _)⟩) hS (fun q _ h => hFc q h) hFc (fun r2 u1 t H1 locs ht hvm hw hB hz1 hk1 hS => ?_)
    obtain ⟨hP1, hK1, hD1⟩ := hB
    rw [ht] at hP1
    obtain ⟨hP, hD⟩ := va_join (wr := pickW (ceX11_middle cyI cyB cyJ cyZ a0 a1 a2 a3 a4 b0_image b0_before b0_taken b0_tape b0_five b0_walk b0_ends b0_manX b0_manY b0_dogX b0_dogY b0_row b0_round b0_farOne b0_leads b0_drags b0_from b0_near g0_hasImage g0_remembered g0_taped g0_point g0_end g0_begin g0_deep g0_faultAt g0_steps f1 g0_thrown g0_men g0_dogs f2 f3 f4) [2, 3, 4]) (w1 := (ceX11_ways cyI cyB cyJ cyZ a0 a1 b0_image b0_before b0_taken b0_tape b0_five a2 a3 a4 b0_walk b0_ends b0_manX b0_manY b0_dogX b0_dogY b0_row b0_round b0_farOne b0_leads b0_drags b0_from b0_near g0_thrown g0_hasImage g0_remembered g0_taped g0_point g0_end g0_begin g0_deep g0_faultAt g0_steps g0_men g0_dogs f1)) hP hD [0, 1] [2, 3, 4] rfl rfl (by decide) (by decide) hk1 hFc hP1 hD1
    have hP := hP.sub (ws' := (ceX11_middle cyI cyB cyJ cyZ a0 a1 a2 a3 a4 b0_image b0_before b0_taken b0_tape b0_five b0_walk b0_ends b0_manX b0_manY b0_dogX b0_dogY b0_row b0_round b0_farOne b0_leads b0_drags b0_from b0_near g0_hasImage g0_remembered g0_taped g0_point g0_end g0_begin g0_deep g0_faultAt g0_steps f1 g0_thrown g0_men g0_dogs f2 f3 f4)) [3, 4, 0, 1, 2] rfl
    have hD := hD.sub (ws' := (ceX11_middle cyI cyB cyJ cyZ a0 a1 a2 a3 a4 b0_image b0_before b0_taken b0_tape b0_five b0_walk b0_ends b0_manX b0_manY b0_dogX b0_dogY b0_row b0_round b0_farOne b0_leads b0_drags b0_from b0_near g0_hasImage g0_remembered g0_taped g0_point g0_end g0_begin g0_deep g0_faultAt g0_steps f1 g0_thrown g0_men g0_dogs f2 f3 f4)) [3, 4, 0, 1, 2] (by decide) rfl
    generalize H1 = H at hP hS ⊢
    refine lv_icmp_ge (tgt := 108) hx hb dX11_middle_20 (by decide) (fun hc => ?_) (fun hc => ?_)
    · have hw := hw.1 hc
      refine lv_iload_n hx hb dX11_middle_108 rfl (lv_at hl 2 rfl) ?_
      rw [hQ]
      exact W.iret (v := x2) hx hb hr (fun t ht hW => ⟨⟨x2, (g0_thrown, g0_men, g0_dogs, f2, f3, f4), rfl, hw, by rw [ht]; exact hP, va_K.moved hW.alike hK, hD⟩, hS.F ht⟩) hS.2.2 dX11_middle_109
    · have hw := hw.2 hc
      refine lv_iload_n hx hb dX11_middle_23 rfl (lv_at hl 1 rfl) ?_
      refine lv_iload hx hb dX11_middle_24 (lv_at hl 4 rfl) ?_
      have hPc := hP.sub (ws' := ([] : va_W)) [] rfl
      have hDc := hD.sub (ws' := ([] : va_W)) [] (by decide) rfl
      have hFc := va_free (wc := ([] : va_W)) hD hS hA [] rfl
      refine va_calli (va_runS (As := [.int x1, .int x4]) (rest := []) ⟨hx, hb, hml, hown, hts⟩ (ctX11_has l dC dI cyI cyB cyJ cyZ _ x1 x4 _ hw) (va_cwS 2 hts gX11_middle_X11_has rfl rfl rfl (by decide +kernel) ⟨Nat.le_of_ble_eq_true rfl, Nat.le_of_ble_eq_true rfl⟩) ⟨wPre_blind, fun U hU hW => wPre_of hPc hK hDc hN hU hW⟩ rfl rfl hl.1 rfl (lv_room (Nat.le_of_ble_eq_true rfl)) dX11_middle_26 ⟨(Nat.zero_le _), (Nat.zero_le _)⟩) hS (fun q _ h => hFc q h) hFc (fun r4 u3 t H1 locs ht hvm hw hB hz1 hk1 hS => ?_)
      obtain ⟨hP1, hK1, hD1⟩ := hB
      rw [ht] at hP1
      obtain ⟨hP, hD⟩ := va_join (wr := pickW (ceX11_middle cyI cyB cyJ cyZ a0 a1 a2 a3 a4 b0_image b0_before b0_taken b0_tape b0_five b0_walk b0_ends b0_manX b0_manY b0_dogX b0_dogY b0_row b0_round b0_farOne b0_leads b0_drags b0_from b0_near g0_hasImage g0_remembered g0_taped g0_point g0_end g0_begin g0_deep g0_faultAt g0_steps f1 g0_thrown g0_men g0_dogs f2 f3 f4) [0, 1, 2, 3, 4]) (w1 := ([] : va_W)) hP hD [] [0, 1, 2, 3, 4] rfl rfl (by decide) (by decide) hk1 hFc hP1 hD1
      have hP := hP.sub (ws' := (ceX11_middle cyI cyB cyJ cyZ a0 a1 a2 a3 a4 b0_image b0_before b0_taken b0_tape b0_five b0_walk b0_ends b0_manX b0_manY b0_dogX b0_dogY b0_row b0_round b0_farOne b0_leads b0_drags b0_from b0_near g0_hasImage g0_remembered g0_taped g0_point g0_end g0_begin g0_deep g0_faultAt g0_steps f1 g0_thrown g0_men g0_dogs f2 f3 f4)) [0, 1, 2, 3, 4] rfl
      have hD := hD.sub (ws' := (ceX11_middle cyI cyB cyJ cyZ a0 a1 a2 a3 a4 b0_image b0_before b0_taken b0_tape b0_five b0_walk b0_ends b0_manX b0_manY b0_dogX b0_dogY b0_row b0_round b0_farOne b0_leads b0_drags b0_from b0_near g0_hasImage g0_remembered g0_taped g0_point g0_end g0_begin g0_deep g0_faultAt g0_steps f1 g0_thrown g0_men g0_dogs f2 f3 f4)) [0, 1, 2, 3, 4] (by decide) rfl
      generalize H1 = H at hP hS ⊢
      refine lv_if_ne (tgt := 35) hx hb dX11_middle_29 (by decide) (fun hc => ?_) (fun hc => ?_)
      · have hw := hw.1 hc
        refine lv_iconst (v := 0) hx hb dX11_middle_35 (by decide) ?_
        refine lv_istore (lv' := [(5, .int 0), (0, .ref a0), (1, .int x1), (2, .int x2), (3, .int x3), (4, .int x4)]) hx hb dX11_middle_36 hl (by decide) rfl (fun ls hl => ?_)
        refine lv_iconst (v := 0) hx hb dX11_middle_38 (by decide) ?_
        refine lv_istore (lv' := [(6, .int 0), (5, .int 0), (0, .ref a0), (1, .int x1), (2, .int x2), (3, .int x3), (4, .int x4)]) hx hb dX11_middle_39 hl (by decide) rfl (fun ls hl => ?_)
        obtain ⟨nn, hw⟩ := hw
        exact bX11_middle_41 C0 hK hN hA hQ ih nn g0_thrown g0_men g0_dogs f2 f3 f4 x1 x2 x3 x4 0 0 hw _ _ hP hD hS ls (lv_sub hl [2, 3, 4, 5, 6, 1, 0] rfl)
      · have hw := hw.2 hc
        refine lv_goto (tgt := 102) hx hb dX11_middle_32 (by decide) ?_
        exact bX11_middle_102 C0 hK hN hA hQ ih g0_thrown g0_men g0_dogs f2 f3 f4 x1 x2 x3 x4 hw _ _ hP hD hS ls (lv_sub hl [0, 1, 2, 3, 4] rfl)
set_option maxRecDepth 100000 in
set_option maxHeartbeats 4000000 in
theorem ctX11_middle (l : Launch) (dC : Nat → ClassId) (dI : Nat → Nat → Nat) (cyI cyB cyJ cyZ : ClassId) (sz : Nat) (a0 a1 a2 a3 a4 b0_image b0_before b0_taken b0_tape b0_five b0_walk b0_ends b0_manX b0_manY b0_dogX b0_dogY b0_row b0_round b0_farOne b0_leads b0_drags b0_from b0_near : Nat) (g0_hasImage : Int32) (g0_remembered : Int32) (g0_taped : Int32) (g0_point : Int32) (g0_end : Int32) (g0_begin : Int32) (g0_deep : Int32) (g0_faultAt : Int32) (g0_steps : Int32) (f1 : Nat → Int32) (g0_thrown : Int32) (g0_men : Int32) (g0_dogs : Int32) (f2 : Nat → Int32) (f3 : Nat → Int32) (f4 : Nat → Int32) (p0 : Int32) (post : Int32 → (Int32 × Int32 × Int32 × (Nat → Int32) × (Nat → Int32) × (Nat → Int32)) → Prop) (hw : wpX11_middle post f1 g0_thrown g0_men g0_dogs f2 f3 f4 p0) : Met l yX11_middle wsX11_middle rmX11_middle (va_Pc [.ref a0, .int p0] (wPre dC dI cyI cyB cyJ cyZ sz (ceX11_middle cyI cyB cyJ cyZ a0 a1 a2 a3 a4 b0_image b0_before b0_taken b0_tape b0_five b0_walk b0_ends b0_manX b0_manY b0_dogX b0_dogY b0_row b0_round b0_farOne b0_leads b0_drags b0_from b0_near g0_hasImage g0_remembered g0_taped g0_point g0_end g0_begin g0_deep g0_faultAt g0_steps f1 g0_thrown g0_men g0_dogs f2 f3 f4))) (va_Qi post (fun u : Int32 × Int32 × Int32 × (Nat → Int32) × (Nat → Int32) × (Nat → Int32) => wAt dC dI cyI cyB cyJ cyZ (va_A (ceX11_middle cyI cyB cyJ cyZ a0 a1 a2 a3 a4 b0_image b0_before b0_taken b0_tape b0_five b0_walk b0_ends b0_manX b0_manY b0_dogX b0_dogY b0_row b0_round b0_farOne b0_leads b0_drags b0_from b0_near g0_hasImage g0_remembered g0_taped g0_point g0_end g0_begin g0_deep g0_faultAt g0_steps f1 g0_thrown g0_men g0_dogs f2 f3 f4) sz) (ceX11_middle cyI cyB cyJ cyZ a0 a1 a2 a3 a4 b0_image b0_before b0_taken b0_tape b0_five b0_walk b0_ends b0_manX b0_manY b0_dogX b0_dogY b0_row b0_round b0_farOne b0_leads b0_drags b0_from b0_near g0_hasImage g0_remembered g0_taped g0_point g0_end g0_begin g0_deep g0_faultAt g0_steps f1 u.1 u.2.1 u.2.2.1 u.2.2.2.1 u.2.2.2.2.1 u.2.2.2.2.2)) (va_A (ceX11_middle cyI cyB cyJ cyZ a0 a1 a2 a3 a4 b0_image b0_before b0_taken b0_tape b0_five b0_walk b0_ends b0_manX b0_manY b0_dogX b0_dogY b0_row b0_round b0_farOne b0_leads b0_drags b0_from b0_near g0_hasImage g0_remembered g0_taped g0_point g0_end g0_begin g0_deep g0_faultAt g0_steps f1 g0_thrown g0_men g0_dogs f2 f3 f4) sz)) 0 0 (va_A (ceX11_middle cyI cyB cyJ cyZ a0 a1 a2 a3 a4 b0_image b0_before b0_taken b0_tape b0_five b0_walk b0_ends b0_manX b0_manY b0_dogX b0_dogY b0_row b0_round b0_farOne b0_leads b0_drags b0_from b0_near g0_hasImage g0_remembered g0_taped g0_point g0_end g0_begin g0_deep g0_faultAt g0_steps f1 g0_thrown g0_men g0_dogs f2 f3 f4) sz) := by
  refine Met.ofW (cc := cX11_middle) (maxL := 7) (ret := (some .int)) (by decide) rfl ?_
  intro p e s m args below meth c s₁ B hml hv
  obtain ⟨rfl, hsz, hP, hK, hD0, hN⟩ := hv
  have hx := B.exec
  have hb := B.bytes
  have hr := B.returns
  have hts := atoms_spec (ws := wsX11_middle) B.pre
  have hown : s.vm.findClass RX11 = some m.cls := findClass_of_methodNamed B.named
  have hlocks := B.notSynchronized
  subst hsz
  have hD := hD0.self (sz := s.heap.size)
  generalize hAe : va_A (ceX11_middle cyI cyB cyJ cyZ a0 a1 a2 a3 a4 b0_image b0_before b0_taken b0_tape b0_five b0_walk b0_ends b0_manX b0_manY b0_dogX b0_dogY b0_row b0_round b0_farOne b0_leads b0_drags b0_from b0_near g0_hasImage g0_remembered g0_taped g0_point g0_end g0_begin g0_deep g0_faultAt g0_steps f1 g0_thrown g0_men g0_dogs f2 f3 f4) s.heap.size = A at hD ⊢
  have hA : ∀ q : Nat, s.heap.size ≤ q → A q := fun q h => by rw [← hAe]; exact Or.inr h
  have hS : va_S A s.heap s.heap [] := va_S.rf
  have C0 : cxM p s m meth c _ wsX11_middle RX11 cX11_middle 7 (some .int) := ⟨hx, hb, hr, hml, hown, hts, hlocks⟩
  have hl := lv_entry ([.ref a0, .int p0]) (n := 7) (Nat.le_of_ble_eq_true rfl)
  rw [lg_entry_eq]
  generalize (lg_sl ([.ref a0, .int p0]) ++ List.replicate (7 - (lg_sl ([.ref a0, .int p0])).length) Slot.unset).toArray = ls at hl ⊢
  have hl : lv_has ls 7 [(0, .ref a0), (1, .int p0)] := hl
  show W p l e rmX11_middle s m _ below meth c _ _ _ _ _ _
  refine wq (fun Q hQ => ?_)
  refine lv_aload_n hx hb dX11_middle_0 rfl (lv_at hl 0 rfl) ?_
  refine lv_iconst (v := 0) hx hb dX11_middle_1 (by decide) ?_
  refine va_put (D := (dC, dI)) (ci := 11) (v := .int 0) (ty := .int) (C := RX11) (T := TX11) (N := 34) hx hb hts inX11_middle_X11 tyX11 tyX11_ok nmX11 hown hK hP hD hS 0 rfl rfl 0 (by decide) (hts (.fieldLink RX11 3 "LeadParkModel" "thrown" "I") (List.mem_of_getElem? (i := 1) rfl)) (fun _ h9 => h9) rfl (by decide +kernel) rfl rfl (Nat.le_of_ble_eq_true rfl) dX11_middle_2 (fun H locs hP hD hS => ?_)
  have hP : va_P (dC, dI) vwCl (ceX11_middle cyI cyB cyJ cyZ a0 a1 a2 a3 a4 b0_image b0_before b0_taken b0_tape b0_five b0_walk b0_ends b0_manX b0_manY b0_dogX b0_dogY b0_row b0_round b0_farOne b0_leads b0_drags b0_from b0_near g0_hasImage g0_remembered g0_taped g0_point g0_end g0_begin g0_deep g0_faultAt g0_steps f1 0 g0_men g0_dogs f2 f3 f4) H := hP
  have hD : va_D A (ceX11_middle cyI cyB cyJ cyZ a0 a1 a2 a3 a4 b0_image b0_before b0_taken b0_tape b0_five b0_walk b0_ends b0_manX b0_manY b0_dogX b0_dogY b0_row b0_round b0_farOne b0_leads b0_drags b0_from b0_near g0_hasImage g0_remembered g0_taped g0_point g0_end g0_begin g0_deep g0_faultAt g0_steps f1 0 g0_men g0_dogs f2 f3 f4) := hD
  refine lv_iconst (v := (-1)) hx hb dX11_middle_5 (by decide) ?_
  refine lv_istore_n (lv' := [(2, .int (-1)), (0, .ref a0), (1, .int p0)]) hx hb dX11_middle_6 rfl hl (by decide) rfl (fun ls hl => ?_)
  refine lv_ldcw (v := 2000000000) hx hb hown (hts (.constant RX11 306 (2000000000)) (List.mem_of_getElem? (i := 2) rfl)) dX11_middle_7 ?_
  refine lv_istore_n (lv' := [(3, .int 2000000000), (2, .int (-1)), (0, .ref a0), (1, .int p0)]) hx hb dX11_middle_10 rfl hl (by decide) rfl (fun ls hl => ?_)
  refine lv_iconst (v := 0) hx hb dX11_middle_11 (by decide) ?_
  refine lv_istore (lv' := [(4, .int 0), (3, .int 2000000000), (2, .int (-1)), (0, .ref a0), (1, .int p0)]) hx hb dX11_middle_12 hl (by decide) rfl (fun ls hl => ?_)
  obtain ⟨nn, hw⟩ := hw
  exact bX11_middle_14 C0 hK hN hA hQ nn 0 g0_men g0_dogs f2 f3 f4 p0 (-1) 2000000000 0 hw _ _ hP hD hS ls (lv_sub hl [3, 4, 2, 1, 0] rfl)
/-! LeadParkModel.goesOn (II)I -/
abbrev ceX11_goesOn (cyI cyB cyJ cyZ : ClassId) (a0 a1 b0_world b0_image b0_before b0_taken b0_tape b0_five b0_value b0_far b0_lead b0_walk b0_ends b0_manX b0_manY b0_dogX b0_dogY b0_row b0_round b0_farOne b0_leads b0_drags b0_from : Nat) (g0_thrown : Int32) (g0_hasImage : Int32) (g0_remembered : Int32) (g0_taped : Int32) (g0_point : Int32) (g0_end : Int32) (g0_begin : Int32) (g0_deep : Int32) (g0_faultAt : Int32) (g0_steps : Int32) (g0_men : Int32) (g0_dogs : Int32) (f1 : Nat → Int32) : va_W := [(a0, .inr (11, [.int g0_thrown, .ref b0_world, .ref b0_image, .ref b0_before, .int g0_hasImage, .ref b0_taken, .int g0_remembered, .ref b0_tape, .int g0_taped, .int g0_point, .int g0_end, .int g0_begin, .int g0_deep, .int g0_faultAt, .ref b0_five, .int g0_steps, .ref b0_value, .ref b0_far, .int g0_men, .int g0_dogs, .ref b0_lead, .ref b0_walk, .ref b0_ends, .ref b0_manX, .ref b0_manY, .ref b0_dogX, .ref b0_dogY, .ref b0_row, .ref b0_round, .ref b0_farOne, .ref b0_leads, .ref b0_drags, .ref b0_from, .ref a1])), (a1, .inl (cyI, 30, .inl f1))]

theorem inX11_goesOn_X11 : ∀ w ∈ wsX110, w ∈ wsX11_goesOn := fun _ h => List.mem_cons_of_mem _ (List.mem_append_right _ h)
abbrev rmX11_goesOn : Room := { frames := 0, cells := 0, slots := 0, locals := 0 }
set_option maxRecDepth 100000 in
set_option maxHeartbeats 4000000 in
theorem bX11_goesOn_12 {p : Program} {l : Launch} {e : Env} {s : State} {m : MethodId} {args : Array Value} {below : List Frame} {meth : Method} {c : Code} {dC : Nat → ClassId} {dI : Nat → Nat → Nat} {cyI cyB cyJ cyZ : ClassId} {A : Nat → Prop} {a0 a1 b0_world b0_image b0_before b0_taken b0_tape b0_five b0_value b0_far b0_lead b0_walk b0_ends b0_manX b0_manY b0_dogX b0_dogY b0_row b0_round b0_farOne b0_leads b0_drags b0_from : Nat} {g0_thrown : Int32} {g0_hasImage : Int32} {g0_remembered : Int32} {g0_taped : Int32} {g0_point : Int32} {g0_end : Int32} {g0_begin : Int32} {g0_deep : Int32} {g0_faultAt : Int32} {g0_steps : Int32} {g0_men : Int32} {g0_dogs : Int32} (C0 : cxM p s m meth c args wsX11_goesOn RX11 cX11_goesOn 5 (some .int)) (hK : va_K (dC, dI) vwCl (tyA cyI cyB cyJ cyZ) s) (hN : nwA s) (hA : ∀ q : Nat, s.heap.size ≤ q → A q) {post : Int32 → Unit → Prop} {f1 : Nat → Int32} {Q : State → Prop} (hQ : Q = MQ below (va_Qi post (fun u : Unit => wAt dC dI cyI cyB cyJ cyZ A (ceX11_goesOn cyI cyB cyJ cyZ a0 a1 b0_world b0_image b0_before b0_taken b0_tape b0_five b0_value b0_far b0_lead b0_walk b0_ends b0_manX b0_manY b0_dogX b0_dogY b0_row b0_round b0_farOne b0_leads b0_drags b0_from g0_thrown g0_hasImage g0_remembered g0_taped g0_point g0_end g0_begin g0_deep g0_faultAt g0_steps g0_men g0_dogs f1)) A) args s 0 0 A) : ∀ (n : Nat) (x2 : Int32) (x3 : Int32) (x4 : Int32), wpX11_goesOn_12 post f1 n x2 x3 x4 → AtW p l e rmX11_goesOn s m args below meth c dC dI A Q 5 0 0 (ceX11_goesOn cyI cyB cyJ cyZ a0 a1 b0_world b0_image b0_before b0_taken b0_tape b0_five b0_value b0_far b0_lead b0_walk b0_ends b0_manX b0_manY b0_dogX b0_dogY b0_row b0_round b0_farOne b0_leads b0_drags b0_from g0_thrown g0_hasImage g0_remembered g0_taped g0_point g0_end g0_begin g0_deep g0_faultAt g0_steps g0_men g0_dogs f1) [(0, .ref a0), (2, .int x2), (3, .int x3), (4, .int x4)] 12 [] := by
  intro n
  induction n with
  | zero => intro x2 x3 x4 hw; exact False.elim hw
  | succ n ih =>
    intro x2 x3 x4 hw H locs hP hD hS ls hl
    have C1 := C0
    obtain ⟨hx, hb, hr, hml, hown, hts, hlocks⟩ := C1
    refine lv_iload hx hb dX11_goesOn_12 (lv_at hl 3 rfl) ?_
    refine lv_iload_n hx hb dX11_goesOn_14 rfl (lv_at hl 2 rfl) ?_
    refine lv_icmp_eq (tgt := 37) hx hb dX11_goesOn_15 (by decide) (fun hc => ?_) (fun hc => ?_)
    · have hw := hw.1 hc
      refine lv_iload_n hx hb dX11_goesOn_37 rfl (lv_at hl 2 rfl) ?_
      rw [hQ]
      exact W.iret (v := x3) hx hb hr (fun t ht hW => ⟨⟨x3, (), rfl, hw, by rw [ht]; exact hP, va_K.moved hW.alike hK, hD⟩, hS.F ht⟩) hS.2.2 dX11_goesOn_38
    · have hw := hw.2 hc
      refine lv_iload_n hx hb dX11_goesOn_18 rfl (lv_at hl 2 rfl) ?_
      refine lv_istore (lv' := [(4, .int x3), (0, .ref a0), (2, .int x2), (3, .int x3)]) hx hb dX11_goesOn_19 hl (by decide) rfl (fun ls hl => ?_)
      refine lv_iload_n hx hb dX11_goesOn_21 rfl (lv_at hl 3 rfl) ?_
      refine lv_iload_n hx hb dX11_goesOn_22 rfl (lv_at hl 3 rfl) ?_
      refine lv_iconst (v := 1) hx hb dX11_goesOn_23 (by decide) ?_
      refine lv_ishl hx hb dX11_goesOn_24 ?_
      refine lv_aload_n hx hb dX11_goesOn_25 rfl (lv_at hl 1 rfl) ?_
      refine va_get (D := (dC, dI)) (ci := 11) (v := .ref a1) (C := RX11) (T := TX11) (N := 34) hx hb hts inX11_goesOn_X11 hown hK hP 0 rfl rfl 33 (by decide) (hts (.fieldLink RX11 83 "LeadParkModel" "near" "[I") (List.mem_of_getElem? (i := 1) rfl)) (fun _ h9 => h9) rfl dX11_goesOn_26 ?_
      refine lv_iload_n hx hb dX11_goesOn_29 rfl (lv_at hl 2 rfl) ?_
      obtain ⟨hi, hw⟩ := hw
      refine va_iald hx hb hK hP 1 0 rfl rfl hi dX11_goesOn_30 ?_
      refine lv_iand hx hb dX11_goesOn_31 ?_
      refine lv_ior hx hb dX11_goesOn_32 ?_
      refine lv_topi (fun v1 ev1 => ?_)
      have hw := hw v1 ev1
      refine lv_istore_n (lv' := [(3, .int v1), (4, .int x3), (0, .ref a0), (2, .int x2)]) hx hb dX11_goesOn_33 rfl hl (by decide) rfl (fun ls hl => ?_)
      refine lv_goto (tgt := 12) hx hb dX11_goesOn_34 (by decide) ?_
      exact ih x2 v1 x3 hw H locs hP hD hS ls (lv_sub hl [2, 3, 0, 1] rfl)
set_option maxRecDepth 100000 in
set_option maxHeartbeats 4000000 in
theorem ctX11_goesOn (l : Launch) (dC : Nat → ClassId) (dI : Nat → Nat → Nat) (cyI cyB cyJ cyZ : ClassId) (sz : Nat) (a0 a1 b0_world b0_image b0_before b0_taken b0_tape b0_five b0_value b0_far b0_lead b0_walk b0_ends b0_manX b0_manY b0_dogX b0_dogY b0_row b0_round b0_farOne b0_leads b0_drags b0_from : Nat) (g0_thrown : Int32) (g0_hasImage : Int32) (g0_remembered : Int32) (g0_taped : Int32) (g0_point : Int32) (g0_end : Int32) (g0_begin : Int32) (g0_deep : Int32) (g0_faultAt : Int32) (g0_steps : Int32) (g0_men : Int32) (g0_dogs : Int32) (f1 : Nat → Int32) (p0 : Int32) (p1 : Int32) (post : Int32 → Unit → Prop) (hw : wpX11_goesOn post f1 p0 p1) : Met l yX11_goesOn wsX11_goesOn rmX11_goesOn (va_Pc [.ref a0, .int p0, .int p1] (wPre dC dI cyI cyB cyJ cyZ sz (ceX11_goesOn cyI cyB cyJ cyZ a0 a1 b0_world b0_image b0_before b0_taken b0_tape b0_five b0_value b0_far b0_lead b0_walk b0_ends b0_manX b0_manY b0_dogX b0_dogY b0_row b0_round b0_farOne b0_leads b0_drags b0_from g0_thrown g0_hasImage g0_remembered g0_taped g0_point g0_end g0_begin g0_deep g0_faultAt g0_steps g0_men g0_dogs f1))) (va_Qi post (fun u : Unit => wAt dC dI cyI cyB cyJ cyZ (va_A (ceX11_goesOn cyI cyB cyJ cyZ a0 a1 b0_world b0_image b0_before b0_taken b0_tape b0_five b0_value b0_far b0_lead b0_walk b0_ends b0_manX b0_manY b0_dogX b0_dogY b0_row b0_round b0_farOne b0_leads b0_drags b0_from g0_thrown g0_hasImage g0_remembered g0_taped g0_point g0_end g0_begin g0_deep g0_faultAt g0_steps g0_men g0_dogs f1) sz) (ceX11_goesOn cyI cyB cyJ cyZ a0 a1 b0_world b0_image b0_before b0_taken b0_tape b0_five b0_value b0_far b0_lead b0_walk b0_ends b0_manX b0_manY b0_dogX b0_dogY b0_row b0_round b0_farOne b0_leads b0_drags b0_from g0_thrown g0_hasImage g0_remembered g0_taped g0_point g0_end g0_begin g0_deep g0_faultAt g0_steps g0_men g0_dogs f1)) (va_A (ceX11_goesOn cyI cyB cyJ cyZ a0 a1 b0_world b0_image b0_before b0_taken b0_tape b0_five b0_value b0_far b0_lead b0_walk b0_ends b0_manX b0_manY b0_dogX b0_dogY b0_row b0_round b0_farOne b0_leads b0_drags b0_from g0_thrown g0_hasImage g0_remembered g0_taped g0_point g0_end g0_begin g0_deep g0_faultAt g0_steps g0_men g0_dogs f1) sz)) 0 0 (va_A (ceX11_goesOn cyI cyB cyJ cyZ a0 a1 b0_world b0_image b0_before b0_taken b0_tape b0_five b0_value b0_far b0_lead b0_walk b0_ends b0_manX b0_manY b0_dogX b0_dogY b0_row b0_round b0_farOne b0_leads b0_drags b0_from g0_thrown g0_hasImage g0_remembered g0_taped g0_point g0_end g0_begin g0_deep g0_faultAt g0_steps g0_men g0_dogs f1) sz) := by
  refine Met.ofW (cc := cX11_goesOn) (maxL := 5) (ret := (some .int)) (by decide) rfl ?_
  intro p e s m args below meth c s₁ B hml hv
  obtain ⟨rfl, hsz, hP, hK, hD0, hN⟩ := hv
  have hx := B.exec
  have hb := B.bytes
  have hr := B.returns
  have hts := atoms_spec (ws := wsX11_goesOn) B.pre
  have hown : s.vm.findClass RX11 = some m.cls := findClass_of_methodNamed B.named
  have hlocks := B.notSynchronized
  subst hsz
  have hD := hD0.self (sz := s.heap.size)
  generalize hAe : va_A (ceX11_goesOn cyI cyB cyJ cyZ a0 a1 b0_world b0_image b0_before b0_taken b0_tape b0_five b0_value b0_far b0_lead b0_walk b0_ends b0_manX b0_manY b0_dogX b0_dogY b0_row b0_round b0_farOne b0_leads b0_drags b0_from g0_thrown g0_hasImage g0_remembered g0_taped g0_point g0_end g0_begin g0_deep g0_faultAt g0_steps g0_men g0_dogs f1) s.heap.size = A at hD ⊢
  have hA : ∀ q : Nat, s.heap.size ≤ q → A q := fun q h => by rw [← hAe]; exact Or.inr h
  have hS : va_S A s.heap s.heap [] := va_S.rf
  have C0 : cxM p s m meth c _ wsX11_goesOn RX11 cX11_goesOn 5 (some .int) := ⟨hx, hb, hr, hml, hown, hts, hlocks⟩
  have hl := lv_entry ([.ref a0, .int p0, .int p1]) (n := 5) (Nat.le_of_ble_eq_true rfl)
  rw [lg_entry_eq]
  generalize (lg_sl ([.ref a0, .int p0, .int p1]) ++ List.replicate (5 - (lg_sl ([.ref a0, .int p0, .int p1])).length) Slot.unset).toArray = ls at hl ⊢
  have hl : lv_has ls 5 [(0, .ref a0), (1, .int p0), (2, .int p1)] := hl
  show W p l e rmX11_goesOn s m _ below meth c _ _ _ _ _ _
  refine wq (fun Q hQ => ?_)
  refine lv_iload_n hx hb dX11_goesOn_0 rfl (lv_at hl 1 rfl) ?_
  refine lv_aload_n hx hb dX11_goesOn_1 rfl (lv_at hl 0 rfl) ?_
  refine va_get (D := (dC, dI)) (ci := 11) (v := .ref a1) (C := RX11) (T := TX11) (N := 34) hx hb hts inX11_goesOn_X11 hown hK hP 0 rfl rfl 33 (by decide) (hts (.fieldLink RX11 83 "LeadParkModel" "near" "[I") (List.mem_of_getElem? (i := 1) rfl)) (fun _ h9 => h9) rfl dX11_goesOn_2 ?_
  refine lv_iload_n hx hb dX11_goesOn_5 rfl (lv_at hl 2 rfl) ?_
  obtain ⟨hi, hw⟩ := hw
  refine va_iald hx hb hK hP 1 0 rfl rfl hi dX11_goesOn_6 ?_
  refine lv_iand hx hb dX11_goesOn_7 ?_
  refine lv_topi (fun v1 ev1 => ?_)
  have hw := hw v1 ev1
  refine lv_istore_n (lv' := [(3, .int v1), (0, .ref a0), (1, .int p0), (2, .int p1)]) hx hb dX11_goesOn_8 rfl hl (by decide) rfl (fun ls hl => ?_)
  refine lv_iconst (v := 0) hx hb dX11_goesOn_9 (by decide) ?_
  refine lv_istore (lv' := [(4, .int 0), (3, .int v1), (0, .ref a0), (1, .int p0), (2, .int p1)]) hx hb dX11_goesOn_10 hl (by decide) rfl (fun ls hl => ?_)
  obtain ⟨nn, hw⟩ := hw
  exact bX11_goesOn_12 C0 hK hN hA hQ nn p1 v1 0 hw _ _ hP hD hS ls (lv_sub hl [2, 4, 1, 0] rfl)
/-! LeadParkModel.comes (II)I -/
abbrev ceX11_comes (cyI cyB cyJ cyZ : ClassId) (a0 a1 b0_world b0_image b0_before b0_taken b0_tape b0_five b0_value b0_far b0_lead b0_walk b0_ends b0_manX b0_manY b0_dogX b0_dogY b0_row b0_round b0_farOne b0_leads b0_drags b0_from : Nat) (g0_thrown : Int32) (g0_hasImage : Int32) (g0_remembered : Int32) (g0_taped : Int32) (g0_point : Int32) (g0_end : Int32) (g0_begin : Int32) (g0_deep : Int32) (g0_faultAt : Int32) (g0_steps : Int32) (g0_men : Int32) (g0_dogs : Int32) (f1 : Nat → Int32) : va_W := [(a0, .inr (11, [.int g0_thrown, .ref b0_world, .ref b0_image, .ref b0_before, .int g0_hasImage, .ref b0_taken, .int g0_remembered, .ref b0_tape, .int g0_taped, .int g0_point, .int g0_end, .int g0_begin, .int g0_deep, .int g0_faultAt, .ref b0_five, .int g0_steps, .ref b0_value, .ref b0_far, .int g0_men, .int g0_dogs, .ref b0_lead, .ref b0_walk, .ref b0_ends, .ref b0_manX, .ref b0_manY, .ref b0_dogX, .ref b0_dogY, .ref b0_row, .ref b0_round, .ref b0_farOne, .ref b0_leads, .ref b0_drags, .ref b0_from, .ref a1])), (a1, .inl (cyI, 30, .inl f1))]

abbrev rmX11_comes : Room := { frames := 1, cells := 0, slots := 0, locals := 24 }
set_option maxRecDepth 100000 in
set_option maxHeartbeats 4000000 in
theorem ctX11_comes (l : Launch) (dC : Nat → ClassId) (dI : Nat → Nat → Nat) (cyI cyB cyJ cyZ : ClassId) (sz : Nat) (a0 a1 b0_world b0_image b0_before b0_taken b0_tape b0_five b0_value b0_far b0_lead b0_walk b0_ends b0_manX b0_manY b0_dogX b0_dogY b0_row b0_round b0_farOne b0_leads b0_drags b0_from : Nat) (g0_thrown : Int32) (g0_hasImage : Int32) (g0_remembered : Int32) (g0_taped : Int32) (g0_point : Int32) (g0_end : Int32) (g0_begin : Int32) (g0_deep : Int32) (g0_faultAt : Int32) (g0_steps : Int32) (g0_men : Int32) (g0_dogs : Int32) (f1 : Nat → Int32) (p0 : Int32) (p1 : Int32) (post : Int32 → Unit → Prop) (hw : wpX11_comes post f1 p0 p1) : Met l yX11_comes wsX11_comes rmX11_comes (va_Pc [.ref a0, .int p0, .int p1] (wPre dC dI cyI cyB cyJ cyZ sz (ceX11_comes cyI cyB cyJ cyZ a0 a1 b0_world b0_image b0_before b0_taken b0_tape b0_five b0_value b0_far b0_lead b0_walk b0_ends b0_manX b0_manY b0_dogX b0_dogY b0_row b0_round b0_farOne b0_leads b0_drags b0_from g0_thrown g0_hasImage g0_remembered g0_taped g0_point g0_end g0_begin g0_deep g0_faultAt g0_steps g0_men g0_dogs f1))) (va_Qi post (fun u : Unit => wAt dC dI cyI cyB cyJ cyZ (va_A (ceX11_comes cyI cyB cyJ cyZ a0 a1 b0_world b0_image b0_before b0_taken b0_tape b0_five b0_value b0_far b0_lead b0_walk b0_ends b0_manX b0_manY b0_dogX b0_dogY b0_row b0_round b0_farOne b0_leads b0_drags b0_from g0_thrown g0_hasImage g0_remembered g0_taped g0_point g0_end g0_begin g0_deep g0_faultAt g0_steps g0_men g0_dogs f1) sz) (ceX11_comes cyI cyB cyJ cyZ a0 a1 b0_world b0_image b0_before b0_taken b0_tape b0_five b0_value b0_far b0_lead b0_walk b0_ends b0_manX b0_manY b0_dogX b0_dogY b0_row b0_round b0_farOne b0_leads b0_drags b0_from g0_thrown g0_hasImage g0_remembered g0_taped g0_point g0_end g0_begin g0_deep g0_faultAt g0_steps g0_men g0_dogs f1)) (va_A (ceX11_comes cyI cyB cyJ cyZ a0 a1 b0_world b0_image b0_before b0_taken b0_tape b0_five b0_value b0_far b0_lead b0_walk b0_ends b0_manX b0_manY b0_dogX b0_dogY b0_row b0_round b0_farOne b0_leads b0_drags b0_from g0_thrown g0_hasImage g0_remembered g0_taped g0_point g0_end g0_begin g0_deep g0_faultAt g0_steps g0_men g0_dogs f1) sz)) 0 0 (va_A (ceX11_comes cyI cyB cyJ cyZ a0 a1 b0_world b0_image b0_before b0_taken b0_tape b0_five b0_value b0_far b0_lead b0_walk b0_ends b0_manX b0_manY b0_dogX b0_dogY b0_row b0_round b0_farOne b0_leads b0_drags b0_from g0_thrown g0_hasImage g0_remembered g0_taped g0_point g0_end g0_begin g0_deep g0_faultAt g0_steps g0_men g0_dogs f1) sz) := by
  refine Met.ofW (cc := cX11_comes) (maxL := 3) (ret := (some .int)) (by decide) rfl ?_
  intro p e s m args below meth c s₁ B hml hv
  obtain ⟨rfl, hsz, hP, hK, hD0, hN⟩ := hv
  have hx := B.exec
  have hb := B.bytes
  have hr := B.returns
  have hts := atoms_spec (ws := wsX11_comes) B.pre
  have hown : s.vm.findClass RX11 = some m.cls := findClass_of_methodNamed B.named
  have hlocks := B.notSynchronized
  subst hsz
  have hD := hD0.self (sz := s.heap.size)
  generalize hAe : va_A (ceX11_comes cyI cyB cyJ cyZ a0 a1 b0_world b0_image b0_before b0_taken b0_tape b0_five b0_value b0_far b0_lead b0_walk b0_ends b0_manX b0_manY b0_dogX b0_dogY b0_row b0_round b0_farOne b0_leads b0_drags b0_from g0_thrown g0_hasImage g0_remembered g0_taped g0_point g0_end g0_begin g0_deep g0_faultAt g0_steps g0_men g0_dogs f1) s.heap.size = A at hD ⊢
  have hA : ∀ q : Nat, s.heap.size ≤ q → A q := fun q h => by rw [← hAe]; exact Or.inr h
  have hS : va_S A s.heap s.heap [] := va_S.rf
  have C0 : cxM p s m meth c _ wsX11_comes RX11 cX11_comes 3 (some .int) := ⟨hx, hb, hr, hml, hown, hts, hlocks⟩
  have hl := lv_entry ([.ref a0, .int p0, .int p1]) (n := 3) (Nat.le_of_ble_eq_true rfl)
  rw [lg_entry_eq]
  generalize (lg_sl ([.ref a0, .int p0, .int p1]) ++ List.replicate (3 - (lg_sl ([.ref a0, .int p0, .int p1])).length) Slot.unset).toArray = ls at hl ⊢
  have hl : lv_has ls 3 [(0, .ref a0), (1, .int p0), (2, .int p1)] := hl
  show W p l e rmX11_comes s m _ below meth c _ _ _ _ _ _
  refine wq (fun Q hQ => ?_)
  refine lv_aload_n hx hb dX11_comes_0 rfl (lv_at hl 0 rfl) ?_
  refine lv_iload_n hx hb dX11_comes_1 rfl (lv_at hl 1 rfl) ?_
  refine lv_iload_n hx hb dX11_comes_2 rfl (lv_at hl 1 rfl) ?_
  refine lv_iconst (v := 1) hx hb dX11_comes_3 (by decide) ?_
  refine lv_ishl hx hb dX11_comes_4 ?_
  refine lv_ior hx hb dX11_comes_5 ?_
  refine lv_iload_n hx hb dX11_comes_6 rfl (lv_at hl 2 rfl) ?_
  have hPc := hP.sub (ws' := (ceX11_goesOn cyI cyB cyJ cyZ a0 a1 b0_world b0_image b0_before b0_taken b0_tape b0_five b0_value b0_far b0_lead b0_walk b0_ends b0_manX b0_manY b0_dogX b0_dogY b0_row b0_round b0_farOne b0_leads b0_drags b0_from g0_thrown g0_hasImage g0_remembered g0_taped g0_point g0_end g0_begin g0_deep g0_faultAt g0_steps g0_men g0_dogs f1)) [0, 1] rfl
  have hDc := hD.sub (ws' := (ceX11_goesOn cyI cyB cyJ cyZ a0 a1 b0_world b0_image b0_before b0_taken b0_tape b0_five b0_value b0_far b0_lead b0_walk b0_ends b0_manX b0_manY b0_dogX b0_dogY b0_row b0_round b0_farOne b0_leads b0_drags b0_from g0_thrown g0_hasImage g0_remembered g0_taped g0_point g0_end g0_begin g0_deep g0_faultAt g0_steps g0_men g0_dogs f1)) [0, 1] (by decide) rfl
  have hFc := va_free (wc := (ceX11_goesOn cyI cyB cyJ cyZ a0 a1 b0_world b0_image b0_before b0_taken b0_tape b0_five b0_value b0_far b0_lead b0_walk b0_ends b0_manX b0_manY b0_dogX b0_dogY b0_row b0_round b0_farOne b0_leads b0_drags b0_from g0_thrown g0_hasImage g0_remembered g0_taped g0_point g0_end g0_begin g0_deep g0_faultAt g0_steps g0_men g0_dogs f1)) hD hS hA [0, 1] rfl
  refine va_calli (va_runV (As := [.int (p0 ||| (p0 <<< ((1 : Int32) &&& 31))), .int p1]) (rest := []) ⟨hx, hb, hml, hown, hts⟩ (ctX11_goesOn l dC dI cyI cyB cyJ cyZ _ a0 a1 b0_world b0_image b0_before b0_taken b0_tape b0_five b0_value b0_far b0_lead b0_walk b0_ends b0_manX b0_manY b0_dogX b0_dogY b0_row b0_round b0_farOne b0_leads b0_drags b0_from g0_thrown g0_hasImage g0_remembered g0_taped g0_point g0_end g0_begin g0_deep g0_faultAt g0_steps g0_men g0_dogs f1 (p0 ||| (p0 <<< ((1 : Int32) &&& 31))) p1 _ hw) (cwV 2 hts gX11_comes_X11_goesOn rfl rfl rfl (by decide +kernel) ⟨Nat.le_of_ble_eq_true rfl, Nat.le_of_ble_eq_true rfl⟩) ⟨wPre_blind, va_recv hK hPc (ci := 11) (q0 := 0) rfl rfl, fun U hU hW => wPre_of hPc hK hDc hN hU hW⟩ rfl rfl hl.1 rfl (lv_room (Nat.le_of_ble_eq_true rfl)) dX11_comes_7 ⟨(Nat.zero_le _), (Nat.zero_le _)⟩) hS (fun q _ h => hFc q h) hFc (fun r2 u1 t H1 locs ht hvm hw hB hz1 hk1 hS => ?_)
  obtain ⟨hP1, hK1, hD1⟩ := hB
  rw [ht] at hP1
  obtain ⟨hP, hD⟩ := va_join (wr := pickW (ceX11_comes cyI cyB cyJ cyZ a0 a1 b0_world b0_image b0_before b0_taken b0_tape b0_five b0_value b0_far b0_lead b0_walk b0_ends b0_manX b0_manY b0_dogX b0_dogY b0_row b0_round b0_farOne b0_leads b0_drags b0_from g0_thrown g0_hasImage g0_remembered g0_taped g0_point g0_end g0_begin g0_deep g0_faultAt g0_steps g0_men g0_dogs f1) []) (w1 := (ceX11_goesOn cyI cyB cyJ cyZ a0 a1 b0_world b0_image b0_before b0_taken b0_tape b0_five b0_value b0_far b0_lead b0_walk b0_ends b0_manX b0_manY b0_dogX b0_dogY b0_row b0_round b0_farOne b0_leads b0_drags b0_from g0_thrown g0_hasImage g0_remembered g0_taped g0_point g0_end g0_begin g0_deep g0_faultAt g0_steps g0_men g0_dogs f1)) hP hD [0, 1] [] rfl rfl (by decide) (by decide) hk1 hFc hP1 hD1
  have hP := hP.sub (ws' := (ceX11_comes cyI cyB cyJ cyZ a0 a1 b0_world b0_image b0_before b0_taken b0_tape b0_five b0_value b0_far b0_lead b0_walk b0_ends b0_manX b0_manY b0_dogX b0_dogY b0_row b0_round b0_farOne b0_leads b0_drags b0_from g0_thrown g0_hasImage g0_remembered g0_taped g0_point g0_end g0_begin g0_deep g0_faultAt g0_steps g0_men g0_dogs f1)) [0, 1] rfl
  have hD := hD.sub (ws' := (ceX11_comes cyI cyB cyJ cyZ a0 a1 b0_world b0_image b0_before b0_taken b0_tape b0_five b0_value b0_far b0_lead b0_walk b0_ends b0_manX b0_manY b0_dogX b0_dogY b0_row b0_round b0_farOne b0_leads b0_drags b0_from g0_thrown g0_hasImage g0_remembered g0_taped g0_point g0_end g0_begin g0_deep g0_faultAt g0_steps g0_men g0_dogs f1)) [0, 1] (by decide) rfl
  generalize H1 = H at hP hS ⊢
  rw [hQ]
  exact W.iret (v := r2) hx hb hr (fun t ht hW => ⟨⟨r2, (), rfl, hw, by rw [ht]; exact hP, va_K.moved hW.alike hK, hD⟩, hS.F ht⟩) hS.2.2 dX11_comes_10
/-! LeadParkModel.leadsTo (II)I -/
abbrev ceX11_leadsTo (cyI cyB cyJ cyZ : ClassId) (a0 a1 b0_world b0_image b0_before b0_taken b0_tape b0_five b0_value b0_far b0_lead b0_walk b0_ends b0_manX b0_manY b0_dogX b0_dogY b0_row b0_round b0_farOne b0_leads b0_drags b0_from : Nat) (g0_thrown : Int32) (g0_hasImage : Int32) (g0_remembered : Int32) (g0_taped : Int32) (g0_point : Int32) (g0_end : Int32) (g0_begin : Int32) (g0_deep : Int32) (g0_faultAt : Int32) (g0_steps : Int32) (g0_men : Int32) (g0_dogs : Int32) (f1 : Nat → Int32) : va_W := [(a0, .inr (11, [.int g0_thrown, .ref b0_world, .ref b0_image, .ref b0_before, .int g0_hasImage, .ref b0_taken, .int g0_remembered, .ref b0_tape, .int g0_taped, .int g0_point, .int g0_end, .int g0_begin, .int g0_deep, .int g0_faultAt, .ref b0_five, .int g0_steps, .ref b0_value, .ref b0_far, .int g0_men, .int g0_dogs, .ref b0_lead, .ref b0_walk, .ref b0_ends, .ref b0_manX, .ref b0_manY, .ref b0_dogX, .ref b0_dogY, .ref b0_row, .ref b0_round, .ref b0_farOne, .ref b0_leads, .ref b0_drags, .ref b0_from, .ref a1])), (a1, .inl (cyI, 30, .inl f1))]

theorem inX11_leadsTo_X11 : ∀ w ∈ wsX110, w ∈ wsX11_leadsTo := fun _ h => List.mem_cons_of_mem _ (List.mem_append_right _ h)
abbrev rmX11_leadsTo : Room := { frames := 0, cells := 0, slots := 0, locals := 0 }
set_option maxRecDepth 100000 in
set_option maxHeartbeats 4000000 in
theorem bX11_leadsTo_16 {p : Program} {l : Launch} {e : Env} {s : State} {m : MethodId} {args : Array Value} {below : List Frame} {meth : Method} {c : Code} {dC : Nat → ClassId} {dI : Nat → Nat → Nat} {cyI cyB cyJ cyZ : ClassId} {A : Nat → Prop} {a0 a1 b0_world b0_image b0_before b0_taken b0_tape b0_five b0_value b0_far b0_lead b0_walk b0_ends b0_manX b0_manY b0_dogX b0_dogY b0_row b0_round b0_farOne b0_leads b0_drags b0_from : Nat} {g0_thrown : Int32} {g0_hasImage : Int32} {g0_remembered : Int32} {g0_taped : Int32} {g0_point : Int32} {g0_end : Int32} {g0_begin : Int32} {g0_deep : Int32} {g0_faultAt : Int32} {g0_steps : Int32} {g0_men : Int32} {g0_dogs : Int32} (C0 : cxM p s m meth c args wsX11_leadsTo RX11 cX11_leadsTo 5 (some .int)) (hK : va_K (dC, dI) vwCl (tyA cyI cyB cyJ cyZ) s) (hN : nwA s) (hA : ∀ q : Nat, s.heap.size ≤ q → A q) {post : Int32 → Unit → Prop} {f1 : Nat → Int32} {Q : State → Prop} (hQ : Q = MQ below (va_Qi post (fun u : Unit => wAt dC dI cyI cyB cyJ cyZ A (ceX11_leadsTo cyI cyB cyJ cyZ a0 a1 b0_world b0_image b0_before b0_taken b0_tape b0_five b0_value b0_far b0_lead b0_walk b0_ends b0_manX b0_manY b0_dogX b0_dogY b0_row b0_round b0_farOne b0_leads b0_drags b0_from g0_thrown g0_hasImage g0_remembered g0_taped g0_point g0_end g0_begin g0_deep g0_faultAt g0_steps g0_men g0_dogs f1)) A) args s 0 0 A) : ∀ (n : Nat) (x2 : Int32) (x3 : Int32) (x4 : Int32), wpX11_leadsTo_16 post f1 n x2 x3 x4 → AtW p l e rmX11_leadsTo s m args below meth c dC dI A Q 5 0 0 (ceX11_leadsTo cyI cyB cyJ cyZ a0 a1 b0_world b0_image b0_before b0_taken b0_tape b0_five b0_value b0_far b0_lead b0_walk b0_ends b0_manX b0_manY b0_dogX b0_dogY b0_row b0_round b0_farOne b0_leads b0_drags b0_from g0_thrown g0_hasImage g0_remembered g0_taped g0_point g0_end g0_begin g0_deep g0_faultAt g0_steps g0_men g0_dogs f1) [(0, .ref a0), (2, .int x2), (3, .int x3), (4, .int x4)] 16 [] := by
  intro n
  induction n with
  | zero => intro x2 x3 x4 hw; exact False.elim hw
  | succ n ih =>
    intro x2 x3 x4 hw H locs hP hD hS ls hl
    have C1 := C0
    obtain ⟨hx, hb, hr, hml, hown, hts, hlocks⟩ := C1
    refine lv_iload hx hb dX11_leadsTo_16 (lv_at hl 3 rfl) ?_
    refine lv_iload_n hx hb dX11_leadsTo_18 rfl (lv_at hl 2 rfl) ?_
    refine lv_icmp_eq (tgt := 41) hx hb dX11_leadsTo_19 (by decide) (fun hc => ?_) (fun hc => ?_)
    · have hw := hw.1 hc
      refine lv_iload_n hx hb dX11_leadsTo_41 rfl (lv_at hl 2 rfl) ?_
      rw [hQ]
      exact W.iret (v := x3) hx hb hr (fun t ht hW => ⟨⟨x3, (), rfl, hw, by rw [ht]; exact hP, va_K.moved hW.alike hK, hD⟩, hS.F ht⟩) hS.2.2 dX11_leadsTo_42
    · have hw := hw.2 hc
      refine lv_iload_n hx hb dX11_leadsTo_22 rfl (lv_at hl 2 rfl) ?_
      refine lv_istore (lv' := [(4, .int x3), (0, .ref a0), (2, .int x2), (3, .int x3)]) hx hb dX11_leadsTo_23 hl (by decide) rfl (fun ls hl => ?_)
      refine lv_iload_n hx hb dX11_leadsTo_25 rfl (lv_at hl 3 rfl) ?_
      refine lv_iload_n hx hb dX11_leadsTo_26 rfl (lv_at hl 3 rfl) ?_
      refine lv_iconst (v := 1) hx hb dX11_leadsTo_27 (by decide) ?_
      refine lv_ishr hx hb dX11_leadsTo_28 ?_
      refine lv_aload_n hx hb dX11_leadsTo_29 rfl (lv_at hl 1 rfl) ?_
      refine va_get (D := (dC, dI)) (ci := 11) (v := .ref a1) (C := RX11) (T := TX11) (N := 34) hx hb hts inX11_leadsTo_X11 hown hK hP 0 rfl rfl 33 (by decide) (hts (.fieldLink RX11 83 "LeadParkModel" "near" "[I") (List.mem_of_getElem? (i := 1) rfl)) (fun _ h9 => h9) rfl dX11_leadsTo_30 ?_
      refine lv_iload_n hx hb dX11_leadsTo_33 rfl (lv_at hl 2 rfl) ?_
      obtain ⟨hi, hw⟩ := hw
      refine va_iald hx hb hK hP 1 0 rfl rfl hi dX11_leadsTo_34 ?_
      refine lv_iand hx hb dX11_leadsTo_35 ?_
      refine lv_ior hx hb dX11_leadsTo_36 ?_
      refine lv_topi (fun v1 ev1 => ?_)
      have hw := hw v1 ev1
      refine lv_istore_n (lv' := [(3, .int v1), (4, .int x3), (0, .ref a0), (2, .int x2)]) hx hb dX11_leadsTo_37 rfl hl (by decide) rfl (fun ls hl => ?_)
      refine lv_goto (tgt := 16) hx hb dX11_leadsTo_38 (by decide) ?_
      exact ih x2 v1 x3 hw H locs hP hD hS ls (lv_sub hl [2, 3, 0, 1] rfl)
set_option maxRecDepth 100000 in
set_option maxHeartbeats 4000000 in
theorem ctX11_leadsTo (l : Launch) (dC : Nat → ClassId) (dI : Nat → Nat → Nat) (cyI cyB cyJ cyZ : ClassId) (sz : Nat) (a0 a1 b0_world b0_image b0_before b0_taken b0_tape b0_five b0_value b0_far b0_lead b0_walk b0_ends b0_manX b0_manY b0_dogX b0_dogY b0_row b0_round b0_farOne b0_leads b0_drags b0_from : Nat) (g0_thrown : Int32) (g0_hasImage : Int32) (g0_remembered : Int32) (g0_taped : Int32) (g0_point : Int32) (g0_end : Int32) (g0_begin : Int32) (g0_deep : Int32) (g0_faultAt : Int32) (g0_steps : Int32) (g0_men : Int32) (g0_dogs : Int32) (f1 : Nat → Int32) (p0 : Int32) (p1 : Int32) (post : Int32 → Unit → Prop) (hw : wpX11_leadsTo post f1 p0 p1) : Met l yX11_leadsTo wsX11_leadsTo rmX11_leadsTo (va_Pc [.ref a0, .int p0, .int p1] (wPre dC dI cyI cyB cyJ cyZ sz (ceX11_leadsTo cyI cyB cyJ cyZ a0 a1 b0_world b0_image b0_before b0_taken b0_tape b0_five b0_value b0_far b0_lead b0_walk b0_ends b0_manX b0_manY b0_dogX b0_dogY b0_row b0_round b0_farOne b0_leads b0_drags b0_from g0_thrown g0_hasImage g0_remembered g0_taped g0_point g0_end g0_begin g0_deep g0_faultAt g0_steps g0_men g0_dogs f1))) (va_Qi post (fun u : Unit => wAt dC dI cyI cyB cyJ cyZ (va_A (ceX11_leadsTo cyI cyB cyJ cyZ a0 a1 b0_world b0_image b0_before b0_taken b0_tape b0_five b0_value b0_far b0_lead b0_walk b0_ends b0_manX b0_manY b0_dogX b0_dogY b0_row b0_round b0_farOne b0_leads b0_drags b0_from g0_thrown g0_hasImage g0_remembered g0_taped g0_point g0_end g0_begin g0_deep g0_faultAt g0_steps g0_men g0_dogs f1) sz) (ceX11_leadsTo cyI cyB cyJ cyZ a0 a1 b0_world b0_image b0_before b0_taken b0_tape b0_five b0_value b0_far b0_lead b0_walk b0_ends b0_manX b0_manY b0_dogX b0_dogY b0_row b0_round b0_farOne b0_leads b0_drags b0_from g0_thrown g0_hasImage g0_remembered g0_taped g0_point g0_end g0_begin g0_deep g0_faultAt g0_steps g0_men g0_dogs f1)) (va_A (ceX11_leadsTo cyI cyB cyJ cyZ a0 a1 b0_world b0_image b0_before b0_taken b0_tape b0_five b0_value b0_far b0_lead b0_walk b0_ends b0_manX b0_manY b0_dogX b0_dogY b0_row b0_round b0_farOne b0_leads b0_drags b0_from g0_thrown g0_hasImage g0_remembered g0_taped g0_point g0_end g0_begin g0_deep g0_faultAt g0_steps g0_men g0_dogs f1) sz)) 0 0 (va_A (ceX11_leadsTo cyI cyB cyJ cyZ a0 a1 b0_world b0_image b0_before b0_taken b0_tape b0_five b0_value b0_far b0_lead b0_walk b0_ends b0_manX b0_manY b0_dogX b0_dogY b0_row b0_round b0_farOne b0_leads b0_drags b0_from g0_thrown g0_hasImage g0_remembered g0_taped g0_point g0_end g0_begin g0_deep g0_faultAt g0_steps g0_men g0_dogs f1) sz) := by
  refine Met.ofW (cc := cX11_leadsTo) (maxL := 5) (ret := (some .int)) (by decide) rfl ?_
  intro p e s m args below meth c s₁ B hml hv
  obtain ⟨rfl, hsz, hP, hK, hD0, hN⟩ := hv
  have hx := B.exec
  have hb := B.bytes
  have hr := B.returns
  have hts := atoms_spec (ws := wsX11_leadsTo) B.pre
  have hown : s.vm.findClass RX11 = some m.cls := findClass_of_methodNamed B.named
  have hlocks := B.notSynchronized
  subst hsz
  have hD := hD0.self (sz := s.heap.size)
  generalize hAe : va_A (ceX11_leadsTo cyI cyB cyJ cyZ a0 a1 b0_world b0_image b0_before b0_taken b0_tape b0_five b0_value b0_far b0_lead b0_walk b0_ends b0_manX b0_manY b0_dogX b0_dogY b0_row b0_round b0_farOne b0_leads b0_drags b0_from g0_thrown g0_hasImage g0_remembered g0_taped g0_point g0_end g0_begin g0_deep g0_faultAt g0_steps g0_men g0_dogs f1) s.heap.size = A at hD ⊢
  have hA : ∀ q : Nat, s.heap.size ≤ q → A q := fun q h => by rw [← hAe]; exact Or.inr h
  have hS : va_S A s.heap s.heap [] := va_S.rf
  have C0 : cxM p s m meth c _ wsX11_leadsTo RX11 cX11_leadsTo 5 (some .int) := ⟨hx, hb, hr, hml, hown, hts, hlocks⟩
  have hl := lv_entry ([.ref a0, .int p0, .int p1]) (n := 5) (Nat.le_of_ble_eq_true rfl)
  rw [lg_entry_eq]
  generalize (lg_sl ([.ref a0, .int p0, .int p1]) ++ List.replicate (5 - (lg_sl ([.ref a0, .int p0, .int p1])).length) Slot.unset).toArray = ls at hl ⊢
  have hl : lv_has ls 5 [(0, .ref a0), (1, .int p0), (2, .int p1)] := hl
  show W p l e rmX11_leadsTo s m _ below meth c _ _ _ _ _ _
  refine wq (fun Q hQ => ?_)
  refine lv_iload_n hx hb dX11_leadsTo_0 rfl (lv_at hl 1 rfl) ?_
  refine lv_iload_n hx hb dX11_leadsTo_1 rfl (lv_at hl 1 rfl) ?_
  refine lv_iconst (v := 1) hx hb dX11_leadsTo_2 (by decide) ?_
  refine lv_ishr hx hb dX11_leadsTo_3 ?_
  refine lv_ior hx hb dX11_leadsTo_4 ?_
  refine lv_aload_n hx hb dX11_leadsTo_5 rfl (lv_at hl 0 rfl) ?_
  refine va_get (D := (dC, dI)) (ci := 11) (v := .ref a1) (C := RX11) (T := TX11) (N := 34) hx hb hts inX11_leadsTo_X11 hown hK hP 0 rfl rfl 33 (by decide) (hts (.fieldLink RX11 83 "LeadParkModel" "near" "[I") (List.mem_of_getElem? (i := 1) rfl)) (fun _ h9 => h9) rfl dX11_leadsTo_6 ?_
  refine lv_iload_n hx hb dX11_leadsTo_9 rfl (lv_at hl 2 rfl) ?_
  obtain ⟨hi, hw⟩ := hw
  refine va_iald hx hb hK hP 1 0 rfl rfl hi dX11_leadsTo_10 ?_
  refine lv_iand hx hb dX11_leadsTo_11 ?_
  refine lv_topi (fun v1 ev1 => ?_)
  have hw := hw v1 ev1
  refine lv_istore_n (lv' := [(3, .int v1), (0, .ref a0), (1, .int p0), (2, .int p1)]) hx hb dX11_leadsTo_12 rfl hl (by decide) rfl (fun ls hl => ?_)
  refine lv_iconst (v := 0) hx hb dX11_leadsTo_13 (by decide) ?_
  refine lv_istore (lv' := [(4, .int 0), (3, .int v1), (0, .ref a0), (1, .int p0), (2, .int p1)]) hx hb dX11_leadsTo_14 hl (by decide) rfl (fun ls hl => ?_)
  obtain ⟨nn, hw⟩ := hw
  exact bX11_leadsTo_16 C0 hK hN hA hQ nn p1 v1 0 hw _ _ hP hD hS ls (lv_sub hl [2, 4, 1, 0] rfl)
