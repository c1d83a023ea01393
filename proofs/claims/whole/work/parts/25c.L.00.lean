/-! LeadParkLaw.park (LLeadPark;[J)I -/
abbrev ceL_park (cyI cyB cyJ cyZ : ClassId) (a0 a1 a2 a3 a4 a5 a6 a7 a8 a9 a10 a11 a12 a13 a14 a15 b0_kept b0_draftLaw b0_grid b0_pack b0_pieces b0_thinning b1_law b1_marks b7_steps b7_greatestAhead n15 : Nat) (g0_imageKept : Int32) (g1_drawSeed : Int32) (g7_way : Int32) (g7_other : Int32) (g7_lead : Int32) (g7_man : Int32) (g7_dog : Int32) (g7_gone : Int32) (g7_greatest : Int32) (g7_remembered : Int32) (f14 : Nat → Int32) (g0_wrongByte : Int32) (g2_ways : Int32) (g2_wallCount : Int32) (g2_texts : Int32) (f3 : Nat → Int32) (f4 : Nat → Int32) (f5 : Nat → Int32) (f6 : Nat → Int32) (g7_underWay : Int32) (g8_ways : Int32) (g8_wallCount : Int32) (g8_texts : Int32) (f9 : Nat → Int32) (f10 : Nat → Int32) (f11 : Nat → Int32) (f12 : Nat → Int32) (g13_size : Int32) (g13_here : Int32) (g13_behind : Int32) (g13_digits : Int32) (g13_value : Int32) (f15 : Nat → Int64) : va_W := [(a0, .inr (10, [.ref a13, .ref a1, .ref b0_kept, .ref a8, .ref b0_draftLaw, .ref b0_grid, .ref b0_pack, .ref b0_pieces, .ref b0_thinning, .int g0_imageKept, .int g0_wrongByte])), (a1, .inr (6, [.ref a2, .ref b1_law, .ref b1_marks, .ref a7, .int g1_drawSeed])), (a2, .inr (1, [.ref a3, .ref a4, .ref a5, .ref a6, .int g2_ways, .int g2_wallCount, .int g2_texts])), (a3, .inl (cyI, 360, .inl f3)), (a4, .inl (cyI, 360, .inl f4)), (a5, .inl (cyI, 12, .inl f5)), (a6, .inl (cyI, 32, .inl f6)), (a7, .inr (7, [.int g7_underWay, .int g7_way, .int g7_other, .int g7_lead, .int g7_man, .int g7_dog, .int g7_gone, .int g7_greatest, .int g7_remembered, .ref b7_steps, .ref b7_greatestAhead])), (a8, .inr (1, [.ref a9, .ref a10, .ref a11, .ref a12, .int g8_ways, .int g8_wallCount, .int g8_texts])), (a9, .inl (cyI, 360, .inl f9)), (a10, .inl (cyI, 360, .inl f10)), (a11, .inl (cyI, 12, .inl f11)), (a12, .inl (cyI, 32, .inl f12)), (a13, .inr (8, [.ref a14, .int g13_size, .int g13_here, .int g13_behind, .int g13_digits, .int g13_value])), (a14, .inl (cyB, 400, .inl f14)), (a15, .inl (cyJ, n15, .inr (.inl f15)))]

abbrev rmL_park : Room := { frames := 8, cells := 1, slots := 6, locals := 172 }
def wpL_park (n15 : Nat) (post : Int32 → (Int32 × Int32 × Int32 × Int32 × (Nat → Int32) × (Nat → Int32) × (Nat → Int32) × (Nat → Int32) × Int32 × Int32 × Int32 × Int32 × (Nat → Int32) × (Nat → Int32) × (Nat → Int32) × (Nat → Int32) × Int32 × Int32 × Int32 × Int32 × Int32 × (Nat → Int64)) → Prop) (f14 : Nat → Int32) (g0_wrongByte : Int32) (g2_ways : Int32) (g2_wallCount : Int32) (g2_texts : Int32) (f3 : Nat → Int32) (f4 : Nat → Int32) (f5 : Nat → Int32) (f6 : Nat → Int32) (g7_underWay : Int32) (g8_ways : Int32) (g8_wallCount : Int32) (g8_texts : Int32) (f9 : Nat → Int32) (f10 : Nat → Int32) (f11 : Nat → Int32) (f12 : Nat → Int32) (g13_size : Int32) (g13_here : Int32) (g13_behind : Int32) (g13_digits : Int32) (g13_value : Int32) (f15 : Nat → Int64) : Prop :=
  wpX10_park (fun (r2 : Int32) (u1 : Int32 × Int32 × Int32 × Int32 × (Nat → Int32) × (Nat → Int32) × (Nat → Int32) × (Nat → Int32) × Int32 × Int32 × Int32 × Int32 × (Nat → Int32) × (Nat → Int32) × (Nat → Int32) × (Nat → Int32) × Int32 × Int32 × Int32 × Int32 × Int32) =>
   vp_in 0 n15 ∧
   post 0 (u1.1, u1.2.1, u1.2.2.1, u1.2.2.2.1, u1.2.2.2.2.1, u1.2.2.2.2.2.1, u1.2.2.2.2.2.2.1, u1.2.2.2.2.2.2.2.1, u1.2.2.2.2.2.2.2.2.1, u1.2.2.2.2.2.2.2.2.2.1, u1.2.2.2.2.2.2.2.2.2.2.1, u1.2.2.2.2.2.2.2.2.2.2.2.1, u1.2.2.2.2.2.2.2.2.2.2.2.2.1, u1.2.2.2.2.2.2.2.2.2.2.2.2.2.1, u1.2.2.2.2.2.2.2.2.2.2.2.2.2.2.1, u1.2.2.2.2.2.2.2.2.2.2.2.2.2.2.2.1, u1.2.2.2.2.2.2.2.2.2.2.2.2.2.2.2.2.1, u1.2.2.2.2.2.2.2.2.2.2.2.2.2.2.2.2.2.1, u1.2.2.2.2.2.2.2.2.2.2.2.2.2.2.2.2.2.2.1, u1.2.2.2.2.2.2.2.2.2.2.2.2.2.2.2.2.2.2.2.1, u1.2.2.2.2.2.2.2.2.2.2.2.2.2.2.2.2.2.2.2.2, (vp_updL f15 (0 : Int32).toNatClampNeg (r2.toInt64)))) (fun (E : String) (u1 : Int32 × Int32 × Int32 × Int32 × (Nat → Int32) × (Nat → Int32) × (Nat → Int32) × (Nat → Int32) × Int32 × Int32 × Int32 × Int32 × (Nat → Int32) × (Nat → Int32) × (Nat → Int32) × (Nat → Int32) × Int32 × Int32 × Int32 × Int32 × Int32) =>
   (E = "java/lang/IllegalArgumentException" →
    post 1 (u1.1, u1.2.1, u1.2.2.1, u1.2.2.2.1, u1.2.2.2.2.1, u1.2.2.2.2.2.1, u1.2.2.2.2.2.2.1, u1.2.2.2.2.2.2.2.1, u1.2.2.2.2.2.2.2.2.1, u1.2.2.2.2.2.2.2.2.2.1, u1.2.2.2.2.2.2.2.2.2.2.1, u1.2.2.2.2.2.2.2.2.2.2.2.1, u1.2.2.2.2.2.2.2.2.2.2.2.2.1, u1.2.2.2.2.2.2.2.2.2.2.2.2.2.1, u1.2.2.2.2.2.2.2.2.2.2.2.2.2.2.1, u1.2.2.2.2.2.2.2.2.2.2.2.2.2.2.2.1, u1.2.2.2.2.2.2.2.2.2.2.2.2.2.2.2.2.1, u1.2.2.2.2.2.2.2.2.2.2.2.2.2.2.2.2.2.1, u1.2.2.2.2.2.2.2.2.2.2.2.2.2.2.2.2.2.2.1, u1.2.2.2.2.2.2.2.2.2.2.2.2.2.2.2.2.2.2.2.1, u1.2.2.2.2.2.2.2.2.2.2.2.2.2.2.2.2.2.2.2.2, f15)) ∧ (E = "java/lang/UnsupportedOperationException" →
    post 2 (u1.1, u1.2.1, u1.2.2.1, u1.2.2.2.1, u1.2.2.2.2.1, u1.2.2.2.2.2.1, u1.2.2.2.2.2.2.1, u1.2.2.2.2.2.2.2.1, u1.2.2.2.2.2.2.2.2.1, u1.2.2.2.2.2.2.2.2.2.1, u1.2.2.2.2.2.2.2.2.2.2.1, u1.2.2.2.2.2.2.2.2.2.2.2.1, u1.2.2.2.2.2.2.2.2.2.2.2.2.1, u1.2.2.2.2.2.2.2.2.2.2.2.2.2.1, u1.2.2.2.2.2.2.2.2.2.2.2.2.2.2.1, u1.2.2.2.2.2.2.2.2.2.2.2.2.2.2.2.1, u1.2.2.2.2.2.2.2.2.2.2.2.2.2.2.2.2.1, u1.2.2.2.2.2.2.2.2.2.2.2.2.2.2.2.2.2.1, u1.2.2.2.2.2.2.2.2.2.2.2.2.2.2.2.2.2.2.1, u1.2.2.2.2.2.2.2.2.2.2.2.2.2.2.2.2.2.2.2.1, u1.2.2.2.2.2.2.2.2.2.2.2.2.2.2.2.2.2.2.2.2, f15)) ∧ (E = "java/lang/IllegalArgumentException" ∨ E = "java/lang/UnsupportedOperationException")) f14 g0_wrongByte g2_ways g2_wallCount g2_texts f3 f4 f5 f6 g7_underWay g8_ways g8_wallCount g8_texts f9 f10 f11 f12 g13_size g13_here g13_behind g13_digits g13_value
set_option maxRecDepth 100000 in
set_option maxHeartbeats 4000000 in
theorem ctL_park (l : Launch) (hl0 : l.stackTraces = false) (dC : Nat → ClassId) (dI : Nat → Nat → Nat) (cyI cyB cyJ cyZ : ClassId) (sz : Nat) (a0 a1 a2 a3 a4 a5 a6 a7 a8 a9 a10 a11 a12 a13 a14 a15 b0_kept b0_draftLaw b0_grid b0_pack b0_pieces b0_thinning b1_law b1_marks b7_steps b7_greatestAhead n15 : Nat) (g0_imageKept : Int32) (g1_drawSeed : Int32) (g7_way : Int32) (g7_other : Int32) (g7_lead : Int32) (g7_man : Int32) (g7_dog : Int32) (g7_gone : Int32) (g7_greatest : Int32) (g7_remembered : Int32) (f14 : Nat → Int32) (g0_wrongByte : Int32) (g2_ways : Int32) (g2_wallCount : Int32) (g2_texts : Int32) (f3 : Nat → Int32) (f4 : Nat → Int32) (f5 : Nat → Int32) (f6 : Nat → Int32) (g7_underWay : Int32) (g8_ways : Int32) (g8_wallCount : Int32) (g8_texts : Int32) (f9 : Nat → Int32) (f10 : Nat → Int32) (f11 : Nat → Int32) (f12 : Nat → Int32) (g13_size : Int32) (g13_here : Int32) (g13_behind : Int32) (g13_digits : Int32) (g13_value : Int32) (f15 : Nat → Int64) (post : Int32 → (Int32 × Int32 × Int32 × Int32 × (Nat → Int32) × (Nat → Int32) × (Nat → Int32) × (Nat → Int32) × Int32 × Int32 × Int32 × Int32 × (Nat → Int32) × (Nat → Int32) × (Nat → Int32) × (Nat → Int32) × Int32 × Int32 × Int32 × Int32 × Int32 × (Nat → Int64)) → Prop) (adS : Nat → Nat) (hw : wpL_park n15 post f14 g0_wrongByte g2_ways g2_wallCount g2_texts f3 f4 f5 f6 g7_underWay g8_ways g8_wallCount g8_texts f9 f10 f11 f12 g13_size g13_here g13_behind g13_digits g13_value f15 ) : Met l yL_park wsL_park rmL_park (va_Pc [.ref a0, .ref a15] (wPreX dC dI cyI cyB cyJ cyZ sz (ceL_park cyI cyB cyJ cyZ a0 a1 a2 a3 a4 a5 a6 a7 a8 a9 a10 a11 a12 a13 a14 a15 b0_kept b0_draftLaw b0_grid b0_pack b0_pieces b0_thinning b1_law b1_marks b7_steps b7_greatestAhead n15 g0_imageKept g1_drawSeed g7_way g7_other g7_lead g7_man g7_dog g7_gone g7_greatest g7_remembered f14 g0_wrongByte g2_ways g2_wallCount g2_texts f3 f4 f5 f6 g7_underWay g8_ways g8_wallCount g8_texts f9 f10 f11 f12 g13_size g13_here g13_behind g13_digits g13_value f15) (txL adS))) (va_Qi post (fun u : Int32 × Int32 × Int32 × Int32 × (Nat → Int32) × (Nat → Int32) × (Nat → Int32) × (Nat → Int32) × Int32 × Int32 × Int32 × Int32 × (Nat → Int32) × (Nat → Int32) × (Nat → Int32) × (Nat → Int32) × Int32 × Int32 × Int32 × Int32 × Int32 × (Nat → Int64) => wAt dC dI cyI cyB cyJ cyZ (va_A (ceL_park cyI cyB cyJ cyZ a0 a1 a2 a3 a4 a5 a6 a7 a8 a9 a10 a11 a12 a13 a14 a15 b0_kept b0_draftLaw b0_grid b0_pack b0_pieces b0_thinning b1_law b1_marks b7_steps b7_greatestAhead n15 g0_imageKept g1_drawSeed g7_way g7_other g7_lead g7_man g7_dog g7_gone g7_greatest g7_remembered f14 g0_wrongByte g2_ways g2_wallCount g2_texts f3 f4 f5 f6 g7_underWay g8_ways g8_wallCount g8_texts f9 f10 f11 f12 g13_size g13_here g13_behind g13_digits g13_value f15) sz) (ceL_park cyI cyB cyJ cyZ a0 a1 a2 a3 a4 a5 a6 a7 a8 a9 a10 a11 a12 a13 a14 a15 b0_kept b0_draftLaw b0_grid b0_pack b0_pieces b0_thinning b1_law b1_marks b7_steps b7_greatestAhead n15 g0_imageKept g1_drawSeed g7_way g7_other g7_lead g7_man g7_dog g7_gone g7_greatest g7_remembered f14 u.1 u.2.1 u.2.2.1 u.2.2.2.1 u.2.2.2.2.1 u.2.2.2.2.2.1 u.2.2.2.2.2.2.1 u.2.2.2.2.2.2.2.1 u.2.2.2.2.2.2.2.2.1 u.2.2.2.2.2.2.2.2.2.1 u.2.2.2.2.2.2.2.2.2.2.1 u.2.2.2.2.2.2.2.2.2.2.2.1 u.2.2.2.2.2.2.2.2.2.2.2.2.1 u.2.2.2.2.2.2.2.2.2.2.2.2.2.1 u.2.2.2.2.2.2.2.2.2.2.2.2.2.2.1 u.2.2.2.2.2.2.2.2.2.2.2.2.2.2.2.1 u.2.2.2.2.2.2.2.2.2.2.2.2.2.2.2.2.1 u.2.2.2.2.2.2.2.2.2.2.2.2.2.2.2.2.2.1 u.2.2.2.2.2.2.2.2.2.2.2.2.2.2.2.2.2.2.1 u.2.2.2.2.2.2.2.2.2.2.2.2.2.2.2.2.2.2.2.1 u.2.2.2.2.2.2.2.2.2.2.2.2.2.2.2.2.2.2.2.2.1 u.2.2.2.2.2.2.2.2.2.2.2.2.2.2.2.2.2.2.2.2.2)) (va_A (ceL_park cyI cyB cyJ cyZ a0 a1 a2 a3 a4 a5 a6 a7 a8 a9 a10 a11 a12 a13 a14 a15 b0_kept b0_draftLaw b0_grid b0_pack b0_pieces b0_thinning b1_law b1_marks b7_steps b7_greatestAhead n15 g0_imageKept g1_drawSeed g7_way g7_other g7_lead g7_man g7_dog g7_gone g7_greatest g7_remembered f14 g0_wrongByte g2_ways g2_wallCount g2_texts f3 f4 f5 f6 g7_underWay g8_ways g8_wallCount g8_texts f9 f10 f11 f12 g13_size g13_here g13_behind g13_digits g13_value f15) sz)) 1 6 (va_A (ceL_park cyI cyB cyJ cyZ a0 a1 a2 a3 a4 a5 a6 a7 a8 a9 a10 a11 a12 a13 a14 a15 b0_kept b0_draftLaw b0_grid b0_pack b0_pieces b0_thinning b1_law b1_marks b7_steps b7_greatestAhead n15 g0_imageKept g1_drawSeed g7_way g7_other g7_lead g7_man g7_dog g7_gone g7_greatest g7_remembered f14 g0_wrongByte g2_ways g2_wallCount g2_texts f3 f4 f5 f6 g7_underWay g8_ways g8_wallCount g8_texts f9 f10 f11 f12 g13_size g13_here g13_behind g13_digits g13_value f15) sz) := by
  refine mt_ofWH (cc := cL_park) (maxL := 3) (ret := (some .int)) (by decide) rfl ?_
  intro p e s m args below meth c s₁ B hml hv
  obtain ⟨rfl, ⟨hsz, hP, hK, hD0, hN⟩, hXs⟩ := hv
  have hx := B.exec
  have hb := B.bytes
  have hr := B.returns
  have hts := atoms_spec (ws := wsL_park) B.pre
  have hown : s.vm.findClass RL = some m.cls := findClass_of_methodNamed B.named
  have hlocks := B.notSynchronized
  have htb := vx_table (x := yL_park) B (hts _ (List.mem_of_getElem? (i := 0) rfl))
  subst hsz
  have hD := hD0.self (sz := s.heap.size)
  generalize hAe : va_A (ceL_park cyI cyB cyJ cyZ a0 a1 a2 a3 a4 a5 a6 a7 a8 a9 a10 a11 a12 a13 a14 a15 b0_kept b0_draftLaw b0_grid b0_pack b0_pieces b0_thinning b1_law b1_marks b7_steps b7_greatestAhead n15 g0_imageKept g1_drawSeed g7_way g7_other g7_lead g7_man g7_dog g7_gone g7_greatest g7_remembered f14 g0_wrongByte g2_ways g2_wallCount g2_texts f3 f4 f5 f6 g7_underWay g8_ways g8_wallCount g8_texts f9 f10 f11 f12 g13_size g13_here g13_behind g13_digits g13_value f15) s.heap.size = A at hD hXs ⊢
  have hA : ∀ q : Nat, s.heap.size ≤ q → A q := fun q h => by rw [← hAe]; exact Or.inr h
  have hS : va_S A s.heap s.heap [] := va_S.rf
  have C0 : cxM p s m meth c _ wsL_park RL cL_park 3 (some .int) := ⟨hx, hb, hr, hml, hown, hts, hlocks⟩
  have hl := lv_entry ([.ref a0, .ref a15]) (n := 3) (Nat.le_of_ble_eq_true rfl)
  rw [lg_entry_eq]
  generalize (lg_sl ([.ref a0, .ref a15]) ++ List.replicate (3 - (lg_sl ([.ref a0, .ref a15])).length) Slot.unset).toArray = ls at hl ⊢
  have hl : lv_has ls 3 [(0, .ref a0), (1, .ref a15)] := hl
  show W p l e rmL_park s m _ below meth c _ _ _ _ _ _
  refine wq (fun Q hQ => ?_)
  refine lv_aload_n hx hb dL_park_0 rfl (lv_at hl 1 rfl) ?_
  refine lv_iconst (v := 0) hx hb dL_park_1 (by decide) ?_
  refine lv_aload_n hx hb dL_park_2 rfl (lv_at hl 0 rfl) ?_
  have hPc := hP.sub (ws' := (ceX10_park cyI cyB cyJ cyZ a0 a1 a2 a3 a4 a5 a6 a7 a8 a9 a10 a11 a12 a13 a14 b0_kept b0_draftLaw b0_grid b0_pack b0_pieces b0_thinning b1_law b1_marks b7_steps b7_greatestAhead g0_imageKept g1_drawSeed g7_way g7_other g7_lead g7_man g7_dog g7_gone g7_greatest g7_remembered f14 g0_wrongByte g2_ways g2_wallCount g2_texts f3 f4 f5 f6 g7_underWay g8_ways g8_wallCount g8_texts f9 f10 f11 f12 g13_size g13_here g13_behind g13_digits g13_value)) [0, 1, 2, 3, 4, 5, 6, 7, 8, 9, 10, 11, 12, 13, 14] rfl
  have hDc := hD.sub (ws' := (ceX10_park cyI cyB cyJ cyZ a0 a1 a2 a3 a4 a5 a6 a7 a8 a9 a10 a11 a12 a13 a14 b0_kept b0_draftLaw b0_grid b0_pack b0_pieces b0_thinning b1_law b1_marks b7_steps b7_greatestAhead g0_imageKept g1_drawSeed g7_way g7_other g7_lead g7_man g7_dog g7_gone g7_greatest g7_remembered f14 g0_wrongByte g2_ways g2_wallCount g2_texts f3 f4 f5 f6 g7_underWay g8_ways g8_wallCount g8_texts f9 f10 f11 f12 g13_size g13_here g13_behind g13_digits g13_value)) [0, 1, 2, 3, 4, 5, 6, 7, 8, 9, 10, 11, 12, 13, 14] (by decide) rfl
  have hFc := va_free (wc := (ceX10_park cyI cyB cyJ cyZ a0 a1 a2 a3 a4 a5 a6 a7 a8 a9 a10 a11 a12 a13 a14 b0_kept b0_draftLaw b0_grid b0_pack b0_pieces b0_thinning b1_law b1_marks b7_steps b7_greatestAhead g0_imageKept g1_drawSeed g7_way g7_other g7_lead g7_man g7_dog g7_gone g7_greatest g7_remembered f14 g0_wrongByte g2_ways g2_wallCount g2_texts f3 f4 f5 f6 g7_underWay g8_ways g8_wallCount g8_texts f9 f10 f11 f12 g13_size g13_here g13_behind g13_digits g13_value)) hD hS hA [0, 1, 2, 3, 4, 5, 6, 7, 8, 9, 10, 11, 12, 13, 14] rfl
  refine vx_calli (vx_runV (As := []) (rest := [.int 0, .ref a15]) ⟨hx, hb, hml, hown, hts⟩ (ctX10_park l hl0 dC dI cyI cyB cyJ cyZ _ a0 a1 a2 a3 a4 a5 a6 a7 a8 a9 a10 a11 a12 a13 a14 b0_kept b0_draftLaw b0_grid b0_pack b0_pieces b0_thinning b1_law b1_marks b7_steps b7_greatestAhead g0_imageKept g1_drawSeed g7_way g7_other g7_lead g7_man g7_dog g7_gone g7_greatest g7_remembered f14 g0_wrongByte g2_ways g2_wallCount g2_texts f3 f4 f5 f6 g7_underWay g8_ways g8_wallCount g8_texts f9 f10 f11 f12 g13_size g13_here g13_behind g13_digits g13_value _ _ adS hw) (cwV 0 hts gL_park_X10_park rfl rfl rfl (by decide +kernel) ⟨Nat.le_of_ble_eq_true rfl, Nat.le_of_ble_eq_true rfl⟩) ⟨wPreX_blind (xOk_txT adS), va_recv hK hPc (ci := 10) (q0 := 0) rfl rfl, fun U hU hW => wPreX_of (xOk_txT adS) hPc hK hDc hN hXs.1 hS hFc hU hW⟩ rfl rfl hl.1 rfl (lv_room (Nat.le_of_ble_eq_true rfl)) dL_park_3 ⟨(by decide), (by decide)⟩) hS (fun q _ h => hFc q h) hFc (fun q _ h => hFc q h) (fun E ce q9 u1 t H1 locs ht hvm hpx hBX hz1 hk1 hS hce hcv hcl => ?_) (fun r2 u1 t H1 locs ht hvm hw hB hz1 hk1 hS => ?_)
  · obtain ⟨hw, hP1, hK1, hD1⟩ := hBX
    rw [ht] at hP1
    obtain ⟨hP, hD⟩ := va_join (wr := pickW (ceL_park cyI cyB cyJ cyZ a0 a1 a2 a3 a4 a5 a6 a7 a8 a9 a10 a11 a12 a13 a14 a15 b0_kept b0_draftLaw b0_grid b0_pack b0_pieces b0_thinning b1_law b1_marks b7_steps b7_greatestAhead n15 g0_imageKept g1_drawSeed g7_way g7_other g7_lead g7_man g7_dog g7_gone g7_greatest g7_remembered f14 g0_wrongByte g2_ways g2_wallCount g2_texts f3 f4 f5 f6 g7_underWay g8_ways g8_wallCount g8_texts f9 f10 f11 f12 g13_size g13_here g13_behind g13_digits g13_value f15) [15]) (w1 := (ceX10_park cyI cyB cyJ cyZ a0 a1 a2 a3 a4 a5 a6 a7 a8 a9 a10 a11 a12 a13 a14 b0_kept b0_draftLaw b0_grid b0_pack b0_pieces b0_thinning b1_law b1_marks b7_steps b7_greatestAhead g0_imageKept g1_drawSeed g7_way g7_other g7_lead g7_man g7_dog g7_gone g7_greatest g7_remembered f14 u1.1 u1.2.1 u1.2.2.1 u1.2.2.2.1 u1.2.2.2.2.1 u1.2.2.2.2.2.1 u1.2.2.2.2.2.2.1 u1.2.2.2.2.2.2.2.1 u1.2.2.2.2.2.2.2.2.1 u1.2.2.2.2.2.2.2.2.2.1 u1.2.2.2.2.2.2.2.2.2.2.1 u1.2.2.2.2.2.2.2.2.2.2.2.1 u1.2.2.2.2.2.2.2.2.2.2.2.2.1 u1.2.2.2.2.2.2.2.2.2.2.2.2.2.1 u1.2.2.2.2.2.2.2.2.2.2.2.2.2.2.1 u1.2.2.2.2.2.2.2.2.2.2.2.2.2.2.2.1 u1.2.2.2.2.2.2.2.2.2.2.2.2.2.2.2.2.1 u1.2.2.2.2.2.2.2.2.2.2.2.2.2.2.2.2.2.1 u1.2.2.2.2.2.2.2.2.2.2.2.2.2.2.2.2.2.2.1 u1.2.2.2.2.2.2.2.2.2.2.2.2.2.2.2.2.2.2.2.1 u1.2.2.2.2.2.2.2.2.2.2.2.2.2.2.2.2.2.2.2.2)) hP hD [0, 1, 2, 3, 4, 5, 6, 7, 8, 9, 10, 11, 12, 13, 14] [15] rfl rfl (by decide) (by decide) hk1 hFc hP1 hD1
    have hP := hP.sub (ws' := (ceL_park cyI cyB cyJ cyZ a0 a1 a2 a3 a4 a5 a6 a7 a8 a9 a10 a11 a12 a13 a14 a15 b0_kept b0_draftLaw b0_grid b0_pack b0_pieces b0_thinning b1_law b1_marks b7_steps b7_greatestAhead n15 g0_imageKept g1_drawSeed g7_way g7_other g7_lead g7_man g7_dog g7_gone g7_greatest g7_remembered f14 u1.1 u1.2.1 u1.2.2.1 u1.2.2.2.1 u1.2.2.2.2.1 u1.2.2.2.2.2.1 u1.2.2.2.2.2.2.1 u1.2.2.2.2.2.2.2.1 u1.2.2.2.2.2.2.2.2.1 u1.2.2.2.2.2.2.2.2.2.1 u1.2.2.2.2.2.2.2.2.2.2.1 u1.2.2.2.2.2.2.2.2.2.2.2.1 u1.2.2.2.2.2.2.2.2.2.2.2.2.1 u1.2.2.2.2.2.2.2.2.2.2.2.2.2.1 u1.2.2.2.2.2.2.2.2.2.2.2.2.2.2.1 u1.2.2.2.2.2.2.2.2.2.2.2.2.2.2.2.1 u1.2.2.2.2.2.2.2.2.2.2.2.2.2.2.2.2.1 u1.2.2.2.2.2.2.2.2.2.2.2.2.2.2.2.2.2.1 u1.2.2.2.2.2.2.2.2.2.2.2.2.2.2.2.2.2.2.1 u1.2.2.2.2.2.2.2.2.2.2.2.2.2.2.2.2.2.2.2.1 u1.2.2.2.2.2.2.2.2.2.2.2.2.2.2.2.2.2.2.2.2 f15)) [1, 2, 3, 4, 5, 6, 7, 8, 9, 10, 11, 12, 13, 14, 15, 0] rfl
    have hD := hD.sub (ws' := (ceL_park cyI cyB cyJ cyZ a0 a1 a2 a3 a4 a5 a6 a7 a8 a9 a10 a11 a12 a13 a14 a15 b0_kept b0_draftLaw b0_grid b0_pack b0_pieces b0_thinning b1_law b1_marks b7_steps b7_greatestAhead n15 g0_imageKept g1_drawSeed g7_way g7_other g7_lead g7_man g7_dog g7_gone g7_greatest g7_remembered f14 u1.1 u1.2.1 u1.2.2.1 u1.2.2.2.1 u1.2.2.2.2.1 u1.2.2.2.2.2.1 u1.2.2.2.2.2.2.1 u1.2.2.2.2.2.2.2.1 u1.2.2.2.2.2.2.2.2.1 u1.2.2.2.2.2.2.2.2.2.1 u1.2.2.2.2.2.2.2.2.2.2.1 u1.2.2.2.2.2.2.2.2.2.2.2.1 u1.2.2.2.2.2.2.2.2.2.2.2.2.1 u1.2.2.2.2.2.2.2.2.2.2.2.2.2.1 u1.2.2.2.2.2.2.2.2.2.2.2.2.2.2.1 u1.2.2.2.2.2.2.2.2.2.2.2.2.2.2.2.1 u1.2.2.2.2.2.2.2.2.2.2.2.2.2.2.2.2.1 u1.2.2.2.2.2.2.2.2.2.2.2.2.2.2.2.2.2.1 u1.2.2.2.2.2.2.2.2.2.2.2.2.2.2.2.2.2.2.1 u1.2.2.2.2.2.2.2.2.2.2.2.2.2.2.2.2.2.2.2.1 u1.2.2.2.2.2.2.2.2.2.2.2.2.2.2.2.2.2.2.2.2 f15)) [1, 2, 3, 4, 5, 6, 7, 8, 9, 10, 11, 12, 13, 14, 15, 0] (by decide) rfl
    obtain ⟨hw0, hw1, hE⟩ := hw
    rcases hE with rfl | rfl
    · have hw := hw0 rfl
      refine ec_catch (name := "java/lang/IllegalArgumentException") hown [] _ _ (htb.trans rfl) (fun z hz => by cases hz) (by decide) (by decide) (hts (.classLink RL 13 "java/lang/IllegalArgumentException") (List.mem_of_getElem? (i := 1) rfl)) (va_Nw.use rfl (hXs.1.2.2.2 (.castable "java/lang/IllegalArgumentException" "java/lang/IllegalArgumentException") (by decide +kernel))) hce hcv hcl ?_
      refine W.eq (g2 := F0 m 11 ls [.ref q9]) rfl ?_
      refine lv_astore_n (lv' := [(2, .ref q9), (0, .ref a0), (1, .ref a15)]) hx hb dL_park_11 rfl hl (by decide) rfl (fun ls hl => ?_)
      refine lv_iconst (v := 1) hx hb dL_park_12 (by decide) ?_
      rw [hQ]
      refine W.widen (k := 1) (n := 6) (by decide) (by decide) ?_
      exact W.iret (v := 1) hx hb hr (fun t ht hW => ⟨⟨1, (u1.1, u1.2.1, u1.2.2.1, u1.2.2.2.1, u1.2.2.2.2.1, u1.2.2.2.2.2.1, u1.2.2.2.2.2.2.1, u1.2.2.2.2.2.2.2.1, u1.2.2.2.2.2.2.2.2.1, u1.2.2.2.2.2.2.2.2.2.1, u1.2.2.2.2.2.2.2.2.2.2.1, u1.2.2.2.2.2.2.2.2.2.2.2.1, u1.2.2.2.2.2.2.2.2.2.2.2.2.1, u1.2.2.2.2.2.2.2.2.2.2.2.2.2.1, u1.2.2.2.2.2.2.2.2.2.2.2.2.2.2.1, u1.2.2.2.2.2.2.2.2.2.2.2.2.2.2.2.1, u1.2.2.2.2.2.2.2.2.2.2.2.2.2.2.2.2.1, u1.2.2.2.2.2.2.2.2.2.2.2.2.2.2.2.2.2.1, u1.2.2.2.2.2.2.2.2.2.2.2.2.2.2.2.2.2.2.1, u1.2.2.2.2.2.2.2.2.2.2.2.2.2.2.2.2.2.2.2.1, u1.2.2.2.2.2.2.2.2.2.2.2.2.2.2.2.2.2.2.2.2, f15), rfl, hw, by rw [ht]; exact hP, va_K.moved hW.alike hK, hD⟩, hS.F ht⟩) hS.2.2 dL_park_13
    · have hw := hw1 rfl
      refine ec_catch (name := "java/lang/UnsupportedOperationException") hown [_] _ _ (htb.trans rfl) (fun z hz => by rw [List.mem_singleton] at hz; subst hz; exact Or.inr ⟨by decide, "java/lang/IllegalArgumentException", (hts (.classLink RL 13 "java/lang/IllegalArgumentException") (List.mem_of_getElem? (i := 1) rfl)), hXs.2.2⟩) (by decide) (by decide) (hts (.classLink RL 15 "java/lang/UnsupportedOperationException") (List.mem_of_getElem? (i := 2) rfl)) (va_Nw.use rfl (hXs.1.2.2.2 (.castable "java/lang/UnsupportedOperationException" "java/lang/UnsupportedOperationException") (by decide +kernel))) hce hcv hcl ?_
      refine W.eq (g2 := F0 m 14 ls [.ref q9]) rfl ?_
      refine lv_astore_n (lv' := [(2, .ref q9), (0, .ref a0), (1, .ref a15)]) hx hb dL_park_14 rfl hl (by decide) rfl (fun ls hl => ?_)
      refine lv_iconst (v := 2) hx hb dL_park_15 (by decide) ?_
      rw [hQ]
      refine W.widen (k := 1) (n := 6) (by decide) (by decide) ?_
      exact W.iret (v := 2) hx hb hr (fun t ht hW => ⟨⟨2, (u1.1, u1.2.1, u1.2.2.1, u1.2.2.2.1, u1.2.2.2.2.1, u1.2.2.2.2.2.1, u1.2.2.2.2.2.2.1, u1.2.2.2.2.2.2.2.1, u1.2.2.2.2.2.2.2.2.1, u1.2.2.2.2.2.2.2.2.2.1, u1.2.2.2.2.2.2.2.2.2.2.1, u1.2.2.2.2.2.2.2.2.2.2.2.1, u1.2.2.2.2.2.2.2.2.2.2.2.2.1, u1.2.2.2.2.2.2.2.2.2.2.2.2.2.1, u1.2.2.2.2.2.2.2.2.2.2.2.2.2.2.1, u1.2.2.2.2.2.2.2.2.2.2.2.2.2.2.2.1, u1.2.2.2.2.2.2.2.2.2.2.2.2.2.2.2.2.1, u1.2.2.2.2.2.2.2.2.2.2.2.2.2.2.2.2.2.1, u1.2.2.2.2.2.2.2.2.2.2.2.2.2.2.2.2.2.2.1, u1.2.2.2.2.2.2.2.2.2.2.2.2.2.2.2.2.2.2.2.1, u1.2.2.2.2.2.2.2.2.2.2.2.2.2.2.2.2.2.2.2.2, f15), rfl, hw, by rw [ht]; exact hP, va_K.moved hW.alike hK, hD⟩, hS.F ht⟩) hS.2.2 dL_park_16
  -- returned
  obtain ⟨hP1, hK1, hD1⟩ := hB
  rw [ht] at hP1
  obtain ⟨hP, hD⟩ := va_join (wr := pickW (ceL_park cyI cyB cyJ cyZ a0 a1 a2 a3 a4 a5 a6 a7 a8 a9 a10 a11 a12 a13 a14 a15 b0_kept b0_draftLaw b0_grid b0_pack b0_pieces b0_thinning b1_law b1_marks b7_steps b7_greatestAhead n15 g0_imageKept g1_drawSeed g7_way g7_other g7_lead g7_man g7_dog g7_gone g7_greatest g7_remembered f14 g0_wrongByte g2_ways g2_wallCount g2_texts f3 f4 f5 f6 g7_underWay g8_ways g8_wallCount g8_texts f9 f10 f11 f12 g13_size g13_here g13_behind g13_digits g13_value f15) [15]) (w1 := (ceX10_park cyI cyB cyJ cyZ a0 a1 a2 a3 a4 a5 a6 a7 a8 a9 a10 a11 a12 a13 a14 b0_kept b0_draftLaw b0_grid b0_pack b0_pieces b0_thinning b1_law b1_marks b7_steps b7_greatestAhead g0_imageKept g1_drawSeed g7_way g7_other g7_lead g7_man g7_dog g7_gone g7_greatest g7_remembered f14 u1.1 u1.2.1 u1.2.2.1 u1.2.2.2.1 u1.2.2.2.2.1 u1.2.2.2.2.2.1 u1.2.2.2.2.2.2.1 u1.2.2.2.2.2.2.2.1 u1.2.2.2.2.2.2.2.2.1 u1.2.2.2.2.2.2.2.2.2.1 u1.2.2.2.2.2.2.2.2.2.2.1 u1.2.2.2.2.2.2.2.2.2.2.2.1 u1.2.2.2.2.2.2.2.2.2.2.2.2.1 u1.2.2.2.2.2.2.2.2.2.2.2.2.2.1 u1.2.2.2.2.2.2.2.2.2.2.2.2.2.2.1 u1.2.2.2.2.2.2.2.2.2.2.2.2.2.2.2.1 u1.2.2.2.2.2.2.2.2.2.2.2.2.2.2.2.2.1 u1.2.2.2.2.2.2.2.2.2.2.2.2.2.2.2.2.2.1 u1.2.2.2.2.2.2.2.2.2.2.2.2.2.2.2.2.2.2.1 u1.2.2.2.2.2.2.2.2.2.2.2.2.2.2.2.2.2.2.2.1 u1.2.2.2.2.2.2.2.2.2.2.2.2.2.2.2.2.2.2.2.2)) hP hD [0, 1, 2, 3, 4, 5, 6, 7, 8, 9, 10, 11, 12, 13, 14] [15] rfl rfl (by decide) (by decide) hk1 hFc hP1 hD1
  have hP := hP.sub (ws' := (ceL_park cyI cyB cyJ cyZ a0 a1 a2 a3 a4 a5 a6 a7 a8 a9 a10 a11 a12 a13 a14 a15 b0_kept b0_draftLaw b0_grid b0_pack b0_pieces b0_thinning b1_law b1_marks b7_steps b7_greatestAhead n15 g0_imageKept g1_drawSeed g7_way g7_other g7_lead g7_man g7_dog g7_gone g7_greatest g7_remembered f14 u1.1 u1.2.1 u1.2.2.1 u1.2.2.2.1 u1.2.2.2.2.1 u1.2.2.2.2.2.1 u1.2.2.2.2.2.2.1 u1.2.2.2.2.2.2.2.1 u1.2.2.2.2.2.2.2.2.1 u1.2.2.2.2.2.2.2.2.2.1 u1.2.2.2.2.2.2.2.2.2.2.1 u1.2.2.2.2.2.2.2.2.2.2.2.1 u1.2.2.2.2.2.2.2.2.2.2.2.2.1 u1.2.2.2.2.2.2.2.2.2.2.2.2.2.1 u1.2.2.2.2.2.2.2.2.2.2.2.2.2.2.1 u1.2.2.2.2.2.2.2.2.2.2.2.2.2.2.2.1 u1.2.2.2.2.2.2.2.2.2.2.2.2.2.2.2.2.1 u1.2.2.2.2.2.2.2.2.2.2.2.2.2.2.2.2.2.1 u1.2.2.2.2.2.2.2.2.2.2.2.2.2.2.2.2.2.2.1 u1.2.2.2.2.2.2.2.2.2.2.2.2.2.2.2.2.2.2.2.1 u1.2.2.2.2.2.2.2.2.2.2.2.2.2.2.2.2.2.2.2.2 f15)) [1, 2, 3, 4, 5, 6, 7, 8, 9, 10, 11, 12, 13, 14, 15, 0] rfl
  have hD := hD.sub (ws' := (ceL_park cyI cyB cyJ cyZ a0 a1 a2 a3 a4 a5 a6 a7 a8 a9 a10 a11 a12 a13 a14 a15 b0_kept b0_draftLaw b0_grid b0_pack b0_pieces b0_thinning b1_law b1_marks b7_steps b7_greatestAhead n15 g0_imageKept g1_drawSeed g7_way g7_other g7_lead g7_man g7_dog g7_gone g7_greatest g7_remembered f14 u1.1 u1.2.1 u1.2.2.1 u1.2.2.2.1 u1.2.2.2.2.1 u1.2.2.2.2.2.1 u1.2.2.2.2.2.2.1 u1.2.2.2.2.2.2.2.1 u1.2.2.2.2.2.2.2.2.1 u1.2.2.2.2.2.2.2.2.2.1 u1.2.2.2.2.2.2.2.2.2.2.1 u1.2.2.2.2.2.2.2.2.2.2.2.1 u1.2.2.2.2.2.2.2.2.2.2.2.2.1 u1.2.2.2.2.2.2.2.2.2.2.2.2.2.1 u1.2.2.2.2.2.2.2.2.2.2.2.2.2.2.1 u1.2.2.2.2.2.2.2.2.2.2.2.2.2.2.2.1 u1.2.2.2.2.2.2.2.2.2.2.2.2.2.2.2.2.1 u1.2.2.2.2.2.2.2.2.2.2.2.2.2.2.2.2.2.1 u1.2.2.2.2.2.2.2.2.2.2.2.2.2.2.2.2.2.2.1 u1.2.2.2.2.2.2.2.2.2.2.2.2.2.2.2.2.2.2.2.1 u1.2.2.2.2.2.2.2.2.2.2.2.2.2.2.2.2.2.2.2.2 f15)) [1, 2, 3, 4, 5, 6, 7, 8, 9, 10, 11, 12, 13, 14, 15, 0] (by decide) rfl
  generalize H1 = H at hP hS ⊢
  refine W.widen (k := 1) (n := 6) (by decide) (by decide) ?_
  refine lv_i2l hx hb dL_park_6 rfl ?_
  obtain ⟨hi, hw⟩ := hw
  refine va_last hx hb hK hP hD hS 15 2 rfl rfl hi dL_park_7 (fun H locs hP hD hS => ?_)
  have hP : va_P (dC, dI) vwCl (ceL_park cyI cyB cyJ cyZ a0 a1 a2 a3 a4 a5 a6 a7 a8 a9 a10 a11 a12 a13 a14 a15 b0_kept b0_draftLaw b0_grid b0_pack b0_pieces b0_thinning b1_law b1_marks b7_steps b7_greatestAhead n15 g0_imageKept g1_drawSeed g7_way g7_other g7_lead g7_man g7_dog g7_gone g7_greatest g7_remembered f14 u1.1 u1.2.1 u1.2.2.1 u1.2.2.2.1 u1.2.2.2.2.1 u1.2.2.2.2.2.1 u1.2.2.2.2.2.2.1 u1.2.2.2.2.2.2.2.1 u1.2.2.2.2.2.2.2.2.1 u1.2.2.2.2.2.2.2.2.2.1 u1.2.2.2.2.2.2.2.2.2.2.1 u1.2.2.2.2.2.2.2.2.2.2.2.1 u1.2.2.2.2.2.2.2.2.2.2.2.2.1 u1.2.2.2.2.2.2.2.2.2.2.2.2.2.1 u1.2.2.2.2.2.2.2.2.2.2.2.2.2.2.1 u1.2.2.2.2.2.2.2.2.2.2.2.2.2.2.2.1 u1.2.2.2.2.2.2.2.2.2.2.2.2.2.2.2.2.1 u1.2.2.2.2.2.2.2.2.2.2.2.2.2.2.2.2.2.1 u1.2.2.2.2.2.2.2.2.2.2.2.2.2.2.2.2.2.2.1 u1.2.2.2.2.2.2.2.2.2.2.2.2.2.2.2.2.2.2.2.1 u1.2.2.2.2.2.2.2.2.2.2.2.2.2.2.2.2.2.2.2.2 (vp_updL f15 (0 : Int32).toNatClampNeg (r2.toInt64))) H := hP
  have hD : va_D A (ceL_park cyI cyB cyJ cyZ a0 a1 a2 a3 a4 a5 a6 a7 a8 a9 a10 a11 a12 a13 a14 a15 b0_kept b0_draftLaw b0_grid b0_pack b0_pieces b0_thinning b1_law b1_marks b7_steps b7_greatestAhead n15 g0_imageKept g1_drawSeed g7_way g7_other g7_lead g7_man g7_dog g7_gone g7_greatest g7_remembered f14 u1.1 u1.2.1 u1.2.2.1 u1.2.2.2.1 u1.2.2.2.2.1 u1.2.2.2.2.2.1 u1.2.2.2.2.2.2.1 u1.2.2.2.2.2.2.2.1 u1.2.2.2.2.2.2.2.2.1 u1.2.2.2.2.2.2.2.2.2.1 u1.2.2.2.2.2.2.2.2.2.2.1 u1.2.2.2.2.2.2.2.2.2.2.2.1 u1.2.2.2.2.2.2.2.2.2.2.2.2.1 u1.2.2.2.2.2.2.2.2.2.2.2.2.2.1 u1.2.2.2.2.2.2.2.2.2.2.2.2.2.2.1 u1.2.2.2.2.2.2.2.2.2.2.2.2.2.2.2.1 u1.2.2.2.2.2.2.2.2.2.2.2.2.2.2.2.2.1 u1.2.2.2.2.2.2.2.2.2.2.2.2.2.2.2.2.2.1 u1.2.2.2.2.2.2.2.2.2.2.2.2.2.2.2.2.2.2.1 u1.2.2.2.2.2.2.2.2.2.2.2.2.2.2.2.2.2.2.2.1 u1.2.2.2.2.2.2.2.2.2.2.2.2.2.2.2.2.2.2.2.2 (vp_updL f15 (0 : Int32).toNatClampNeg (r2.toInt64))) := hD
  refine lv_goto (tgt := 17) hx hb dL_park_8 (by decide) ?_
  refine lv_iconst (v := 0) hx hb dL_park_17 (by decide) ?_
  rw [hQ]
  refine W.widen (k := 1) (n := 6) (by decide) (by decide) ?_
  exact W.iret (v := 0) hx hb hr (fun t ht hW => ⟨⟨0, (u1.1, u1.2.1, u1.2.2.1, u1.2.2.2.1, u1.2.2.2.2.1, u1.2.2.2.2.2.1, u1.2.2.2.2.2.2.1, u1.2.2.2.2.2.2.2.1, u1.2.2.2.2.2.2.2.2.1, u1.2.2.2.2.2.2.2.2.2.1, u1.2.2.2.2.2.2.2.2.2.2.1, u1.2.2.2.2.2.2.2.2.2.2.2.1, u1.2.2.2.2.2.2.2.2.2.2.2.2.1, u1.2.2.2.2.2.2.2.2.2.2.2.2.2.1, u1.2.2.2.2.2.2.2.2.2.2.2.2.2.2.1, u1.2.2.2.2.2.2.2.2.2.2.2.2.2.2.2.1, u1.2.2.2.2.2.2.2.2.2.2.2.2.2.2.2.2.1, u1.2.2.2.2.2.2.2.2.2.2.2.2.2.2.2.2.2.1, u1.2.2.2.2.2.2.2.2.2.2.2.2.2.2.2.2.2.2.1, u1.2.2.2.2.2.2.2.2.2.2.2.2.2.2.2.2.2.2.2.1, u1.2.2.2.2.2.2.2.2.2.2.2.2.2.2.2.2.2.2.2.2, (vp_updL f15 (0 : Int32).toNatClampNeg (r2.toInt64))), rfl, hw, by rw [ht]; exact hP, va_K.moved hW.alike hK, hD⟩, hS.F ht⟩) hS.2.2 dL_park_18
/-! LeadParkLaw.law (LLeadPark;[J)I -/
abbrev ceL_law (cyI cyB cyJ cyZ : ClassId) (a0 a1 a2 a3 a4 a5 a6 a7 a8 a9 b0_kept b0_draftGround b0_grid b0_pack b0_pieces b0_thinning b1_seen b5_ground b5_marks b6_seen b8_steps b8_greatestAhead n9 : Nat) (g0_imageKept : Int32) (g5_drawSeed : Int32) (g8_way : Int32) (g8_other : Int32) (g8_lead : Int32) (g8_man : Int32) (g8_dog : Int32) (g8_gone : Int32) (g8_greatest : Int32) (g8_remembered : Int32) (f4 : Nat → Int32) (g0_wrongByte : Int32) (g1_size : Int32) (g1_lines : Int32) (f2 : Nat → Int32) (g3_size : Int32) (g3_here : Int32) (g3_behind : Int32) (g3_digits : Int32) (g3_value : Int32) (g6_size : Int32) (g6_lines : Int32) (f7 : Nat → Int32) (g8_underWay : Int32) (f9 : Nat → Int64) : va_W := [(a0, .inr (10, [.ref a3, .ref a5, .ref b0_kept, .ref b0_draftGround, .ref a1, .ref b0_grid, .ref b0_pack, .ref b0_pieces, .ref b0_thinning, .int g0_imageKept, .int g0_wrongByte])), (a1, .inr (2, [.ref a2, .ref b1_seen, .int g1_size, .int g1_lines])), (a2, .inl (cyI, 400, .inl f2)), (a3, .inr (8, [.ref a4, .int g3_size, .int g3_here, .int g3_behind, .int g3_digits, .int g3_value])), (a4, .inl (cyB, 400, .inl f4)), (a5, .inr (6, [.ref b5_ground, .ref a6, .ref b5_marks, .ref a8, .int g5_drawSeed])), (a6, .inr (2, [.ref a7, .ref b6_seen, .int g6_size, .int g6_lines])), (a7, .inl (cyI, 400, .inl f7)), (a8, .inr (7, [.int g8_underWay, .int g8_way, .int g8_other, .int g8_lead, .int g8_man, .int g8_dog, .int g8_gone, .int g8_greatest, .int g8_remembered, .ref b8_steps, .ref b8_greatestAhead])), (a9, .inl (cyJ, n9, .inr (.inl f9)))]

abbrev rmL_law : Room := { frames := 63, cells := 1, slots := 6, locals := 4068 }
def wpL_law (n9 : Nat) (post : Int32 → (Int32 × Int32 × Int32 × (Nat → Int32) × Int32 × Int32 × Int32 × Int32 × Int32 × Int32 × Int32 × (Nat → Int32) × Int32 × (Nat → Int64)) → Prop) (f4 : Nat → Int32) (g0_wrongByte : Int32) (g1_size : Int32) (g1_lines : Int32) (f2 : Nat → Int32) (g3_size : Int32) (g3_here : Int32) (g3_behind : Int32) (g3_digits : Int32) (g3_value : Int32) (g6_size : Int32) (g6_lines : Int32) (f7 : Nat → Int32) (g8_underWay : Int32) (f9 : Nat → Int64) : Prop :=
  wpX10_law (fun (r2 : Int32) (u1 : Int32 × Int32 × Int32 × (Nat → Int32) × Int32 × Int32 × Int32 × Int32 × Int32 × Int32 × Int32 × (Nat → Int32) × Int32) =>
   vp_in 0 n9 ∧
   post 0 (u1.1, u1.2.1, u1.2.2.1, u1.2.2.2.1, u1.2.2.2.2.1, u1.2.2.2.2.2.1, u1.2.2.2.2.2.2.1, u1.2.2.2.2.2.2.2.1, u1.2.2.2.2.2.2.2.2.1, u1.2.2.2.2.2.2.2.2.2.1, u1.2.2.2.2.2.2.2.2.2.2.1, u1.2.2.2.2.2.2.2.2.2.2.2.1, u1.2.2.2.2.2.2.2.2.2.2.2.2, (vp_updL f9 (0 : Int32).toNatClampNeg (r2.toInt64)))) (fun (E : String) (u1 : Int32 × Int32 × Int32 × (Nat → Int32) × Int32 × Int32 × Int32 × Int32 × Int32 × Int32 × Int32 × (Nat → Int32) × Int32) =>
   (E = "java/lang/IllegalArgumentException" →
    post 1 (u1.1, u1.2.1, u1.2.2.1, u1.2.2.2.1, u1.2.2.2.2.1, u1.2.2.2.2.2.1, u1.2.2.2.2.2.2.1, u1.2.2.2.2.2.2.2.1, u1.2.2.2.2.2.2.2.2.1, u1.2.2.2.2.2.2.2.2.2.1, u1.2.2.2.2.2.2.2.2.2.2.1, u1.2.2.2.2.2.2.2.2.2.2.2.1, u1.2.2.2.2.2.2.2.2.2.2.2.2, f9)) ∧ (E = "java/lang/IllegalArgumentException")) f4 g0_wrongByte g1_size g1_lines f2 g3_size g3_here g3_behind g3_digits g3_value g6_size g6_lines f7 g8_underWay
set_option maxRecDepth 100000 in
set_option maxHeartbeats 4000000 in
theorem ctL_law (l : Launch) (hl0 : l.stackTraces = false) (dC : Nat → ClassId) (dI : Nat → Nat → Nat) (cyI cyB cyJ cyZ : ClassId) (sz : Nat) (a0 a1 a2 a3 a4 a5 a6 a7 a8 a9 b0_kept b0_draftGround b0_grid b0_pack b0_pieces b0_thinning b1_seen b5_ground b5_marks b6_seen b8_steps b8_greatestAhead n9 : Nat) (g0_imageKept : Int32) (g5_drawSeed : Int32) (g8_way : Int32) (g8_other : Int32) (g8_lead : Int32) (g8_man : Int32) (g8_dog : Int32) (g8_gone : Int32) (g8_greatest : Int32) (g8_remembered : Int32) (f4 : Nat → Int32) (g0_wrongByte : Int32) (g1_size : Int32) (g1_lines : Int32) (f2 : Nat → Int32) (g3_size : Int32) (g3_here : Int32) (g3_behind : Int32) (g3_digits : Int32) (g3_value : Int32) (g6_size : Int32) (g6_lines : Int32) (f7 : Nat → Int32) (g8_underWay : Int32) (f9 : Nat → Int64) (post : Int32 → (Int32 × Int32 × Int32 × (Nat → Int32) × Int32 × Int32 × Int32 × Int32 × Int32 × Int32 × Int32 × (Nat → Int32) × Int32 × (Nat → Int64)) → Prop) (adS : Nat → Nat) (hw : wpL_law n9 post f4 g0_wrongByte g1_size g1_lines f2 g3_size g3_here g3_behind g3_digits g3_value g6_size g6_lines f7 g8_underWay f9 ) : Met l yL_law wsL_law rmL_law (va_Pc [.ref a0, .ref a9] (wPreX dC dI cyI cyB cyJ cyZ sz (ceL_law cyI cyB cyJ cyZ a0 a1 a2 a3 a4 a5 a6 a7 a8 a9 b0_kept b0_draftGround b0_grid b0_pack b0_pieces b0_thinning b1_seen b5_ground b5_marks b6_seen b8_steps b8_greatestAhead n9 g0_imageKept g5_drawSeed g8_way g8_other g8_lead g8_man g8_dog g8_gone g8_greatest g8_remembered f4 g0_wrongByte g1_size g1_lines f2 g3_size g3_here g3_behind g3_digits g3_value g6_size g6_lines f7 g8_underWay f9) (txL adS))) (va_Qi post (fun u : Int32 × Int32 × Int32 × (Nat → Int32) × Int32 × Int32 × Int32 × Int32 × Int32 × Int32 × Int32 × (Nat → Int32) × Int32 × (Nat → Int64) => wAt dC dI cyI cyB cyJ cyZ (va_A (ceL_law cyI cyB cyJ cyZ a0 a1 a2 a3 a4 a5 a6 a7 a8 a9 b0_kept b0_draftGround b0_grid b0_pack b0_pieces b0_thinning b1_seen b5_ground b5_marks b6_seen b8_steps b8_greatestAhead n9 g0_imageKept g5_drawSeed g8_way g8_other g8_lead g8_man g8_dog g8_gone g8_greatest g8_remembered f4 g0_wrongByte g1_size g1_lines f2 g3_size g3_here g3_behind g3_digits g3_value g6_size g6_lines f7 g8_underWay f9) sz) (ceL_law cyI cyB cyJ cyZ a0 a1 a2 a3 a4 a5 a6 a7 a8 a9 b0_kept b0_draftGround b0_grid b0_pack b0_pieces b0_thinning b1_seen b5_ground b5_marks b6_seen b8_steps b8_greatestAhead n9 g0_imageKept g5_drawSeed g8_way g8_other g8_lead g8_man g8_dog g8_gone g8_greatest g8_remembered f4 u.1 u.2.1 u.2.2.1 u.2.2.2.1 u.2.2.2.2.1 u.2.2.2.2.2.1 u.2.2.2.2.2.2.1 u.2.2.2.2.2.2.2.1 u.2.2.2.2.2.2.2.2.1 u.2.2.2.2.2.2.2.2.2.1 u.2.2.2.2.2.2.2.2.2.2.1 u.2.2.2.2.2.2.2.2.2.2.2.1 u.2.2.2.2.2.2.2.2.2.2.2.2.1 u.2.2.2.2.2.2.2.2.2.2.2.2.2)) (va_A (ceL_law cyI cyB cyJ cyZ a0 a1 a2 a3 a4 a5 a6 a7 a8 a9 b0_kept b0_draftGround b0_grid b0_pack b0_pieces b0_thinning b1_seen b5_ground b5_marks b6_seen b8_steps b8_greatestAhead n9 g0_imageKept g5_drawSeed g8_way g8_other g8_lead g8_man g8_dog g8_gone g8_greatest g8_remembered f4 g0_wrongByte g1_size g1_lines f2 g3_size g3_here g3_behind g3_digits g3_value g6_size g6_lines f7 g8_underWay f9) sz)) 1 6 (va_A (ceL_law cyI cyB cyJ cyZ a0 a1 a2 a3 a4 a5 a6 a7 a8 a9 b0_kept b0_draftGround b0_grid b0_pack b0_pieces b0_thinning b1_seen b5_ground b5_marks b6_seen b8_steps b8_greatestAhead n9 g0_imageKept g5_drawSeed g8_way g8_other g8_lead g8_man g8_dog g8_gone g8_greatest g8_remembered f4 g0_wrongByte g1_size g1_lines f2 g3_size g3_here g3_behind g3_digits g3_value g6_size g6_lines f7 g8_underWay f9) sz) := by
  refine mt_ofWH (cc := cL_law) (maxL := 3) (ret := (some .int)) (by decide) rfl ?_
  intro p e s m args below meth c s₁ B hml hv
  obtain ⟨rfl, ⟨hsz, hP, hK, hD0, hN⟩, hXs⟩ := hv
  have hx := B.exec
  have hb := B.bytes
  have hr := B.returns
  have hts := atoms_spec (ws := wsL_law) B.pre
  have hown : s.vm.findClass RL = some m.cls := findClass_of_methodNamed B.named
  have hlocks := B.notSynchronized
  have htb := vx_table (x := yL_law) B (hts _ (List.mem_of_getElem? (i := 0) rfl))
  subst hsz
  have hD := hD0.self (sz := s.heap.size)
  generalize hAe : va_A (ceL_law cyI cyB cyJ cyZ a0 a1 a2 a3 a4 a5 a6 a7 a8 a9 b0_kept b0_draftGround b0_grid b0_pack b0_pieces b0_thinning b1_seen b5_ground b5_marks b6_seen b8_steps b8_greatestAhead n9 g0_imageKept g5_drawSeed g8_way g8_other g8_lead g8_man g8_dog g8_gone g8_greatest g8_remembered f4 g0_wrongByte g1_size g1_lines f2 g3_size g3_here g3_behind g3_digits g3_value g6_size g6_lines f7 g8_underWay f9) s.heap.size = A at hD hXs ⊢
  have hA : ∀ q : Nat, s.heap.size ≤ q → A q := fun q h => by rw [← hAe]; exact Or.inr h
  have hS : va_S A s.heap s.heap [] := va_S.rf
  have C0 : cxM p s m meth c _ wsL_law RL cL_law 3 (some .int) := ⟨hx, hb, hr, hml, hown, hts, hlocks⟩
  have hl := lv_entry ([.ref a0, .ref a9]) (n := 3) (Nat.le_of_ble_eq_true rfl)
  rw [lg_entry_eq]
  generalize (lg_sl ([.ref a0, .ref a9]) ++ List.replicate (3 - (lg_sl ([.ref a0, .ref a9])).length) Slot.unset).toArray = ls at hl ⊢
  have hl : lv_has ls 3 [(0, .ref a0), (1, .ref a9)] := hl
  show W p l e rmL_law s m _ below meth c _ _ _ _ _ _
  refine wq (fun Q hQ => ?_)
  refine lv_aload_n hx hb dL_law_0 rfl (lv_at hl 1 rfl) ?_
  refine lv_iconst (v := 0) hx hb dL_law_1 (by decide) ?_
  refine lv_aload_n hx hb dL_law_2 rfl (lv_at hl 0 rfl) ?_
  have hPc := hP.sub (ws' := (ceX10_law cyI cyB cyJ cyZ a0 a1 a2 a3 a4 a5 a6 a7 a8 b0_kept b0_draftGround b0_grid b0_pack b0_pieces b0_thinning b1_seen b5_ground b5_marks b6_seen b8_steps b8_greatestAhead g0_imageKept g5_drawSeed g8_way g8_other g8_lead g8_man g8_dog g8_gone g8_greatest g8_remembered f4 g0_wrongByte g1_size g1_lines f2 g3_size g3_here g3_behind g3_digits g3_value g6_size g6_lines f7 g8_underWay)) [0, 1, 2, 3, 4, 5, 6, 7, 8] rfl
  have hDc := hD.sub (ws' := (ceX10_law cyI cyB cyJ cyZ a0 a1 a2 a3 a4 a5 a6 a7 a8 b0_kept b0_draftGround b0_grid b0_pack b0_pieces b0_thinning b1_seen b5_ground b5_marks b6_seen b8_steps b8_greatestAhead g0_imageKept g5_drawSeed g8_way g8_other g8_lead g8_man g8_dog g8_gone g8_greatest g8_remembered f4 g0_wrongByte g1_size g1_lines f2 g3_size g3_here g3_behind g3_digits g3_value g6_size g6_lines f7 g8_underWay)) [0, 1, 2, 3, 4, 5, 6, 7, 8] (by decide) rfl
  have hFc := va_free (wc := (ceX10_law cyI cyB cyJ cyZ a0 a1 a2 a3 a4 a5 a6 a7 a8 b0_kept b0_draftGround b0_grid b0_pack b0_pieces b0_thinning b1_seen b5_ground b5_marks b6_seen b8_steps b8_greatestAhead g0_imageKept g5_drawSeed g8_way g8_other g8_lead g8_man g8_dog g8_gone g8_greatest g8_remembered f4 g0_wrongByte g1_size g1_lines f2 g3_size g3_here g3_behind g3_digits g3_value g6_size g6_lines f7 g8_underWay)) hD hS hA [0, 1, 2, 3, 4, 5, 6, 7, 8] rfl
  refine vx_calli (vx_runV (As := []) (rest := [.int 0, .ref a9]) ⟨hx, hb, hml, hown, hts⟩ (ctX10_law l hl0 dC dI cyI cyB cyJ cyZ _ a0 a1 a2 a3 a4 a5 a6 a7 a8 b0_kept b0_draftGround b0_grid b0_pack b0_pieces b0_thinning b1_seen b5_ground b5_marks b6_seen b8_steps b8_greatestAhead g0_imageKept g5_drawSeed g8_way g8_other g8_lead g8_man g8_dog g8_gone g8_greatest g8_remembered f4 g0_wrongByte g1_size g1_lines f2 g3_size g3_here g3_behind g3_digits g3_value g6_size g6_lines f7 g8_underWay _ _ adS hw) (cwV 0 hts gL_law_X10_law rfl rfl rfl (by decide +kernel) ⟨Nat.le_of_ble_eq_true rfl, Nat.le_of_ble_eq_true rfl⟩) ⟨wPreX_blind (xOk_txT adS), va_recv hK hPc (ci := 10) (q0 := 0) rfl rfl, fun U hU hW => wPreX_of (xOk_txT adS) hPc hK hDc hN hXs.1 hS hFc hU hW⟩ rfl rfl hl.1 rfl (lv_room (Nat.le_of_ble_eq_true rfl)) dL_law_3 ⟨(by decide), (by decide)⟩) hS (fun q _ h => hFc q h) hFc (fun q _ h => hFc q h) (fun E ce q9 u1 t H1 locs ht hvm hpx hBX hz1 hk1 hS hce hcv hcl => ?_) (fun r2 u1 t H1 locs ht hvm hw hB hz1 hk1 hS => ?_)
  · obtain ⟨hw, hP1, hK1, hD1⟩ := hBX
    rw [ht] at hP1
    obtain ⟨hP, hD⟩ := va_join (wr := pickW (ceL_law cyI cyB cyJ cyZ a0 a1 a2 a3 a4 a5 a6 a7 a8 a9 b0_kept b0_draftGround b0_grid b0_pack b0_pieces b0_thinning b1_seen b5_ground b5_marks b6_seen b8_steps b8_greatestAhead n9 g0_imageKept g5_drawSeed g8_way g8_other g8_lead g8_man g8_dog g8_gone g8_greatest g8_remembered f4 g0_wrongByte g1_size g1_lines f2 g3_size g3_here g3_behind g3_digits g3_value g6_size g6_lines f7 g8_underWay f9) [9]) (w1 := (ceX10_law cyI cyB cyJ cyZ a0 a1 a2 a3 a4 a5 a6 a7 a8 b0_kept b0_draftGround b0_grid b0_pack b0_pieces b0_thinning b1_seen b5_ground b5_marks b6_seen b8_steps b8_greatestAhead g0_imageKept g5_drawSeed g8_way g8_other g8_lead g8_man g8_dog g8_gone g8_greatest g8_remembered f4 u1.1 u1.2.1 u1.2.2.1 u1.2.2.2.1 u1.2.2.2.2.1 u1.2.2.2.2.2.1 u1.2.2.2.2.2.2.1 u1.2.2.2.2.2.2.2.1 u1.2.2.2.2.2.2.2.2.1 u1.2.2.2.2.2.2.2.2.2.1 u1.2.2.2.2.2.2.2.2.2.2.1 u1.2.2.2.2.2.2.2.2.2.2.2.1 u1.2.2.2.2.2.2.2.2.2.2.2.2)) hP hD [0, 1, 2, 3, 4, 5, 6, 7, 8] [9] rfl rfl (by decide) (by decide) hk1 hFc hP1 hD1
    have hP := hP.sub (ws' := (ceL_law cyI cyB cyJ cyZ a0 a1 a2 a3 a4 a5 a6 a7 a8 a9 b0_kept b0_draftGround b0_grid b0_pack b0_pieces b0_thinning b1_seen b5_ground b5_marks b6_seen b8_steps b8_greatestAhead n9 g0_imageKept g5_drawSeed g8_way g8_other g8_lead g8_man g8_dog g8_gone g8_greatest g8_remembered f4 u1.1 u1.2.1 u1.2.2.1 u1.2.2.2.1 u1.2.2.2.2.1 u1.2.2.2.2.2.1 u1.2.2.2.2.2.2.1 u1.2.2.2.2.2.2.2.1 u1.2.2.2.2.2.2.2.2.1 u1.2.2.2.2.2.2.2.2.2.1 u1.2.2.2.2.2.2.2.2.2.2.1 u1.2.2.2.2.2.2.2.2.2.2.2.1 u1.2.2.2.2.2.2.2.2.2.2.2.2 f9)) [1, 2, 3, 4, 5, 6, 7, 8, 9, 0] rfl
    have hD := hD.sub (ws' := (ceL_law cyI cyB cyJ cyZ a0 a1 a2 a3 a4 a5 a6 a7 a8 a9 b0_kept b0_draftGround b0_grid b0_pack b0_pieces b0_thinning b1_seen b5_ground b5_marks b6_seen b8_steps b8_greatestAhead n9 g0_imageKept g5_drawSeed g8_way g8_other g8_lead g8_man g8_dog g8_gone g8_greatest g8_remembered f4 u1.1 u1.2.1 u1.2.2.1 u1.2.2.2.1 u1.2.2.2.2.1 u1.2.2.2.2.2.1 u1.2.2.2.2.2.2.1 u1.2.2.2.2.2.2.2.1 u1.2.2.2.2.2.2.2.2.1 u1.2.2.2.2.2.2.2.2.2.1 u1.2.2.2.2.2.2.2.2.2.2.1 u1.2.2.2.2.2.2.2.2.2.2.2.1 u1.2.2.2.2.2.2.2.2.2.2.2.2 f9)) [1, 2, 3, 4, 5, 6, 7, 8, 9, 0] (by decide) rfl
    obtain ⟨hw0, hE⟩ := hw
    subst hE
    have hw := hw0 rfl
    refine ec_catch (name := "java/lang/IllegalArgumentException") hown [] _ _ (htb.trans rfl) (fun z hz => by cases hz) (by decide) (by decide) (hts (.classLink RL 13 "java/lang/IllegalArgumentException") (List.mem_of_getElem? (i := 1) rfl)) (va_Nw.use rfl (hXs.1.2.2.2 (.castable "java/lang/IllegalArgumentException" "java/lang/IllegalArgumentException") (by decide +kernel))) hce hcv hcl ?_
    refine W.eq (g2 := F0 m 11 ls [.ref q9]) rfl ?_
    refine lv_astore_n (lv' := [(2, .ref q9), (0, .ref a0), (1, .ref a9)]) hx hb dL_law_11 rfl hl (by decide) rfl (fun ls hl => ?_)
    refine lv_iconst (v := 1) hx hb dL_law_12 (by decide) ?_
    rw [hQ]
    refine W.widen (k := 1) (n := 6) (by decide) (by decide) ?_
    exact W.iret (v := 1) hx hb hr (fun t ht hW => ⟨⟨1, (u1.1, u1.2.1, u1.2.2.1, u1.2.2.2.1, u1.2.2.2.2.1, u1.2.2.2.2.2.1, u1.2.2.2.2.2.2.1, u1.2.2.2.2.2.2.2.1, u1.2.2.2.2.2.2.2.2.1, u1.2.2.2.2.2.2.2.2.2.1, u1.2.2.2.2.2.2.2.2.2.2.1, u1.2.2.2.2.2.2.2.2.2.2.2.1, u1.2.2.2.2.2.2.2.2.2.2.2.2, f9), rfl, hw, by rw [ht]; exact hP, va_K.moved hW.alike hK, hD⟩, hS.F ht⟩) hS.2.2 dL_law_13
  -- returned
  obtain ⟨hP1, hK1, hD1⟩ := hB
  rw [ht] at hP1
  obtain ⟨hP, hD⟩ := va_join (wr := pickW (ceL_law cyI cyB cyJ cyZ a0 a1 a2 a3 a4 a5 a6 a7 a8 a9 b0_kept b0_draftGround b0_grid b0_pack b0_pieces b0_thinning b1_seen b5_ground b5_marks b6_seen b8_steps b8_greatestAhead n9 g0_imageKept g5_drawSeed g8_way g8_other g8_lead g8_man g8_dog g8_gone g8_greatest g8_remembered f4 g0_wrongByte g1_size g1_lines f2 g3_size g3_here g3_behind g3_digits g3_value g6_size g6_lines f7 g8_underWay f9) [9]) (w1 := (ceX10_law cyI cyB cyJ cyZ a0 a1 a2 a3 a4 a5 a6 a7 a8 b0_kept b0_draftGround b0_grid b0_pack b0_pieces b0_thinning b1_seen b5_ground b5_marks b6_seen b8_steps b8_greatestAhead g0_imageKept g5_drawSeed g8_way g8_other g8_lead g8_man g8_dog g8_gone g8_greatest g8_remembered f4 u1.1 u1.2.1 u1.2.2.1 u1.2.2.2.1 u1.2.2.2.2.1 u1.2.2.2.2.2.1 u1.2.2.2.2.2.2.1 u1.2.2.2.2.2.2.2.1 u1.2.2.2.2.2.2.2.2.1 u1.2.2.2.2.2.2.2.2.2.1 u1.2.2.2.2.2.2.2.2.2.2.1 u1.2.2.2.2.2.2.2.2.2.2.2.1 u1.2.2.2.2.2.2.2.2.2.2.2.2)) hP hD [0, 1, 2, 3, 4, 5, 6, 7, 8] [9] rfl rfl (by decide) (by decide) hk1 hFc hP1 hD1
  have hP := hP.sub (ws' := (ceL_law cyI cyB cyJ cyZ a0 a1 a2 a3 a4 a5 a6 a7 a8 a9 b0_kept b0_draftGround b0_grid b0_pack b0_pieces b0_thinning b1_seen b5_ground b5_marks b6_seen b8_steps b8_greatestAhead n9 g0_imageKept g5_drawSeed g8_way g8_other g8_lead g8_man g8_dog g8_gone g8_greatest g8_remembered f4 u1.1 u1.2.1 u1.2.2.1 u1.2.2.2.1 u1.2.2.2.2.1 u1.2.2.2.2.2.1 u1.2.2.2.2.2.2.1 u1.2.2.2.2.2.2.2.1 u1.2.2.2.2.2.2.2.2.1 u1.2.2.2.2.2.2.2.2.2.1 u1.2.2.2.2.2.2.2.2.2.2.1 u1.2.2.2.2.2.2.2.2.2.2.2.1 u1.2.2.2.2.2.2.2.2.2.2.2.2 f9)) [1, 2, 3, 4, 5, 6, 7, 8, 9, 0] rfl
  have hD := hD.sub (ws' := (ceL_law cyI cyB cyJ cyZ a0 a1 a2 a3 a4 a5 a6 a7 a8 a9 b0_kept b0_draftGround b0_grid b0_pack b0_pieces b0_thinning b1_seen b5_ground b5_marks b6_seen b8_steps b8_greatestAhead n9 g0_imageKept g5_drawSeed g8_way g8_other g8_lead g8_man g8_dog g8_gone g8_greatest g8_remembered f4 u1.1 u1.2.1 u1.2.2.1 u1.2.2.2.1 u1.2.2.2.2.1 u1.2.2.2.2.2.1 u1.2.2.2.2.2.2.1 u1.2.2.2.2.2.2.2.1 u1.2.2.2.2.2.2.2.2.1 u1.2.2.2.2.2.2.2.2.2.1 u1.2.2.2.2.2.2.2.2.2.2.1 u1.2.2.2.2.2.2.2.2.2.2.2.1 u1.2.2.2.2.2.2.2.2.2.2.2.2 f9)) [1, 2, 3, 4, 5, 6, 7, 8, 9, 0] (by decide) rfl
  generalize H1 = H at hP hS ⊢
  refine W.widen (k := 1) (n := 6) (by decide) (by decide) ?_
  refine lv_i2l hx hb dL_law_6 rfl ?_
  obtain ⟨hi, hw⟩ := hw
  refine va_last hx hb hK hP hD hS 9 2 rfl rfl hi dL_law_7 (fun H locs hP hD hS => ?_)
  have hP : va_P (dC, dI) vwCl (ceL_law cyI cyB cyJ cyZ a0 a1 a2 a3 a4 a5 a6 a7 a8 a9 b0_kept b0_draftGround b0_grid b0_pack b0_pieces b0_thinning b1_seen b5_ground b5_marks b6_seen b8_steps b8_greatestAhead n9 g0_imageKept g5_drawSeed g8_way g8_other g8_lead g8_man g8_dog g8_gone g8_greatest g8_remembered f4 u1.1 u1.2.1 u1.2.2.1 u1.2.2.2.1 u1.2.2.2.2.1 u1.2.2.2.2.2.1 u1.2.2.2.2.2.2.1 u1.2.2.2.2.2.2.2.1 u1.2.2.2.2.2.2.2.2.1 u1.2.2.2.2.2.2.2.2.2.1 u1.2.2.2.2.2.2.2.2.2.2.1 u1.2.2.2.2.2.2.2.2.2.2.2.1 u1.2.2.2.2.2.2.2.2.2.2.2.2 (vp_updL f9 (0 : Int32).toNatClampNeg (r2.toInt64))) H := hP
  have hD : va_D A (ceL_law cyI cyB cyJ cyZ a0 a1 a2 a3 a4 a5 a6 a7 a8 a9 b0_kept b0_draftGround b0_grid b0_pack b0_pieces b0_thinning b1_seen b5_ground b5_marks b6_seen b8_steps b8_greatestAhead n9 g0_imageKept g5_drawSeed g8_way g8_other g8_lead g8_man g8_dog g8_gone g8_greatest g8_remembered f4 u1.1 u1.2.1 u1.2.2.1 u1.2.2.2.1 u1.2.2.2.2.1 u1.2.2.2.2.2.1 u1.2.2.2.2.2.2.1 u1.2.2.2.2.2.2.2.1 u1.2.2.2.2.2.2.2.2.1 u1.2.2.2.2.2.2.2.2.2.1 u1.2.2.2.2.2.2.2.2.2.2.1 u1.2.2.2.2.2.2.2.2.2.2.2.1 u1.2.2.2.2.2.2.2.2.2.2.2.2 (vp_updL f9 (0 : Int32).toNatClampNeg (r2.toInt64))) := hD
  refine lv_goto (tgt := 14) hx hb dL_law_8 (by decide) ?_
  refine lv_iconst (v := 0) hx hb dL_law_14 (by decide) ?_
  rw [hQ]
  refine W.widen (k := 1) (n := 6) (by decide) (by decide) ?_
  exact W.iret (v := 0) hx hb hr (fun t ht hW => ⟨⟨0, (u1.1, u1.2.1, u1.2.2.1, u1.2.2.2.1, u1.2.2.2.2.1, u1.2.2.2.2.2.1, u1.2.2.2.2.2.2.1, u1.2.2.2.2.2.2.2.1, u1.2.2.2.2.2.2.2.2.1, u1.2.2.2.2.2.2.2.2.2.1, u1.2.2.2.2.2.2.2.2.2.2.1, u1.2.2.2.2.2.2.2.2.2.2.2.1, u1.2.2.2.2.2.2.2.2.2.2.2.2, (vp_updL f9 (0 : Int32).toNatClampNeg (r2.toInt64))), rfl, hw, by rw [ht]; exact hP, va_K.moved hW.alike hK, hD⟩, hS.F ht⟩) hS.2.2 dL_law_15
/-! LeadParkLaw.corner (LLeadPark;IIZ[J)I -/
abbrev ceL_corner (cyI cyB cyJ cyZ : ClassId) (a0 a1 a2 a3 a4 a5 a6 b0_tape b0_kept b0_draftGround b0_draftLaw b0_grid b0_pack b0_pieces b0_thinning b1_law b1_marks b1_stroll b2_walls n6 : Nat) (g0_imageKept : Int32) (g0_wrongByte : Int32) (g1_drawSeed : Int32) (g2_wallCount : Int32) (g2_texts : Int32) (g2_ways : Int32) (f3 : Nat → Int32) (f4 : Nat → Int32) (f5 : Nat → Int32) (f6 : Nat → Int64) : va_W := [(a0, .inr (10, [.ref b0_tape, .ref a1, .ref b0_kept, .ref b0_draftGround, .ref b0_draftLaw, .ref b0_grid, .ref b0_pack, .ref b0_pieces, .ref b0_thinning, .int g0_imageKept, .int g0_wrongByte])), (a1, .inr (6, [.ref a2, .ref b1_law, .ref b1_marks, .ref b1_stroll, .int g1_drawSeed])), (a2, .inr (1, [.ref a5, .ref a4, .ref a3, .ref b2_walls, .int g2_ways, .int g2_wallCount, .int g2_texts])), (a3, .inl (cyI, 12, .inl f3)), (a4, .inl (cyI, 360, .inl f4)), (a5, .inl (cyI, 360, .inl f5)), (a6, .inl (cyJ, n6, .inr (.inl f6)))]

abbrev rmL_corner : Room := { frames := 8, cells := 1, slots := 6, locals := 145 }
def wpL_corner (n6 : Nat) (post : Int32 → ((Nat → Int64)) → Prop) (g2_ways : Int32) (f3 : Nat → Int32) (f4 : Nat → Int32) (f5 : Nat → Int32) (f6 : Nat → Int64) (p1 : Int32) (p2 : Int32) (p3 : Int32) : Prop :=
  wpX10_corner (fun (r2 : Int32) (u1 : Unit) =>
   vp_in 0 n6 ∧
   post 0 ((vp_updL f6 (0 : Int32).toNatClampNeg (r2.toInt64)))) (fun (E : String) (u1 : Unit) =>
   (E = "java/lang/IndexOutOfBoundsException" →
    post 1 (f6)) ∧ (E = "java/lang/IndexOutOfBoundsException")) g2_ways f3 f4 f5 p1 p2 p3
set_option maxRecDepth 100000 in
set_option maxHeartbeats 4000000 in
theorem ctL_corner (l : Launch) (hl0 : l.stackTraces = false) (dC : Nat → ClassId) (dI : Nat → Nat → Nat) (cyI cyB cyJ cyZ : ClassId) (sz : Nat) (a0 a1 a2 a3 a4 a5 a6 b0_tape b0_kept b0_draftGround b0_draftLaw b0_grid b0_pack b0_pieces b0_thinning b1_law b1_marks b1_stroll b2_walls n6 : Nat) (g0_imageKept : Int32) (g0_wrongByte : Int32) (g1_drawSeed : Int32) (g2_wallCount : Int32) (g2_texts : Int32) (g2_ways : Int32) (f3 : Nat → Int32) (f4 : Nat → Int32) (f5 : Nat → Int32) (f6 : Nat → Int64) (p1 : Int32) (p2 : Int32) (p3 : Int32) (post : Int32 → ((Nat → Int64)) → Prop) (adS : Nat → Nat) (hw : wpL_corner n6 post g2_ways f3 f4 f5 f6 p1 p2 p3) : Met l yL_corner wsL_corner rmL_corner (va_Pc [.ref a0, .int p1, .int p2, .int p3, .ref a6] (wPreX dC dI cyI cyB cyJ cyZ sz (ceL_corner cyI cyB cyJ cyZ a0 a1 a2 a3 a4 a5 a6 b0_tape b0_kept b0_draftGround b0_draftLaw b0_grid b0_pack b0_pieces b0_thinning b1_law b1_marks b1_stroll b2_walls n6 g0_imageKept g0_wrongByte g1_drawSeed g2_wallCount g2_texts g2_ways f3 f4 f5 f6) (txL adS))) (va_Qi post (fun u : (Nat → Int64) => wAt dC dI cyI cyB cyJ cyZ (va_A (ceL_corner cyI cyB cyJ cyZ a0 a1 a2 a3 a4 a5 a6 b0_tape b0_kept b0_draftGround b0_draftLaw b0_grid b0_pack b0_pieces b0_thinning b1_law b1_marks b1_stroll b2_walls n6 g0_imageKept g0_wrongByte g1_drawSeed g2_wallCount g2_texts g2_ways f3 f4 f5 f6) sz) (ceL_corner cyI cyB cyJ cyZ a0 a1 a2 a3 a4 a5 a6 b0_tape b0_kept b0_draftGround b0_draftLaw b0_grid b0_pack b0_pieces b0_thinning b1_law b1_marks b1_stroll b2_walls n6 g0_imageKept g0_wrongByte g1_drawSeed g2_wallCount g2_texts g2_ways f3 f4 f5 u)) (va_A (ceL_corner cyI cyB cyJ cyZ a0 a1 a2 a3 a4 a5 a6 b0_tape b0_kept b0_draftGround b0_draftLaw b0_grid b0_pack b0_pieces b0_thinning b1_law b1_marks b1_stroll b2_walls n6 g0_imageKept g0_wrongByte g1_drawSeed g2_wallCount g2_texts g2_ways f3 f4 f5 f6) sz)) 1 6 (va_A (ceL_corner cyI cyB cyJ cyZ a0 a1 a2 a3 a4 a5 a6 b0_tape b0_kept b0_draftGround b0_draftLaw b0_grid b0_pack b0_pieces b0_thinning b1_law b1_marks b1_stroll b2_walls n6 g0_imageKept g0_wrongByte g1_drawSeed g2_wallCount g2_texts g2_ways f3 f4 f5 f6) sz) := by
  refine mt_ofWH (cc := cL_corner) (maxL := 6) (ret := (some .int)) (by decide) rfl ?_
  intro p e s m args below meth c s₁ B hml hv
  obtain ⟨rfl, ⟨hsz, hP, hK, hD0, hN⟩, hXs⟩ := hv
  have hx := B.exec
  have hb := B.bytes
  have hr := B.returns
  have hts := atoms_spec (ws := wsL_corner) B.pre
  have hown : s.vm.findClass RL = some m.cls := findClass_of_methodNamed B.named
  have hlocks := B.notSynchronized
  have htb := vx_table (x := yL_corner) B (hts _ (List.mem_of_getElem? (i := 0) rfl))
  subst hsz
  have hD := hD0.self (sz := s.heap.size)
  generalize hAe : va_A (ceL_corner cyI cyB cyJ cyZ a0 a1 a2 a3 a4 a5 a6 b0_tape b0_kept b0_draftGround b0_draftLaw b0_grid b0_pack b0_pieces b0_thinning b1_law b1_marks b1_stroll b2_walls n6 g0_imageKept g0_wrongByte g1_drawSeed g2_wallCount g2_texts g2_ways f3 f4 f5 f6) s.heap.size = A at hD hXs ⊢
  have hA : ∀ q : Nat, s.heap.size ≤ q → A q := fun q h => by rw [← hAe]; exact Or.inr h
  have hS : va_S A s.heap s.heap [] := va_S.rf
  have C0 : cxM p s m meth c _ wsL_corner RL cL_corner 6 (some .int) := ⟨hx, hb, hr, hml, hown, hts, hlocks⟩
  have hl := lv_entry ([.ref a0, .int p1, .int p2, .int p3, .ref a6]) (n := 6) (Nat.le_of_ble_eq_true rfl)
  rw [lg_entry_eq]
  generalize (lg_sl ([.ref a0, .int p1, .int p2, .int p3, .ref a6]) ++ List.replicate (6 - (lg_sl ([.ref a0, .int p1, .int p2, .int p3, .ref a6])).length) Slot.unset).toArray = ls at hl ⊢
  have hl : lv_has ls 6 [(0, .ref a0), (1, .int p1), (2, .int p2), (3, .int p3), (4, .ref a6)] := hl
  show W p l e rmL_corner s m _ below meth c _ _ _ _ _ _
  refine wq (fun Q hQ => ?_)
  refine lv_aload hx hb dL_corner_0 (lv_at hl 4 rfl) ?_
  refine lv_iconst (v := 0) hx hb dL_corner_2 (by decide) ?_
  refine lv_aload_n hx hb dL_corner_3 rfl (lv_at hl 0 rfl) ?_
  refine lv_iload_n hx hb dL_corner_4 rfl (lv_at hl 1 rfl) ?_
  refine lv_iload_n hx hb dL_corner_5 rfl (lv_at hl 2 rfl) ?_
  refine lv_iload_n hx hb dL_corner_6 rfl (lv_at hl 3 rfl) ?_
  have hPc := hP.sub (ws' := (ceX10_corner cyI cyB cyJ cyZ a0 a1 a2 a3 a4 a5 b0_tape b0_kept b0_draftGround b0_draftLaw b0_grid b0_pack b0_pieces b0_thinning b1_law b1_marks b1_stroll b2_walls g0_imageKept g0_wrongByte g1_drawSeed g2_wallCount g2_texts g2_ways f3 f4 f5)) [0, 1, 2, 3, 4, 5] rfl
  have hDc := hD.sub (ws' := (ceX10_corner cyI cyB cyJ cyZ a0 a1 a2 a3 a4 a5 b0_tape b0_kept b0_draftGround b0_draftLaw b0_grid b0_pack b0_pieces b0_thinning b1_law b1_marks b1_stroll b2_walls g0_imageKept g0_wrongByte g1_drawSeed g2_wallCount g2_texts g2_ways f3 f4 f5)) [0, 1, 2, 3, 4, 5] (by decide) rfl
  have hFc := va_free (wc := (ceX10_corner cyI cyB cyJ cyZ a0 a1 a2 a3 a4 a5 b0_tape b0_kept b0_draftGround b0_draftLaw b0_grid b0_pack b0_pieces b0_thinning b1_law b1_marks b1_stroll b2_walls g0_imageKept g0_wrongByte g1_drawSeed g2_wallCount g2_texts g2_ways f3 f4 f5)) hD hS hA [0, 1, 2, 3, 4, 5] rfl
  refine vx_calli (vx_runV (As := [.int p1, .int p2, .int p3]) (rest := [.int 0, .ref a6]) ⟨hx, hb, hml, hown, hts⟩ (ctX10_corner l hl0 dC dI cyI cyB cyJ cyZ _ a0 a1 a2 a3 a4 a5 b0_tape b0_kept b0_draftGround b0_draftLaw b0_grid b0_pack b0_pieces b0_thinning b1_law b1_marks b1_stroll b2_walls g0_imageKept g0_wrongByte g1_drawSeed g2_wallCount g2_texts g2_ways f3 f4 f5 p1 p2 p3 _ _ adS hw) (cwV 3 hts gL_corner_X10_corner rfl rfl rfl (by decide +kernel) ⟨Nat.le_of_ble_eq_true rfl, Nat.le_of_ble_eq_true rfl⟩) ⟨wPreX_blind (xOk_txT adS), va_recv hK hPc (ci := 10) (q0 := 0) rfl rfl, fun U hU hW => wPreX_of (xOk_txT adS) hPc hK hDc hN hXs.1 hS hFc hU hW⟩ rfl rfl hl.1 rfl (lv_room (Nat.le_of_ble_eq_true rfl)) dL_corner_7 ⟨(by decide), (by decide)⟩) hS (fun q _ h => hFc q h) hFc (fun q _ h => hFc q h) (fun E ce q9 u1 t H1 locs ht hvm hpx hBX hz1 hk1 hS hce hcv hcl => ?_) (fun r2 u1 t H1 locs ht hvm hw hB hz1 hk1 hS => ?_)
  · obtain ⟨hw, hP1, hK1, hD1⟩ := hBX
    rw [ht] at hP1
    obtain ⟨hP, hD⟩ := va_join (wr := pickW (ceL_corner cyI cyB cyJ cyZ a0 a1 a2 a3 a4 a5 a6 b0_tape b0_kept b0_draftGround b0_draftLaw b0_grid b0_pack b0_pieces b0_thinning b1_law b1_marks b1_stroll b2_walls n6 g0_imageKept g0_wrongByte g1_drawSeed g2_wallCount g2_texts g2_ways f3 f4 f5 f6) [6]) (w1 := (ceX10_corner cyI cyB cyJ cyZ a0 a1 a2 a3 a4 a5 b0_tape b0_kept b0_draftGround b0_draftLaw b0_grid b0_pack b0_pieces b0_thinning b1_law b1_marks b1_stroll b2_walls g0_imageKept g0_wrongByte g1_drawSeed g2_wallCount g2_texts g2_ways f3 f4 f5)) hP hD [0, 1, 2, 3, 4, 5] [6] rfl rfl (by decide) (by decide) hk1 hFc hP1 hD1
    have hP := hP.sub (ws' := (ceL_corner cyI cyB cyJ cyZ a0 a1 a2 a3 a4 a5 a6 b0_tape b0_kept b0_draftGround b0_draftLaw b0_grid b0_pack b0_pieces b0_thinning b1_law b1_marks b1_stroll b2_walls n6 g0_imageKept g0_wrongByte g1_drawSeed g2_wallCount g2_texts g2_ways f3 f4 f5 f6)) [1, 2, 3, 4, 5, 6, 0] rfl
    have hD := hD.sub (ws' := (ceL_corner cyI cyB cyJ cyZ a0 a1 a2 a3 a4 a5 a6 b0_tape b0_kept b0_draftGround b0_draftLaw b0_grid b0_pack b0_pieces b0_thinning b1_law b1_marks b1_stroll b2_walls n6 g0_imageKept g0_wrongByte g1_drawSeed g2_wallCount g2_texts g2_ways f3 f4 f5 f6)) [1, 2, 3, 4, 5, 6, 0] (by decide) rfl
    obtain ⟨hw0, hE⟩ := hw
    subst hE
    have hw := hw0 rfl
    refine ec_catch (name := "java/lang/IndexOutOfBoundsException") hown [] _ _ (htb.trans rfl) (fun z hz => by cases hz) (by decide) (by decide) (hts (.classLink RL 24 "java/lang/IndexOutOfBoundsException") (List.mem_of_getElem? (i := 1) rfl)) (va_Nw.use rfl (hXs.1.2.2.2 (.castable "java/lang/IndexOutOfBoundsException" "java/lang/IndexOutOfBoundsException") (by decide +kernel))) hce hcv hcl ?_
    refine W.eq (g2 := F0 m 15 ls [.ref q9]) rfl ?_
    refine lv_astore (lv' := [(5, .ref q9), (0, .ref a0), (1, .int p1), (2, .int p2), (3, .int p3), (4, .ref a6)]) hx hb dL_corner_15 hl (by decide) rfl (fun ls hl => ?_)
    refine lv_iconst (v := 1) hx hb dL_corner_17 (by decide) ?_
    rw [hQ]
    refine W.widen (k := 1) (n := 6) (by decide) (by decide) ?_
    exact W.iret (v := 1) hx hb hr (fun t ht hW => ⟨⟨1, (f6), rfl, hw, by rw [ht]; exact hP, va_K.moved hW.alike hK, hD⟩, hS.F ht⟩) hS.2.2 dL_corner_18
  -- returned
  obtain ⟨hP1, hK1, hD1⟩ := hB
  rw [ht] at hP1
  obtain ⟨hP, hD⟩ := va_join (wr := pickW (ceL_corner cyI cyB cyJ cyZ a0 a1 a2 a3 a4 a5 a6 b0_tape b0_kept b0_draftGround b0_draftLaw b0_grid b0_pack b0_pieces b0_thinning b1_law b1_marks b1_stroll b2_walls n6 g0_imageKept g0_wrongByte g1_drawSeed g2_wallCount g2_texts g2_ways f3 f4 f5 f6) [6]) (w1 := (ceX10_corner cyI cyB cyJ cyZ a0 a1 a2 a3 a4 a5 b0_tape b0_kept b0_draftGround b0_draftLaw b0_grid b0_pack b0_pieces b0_thinning b1_law b1_marks b1_stroll b2_walls g0_imageKept g0_wrongByte g1_drawSeed g2_wallCount g2_texts g2_ways f3 f4 f5)) hP hD [0, 1, 2, 3, 4, 5] [6] rfl rfl (by decide) (by decide) hk1 hFc hP1 hD1
  have hP := hP.sub (ws' := (ceL_corner cyI cyB cyJ cyZ a0 a1 a2 a3 a4 a5 a6 b0_tape b0_kept b0_draftGround b0_draftLaw b0_grid b0_pack b0_pieces b0_thinning b1_law b1_marks b1_stroll b2_walls n6 g0_imageKept g0_wrongByte g1_drawSeed g2_wallCount g2_texts g2_ways f3 f4 f5 f6)) [1, 2, 3, 4, 5, 6, 0] rfl
  have hD := hD.sub (ws' := (ceL_corner cyI cyB cyJ cyZ a0 a1 a2 a3 a4 a5 a6 b0_tape b0_kept b0_draftGround b0_draftLaw b0_grid b0_pack b0_pieces b0_thinning b1_law b1_marks b1_stroll b2_walls n6 g0_imageKept g0_wrongByte g1_drawSeed g2_wallCount g2_texts g2_ways f3 f4 f5 f6)) [1, 2, 3, 4, 5, 6, 0] (by decide) rfl
  generalize H1 = H at hP hS ⊢
  refine W.widen (k := 1) (n := 6) (by decide) (by decide) ?_
  refine lv_i2l hx hb dL_corner_10 rfl ?_
  obtain ⟨hi, hw⟩ := hw
  refine va_last hx hb hK hP hD hS 6 2 rfl rfl hi dL_corner_11 (fun H locs hP hD hS => ?_)
  have hP : va_P (dC, dI) vwCl (ceL_corner cyI cyB cyJ cyZ a0 a1 a2 a3 a4 a5 a6 b0_tape b0_kept b0_draftGround b0_draftLaw b0_grid b0_pack b0_pieces b0_thinning b1_law b1_marks b1_stroll b2_walls n6 g0_imageKept g0_wrongByte g1_drawSeed g2_wallCount g2_texts g2_ways f3 f4 f5 (vp_updL f6 (0 : Int32).toNatClampNeg (r2.toInt64))) H := hP
  have hD : va_D A (ceL_corner cyI cyB cyJ cyZ a0 a1 a2 a3 a4 a5 a6 b0_tape b0_kept b0_draftGround b0_draftLaw b0_grid b0_pack b0_pieces b0_thinning b1_law b1_marks b1_stroll b2_walls n6 g0_imageKept g0_wrongByte g1_drawSeed g2_wallCount g2_texts g2_ways f3 f4 f5 (vp_updL f6 (0 : Int32).toNatClampNeg (r2.toInt64))) := hD
  refine lv_goto (tgt := 19) hx hb dL_corner_12 (by decide) ?_
  refine lv_iconst (v := 0) hx hb dL_corner_19 (by decide) ?_
  rw [hQ]
  refine W.widen (k := 1) (n := 6) (by decide) (by decide) ?_
  exact W.iret (v := 0) hx hb hr (fun t ht hW => ⟨⟨0, ((vp_updL f6 (0 : Int32).toNatClampNeg (r2.toInt64))), rfl, hw, by rw [ht]; exact hP, va_K.moved hW.alike hK, hD⟩, hS.F ht⟩) hS.2.2 dL_corner_20
/-! LeadParkLaw.corners (LLeadPark;I[J)I -/
abbrev ceL_corners (cyI cyB cyJ cyZ : ClassId) (a0 a1 a2 a3 a4 b0_tape b0_kept b0_draftGround b0_draftLaw b0_grid b0_pack b0_pieces b0_thinning b1_law b1_marks b1_stroll b2_xs b2_ys b2_walls n4 : Nat) (g0_imageKept : Int32) (g0_wrongByte : Int32) (g1_drawSeed : Int32) (g2_wallCount : Int32) (g2_texts : Int32) (g2_ways : Int32) (f3 : Nat → Int32) (f4 : Nat → Int64) : va_W := [(a0, .inr (10, [.ref b0_tape, .ref a1, .ref b0_kept, .ref b0_draftGround, .ref b0_draftLaw, .ref b0_grid, .ref b0_pack, .ref b0_pieces, .ref b0_thinning, .int g0_imageKept, .int g0_wrongByte])), (a1, .inr (6, [.ref a2, .ref b1_law, .ref b1_marks, .ref b1_stroll, .int g1_drawSeed])), (a2, .inr (1, [.ref b2_xs, .ref b2_ys, .ref a3, .ref b2_walls, .int g2_ways, .int g2_wallCount, .int g2_texts])), (a3, .inl (cyI, 12, .inl f3)), (a4, .inl (cyJ, n4, .inr (.inl f4)))]

abbrev rmL_corners : Room := { frames := 8, cells := 1, slots := 6, locals := 142 }
def wpL_corners (n4 : Nat) (post : Int32 → ((Nat → Int64)) → Prop) (g2_ways : Int32) (f3 : Nat → Int32) (f4 : Nat → Int64) (p1 : Int32) : Prop :=
  wpX10_corners (fun (r2 : Int32) (u1 : Unit) =>
   vp_in 0 n4 ∧
   post 0 ((vp_updL f4 (0 : Int32).toNatClampNeg (r2.toInt64)))) (fun (E : String) (u1 : Unit) =>
   (E = "java/lang/IndexOutOfBoundsException" →
    post 1 (f4)) ∧ (E = "java/lang/IndexOutOfBoundsException")) g2_ways f3 p1
set_option maxRecDepth 100000 in
set_option maxHeartbeats 4000000 in
theorem ctL_corners (l : Launch) (hl0 : l.stackTraces = false) (dC : Nat → ClassId) (dI : Nat → Nat → Nat) (cyI cyB cyJ cyZ : ClassId) (sz : Nat) (a0 a1 a2 a3 a4 b0_tape b0_kept b0_draftGround b0_draftLaw b0_grid b0_pack b0_pieces b0_thinning b1_law b1_marks b1_stroll b2_xs b2_ys b2_walls n4 : Nat) (g0_imageKept : Int32) (g0_wrongByte : Int32) (g1_drawSeed : Int32) (g2_wallCount : Int32) (g2_texts : Int32) (g2_ways : Int32) (f3 : Nat → Int32) (f4 : Nat → Int64) (p1 : Int32) (post : Int32 → ((Nat → Int64)) → Prop) (adS : Nat → Nat) (hw : wpL_corners n4 post g2_ways f3 f4 p1) : Met l yL_corners wsL_corners rmL_corners (va_Pc [.ref a0, .int p1, .ref a4] (wPreX dC dI cyI cyB cyJ cyZ sz (ceL_corners cyI cyB cyJ cyZ a0 a1 a2 a3 a4 b0_tape b0_kept b0_draftGround b0_draftLaw b0_grid b0_pack b0_pieces b0_thinning b1_law b1_marks b1_stroll b2_xs b2_ys b2_walls n4 g0_imageKept g0_wrongByte g1_drawSeed g2_wallCount g2_texts g2_ways f3 f4) (txL adS))) (va_Qi post (fun u : (Nat → Int64) => wAt dC dI cyI cyB cyJ cyZ (va_A (ceL_corners cyI cyB cyJ cyZ a0 a1 a2 a3 a4 b0_tape b0_kept b0_draftGround b0_draftLaw b0_grid b0_pack b0_pieces b0_thinning b1_law b1_marks b1_stroll b2_xs b2_ys b2_walls n4 g0_imageKept g0_wrongByte g1_drawSeed g2_wallCount g2_texts g2_ways f3 f4) sz) (ceL_corners cyI cyB cyJ cyZ a0 a1 a2 a3 a4 b0_tape b0_kept b0_draftGround b0_draftLaw b0_grid b0_pack b0_pieces b0_thinning b1_law b1_marks b1_stroll b2_xs b2_ys b2_walls n4 g0_imageKept g0_wrongByte g1_drawSeed g2_wallCount g2_texts g2_ways f3 u)) (va_A (ceL_corners cyI cyB cyJ cyZ a0 a1 a2 a3 a4 b0_tape b0_kept b0_draftGround b0_draftLaw b0_grid b0_pack b0_pieces b0_thinning b1_law b1_marks b1_stroll b2_xs b2_ys b2_walls n4 g0_imageKept g0_wrongByte g1_drawSeed g2_wallCount g2_texts g2_ways f3 f4) sz)) 1 6 (va_A (ceL_corners cyI cyB cyJ cyZ a0 a1 a2 a3 a4 b0_tape b0_kept b0_draftGround b0_draftLaw b0_grid b0_pack b0_pieces b0_thinning b1_law b1_marks b1_stroll b2_xs b2_ys b2_walls n4 g0_imageKept g0_wrongByte g1_drawSeed g2_wallCount g2_texts g2_ways f3 f4) sz) := by
  refine mt_ofWH (cc := cL_corners) (maxL := 4) (ret := (some .int)) (by decide) rfl ?_
  intro p e s m args below meth c s₁ B hml hv
  obtain ⟨rfl, ⟨hsz, hP, hK, hD0, hN⟩, hXs⟩ := hv
  have hx := B.exec
  have hb := B.bytes
  have hr := B.returns
  have hts := atoms_spec (ws := wsL_corners) B.pre
  have hown : s.vm.findClass RL = some m.cls := findClass_of_methodNamed B.named
  have hlocks := B.notSynchronized
  have htb := vx_table (x := yL_corners) B (hts _ (List.mem_of_getElem? (i := 0) rfl))
  subst hsz
  have hD := hD0.self (sz := s.heap.size)
  generalize hAe : va_A (ceL_corners cyI cyB cyJ cyZ a0 a1 a2 a3 a4 b0_tape b0_kept b0_draftGround b0_draftLaw b0_grid b0_pack b0_pieces b0_thinning b1_law b1_marks b1_stroll b2_xs b2_ys b2_walls n4 g0_imageKept g0_wrongByte g1_drawSeed g2_wallCount g2_texts g2_ways f3 f4) s.heap.size = A at hD hXs ⊢
  have hA : ∀ q : Nat, s.heap.size ≤ q → A q := fun q h => by rw [← hAe]; exact Or.inr h
  have hS : va_S A s.heap s.heap [] := va_S.rf
  have C0 : cxM p s m meth c _ wsL_corners RL cL_corners 4 (some .int) := ⟨hx, hb, hr, hml, hown, hts, hlocks⟩
  have hl := lv_entry ([.ref a0, .int p1, .ref a4]) (n := 4) (Nat.le_of_ble_eq_true rfl)
  rw [lg_entry_eq]
  generalize (lg_sl ([.ref a0, .int p1, .ref a4]) ++ List.replicate (4 - (lg_sl ([.ref a0, .int p1, .ref a4])).length) Slot.unset).toArray = ls at hl ⊢
  have hl : lv_has ls 4 [(0, .ref a0), (1, .int p1), (2, .ref a4)] := hl
  show W p l e rmL_corners s m _ below meth c _ _ _ _ _ _
  refine wq (fun Q hQ => ?_)
  refine lv_aload_n hx hb dL_corners_0 rfl (lv_at hl 2 rfl) ?_
  refine lv_iconst (v := 0) hx hb dL_corners_1 (by decide) ?_
  refine lv_aload_n hx hb dL_corners_2 rfl (lv_at hl 0 rfl) ?_
  refine lv_iload_n hx hb dL_corners_3 rfl (lv_at hl 1 rfl) ?_
  have hPc := hP.sub (ws' := (ceX10_corners cyI cyB cyJ cyZ a0 a1 a2 a3 b0_tape b0_kept b0_draftGround b0_draftLaw b0_grid b0_pack b0_pieces b0_thinning b1_law b1_marks b1_stroll b2_xs b2_ys b2_walls g0_imageKept g0_wrongByte g1_drawSeed g2_wallCount g2_texts g2_ways f3)) [0, 1, 2, 3] rfl
  have hDc := hD.sub (ws' := (ceX10_corners cyI cyB cyJ cyZ a0 a1 a2 a3 b0_tape b0_kept b0_draftGround b0_draftLaw b0_grid b0_pack b0_pieces b0_thinning b1_law b1_marks b1_stroll b2_xs b2_ys b2_walls g0_imageKept g0_wrongByte g1_drawSeed g2_wallCount g2_texts g2_ways f3)) [0, 1, 2, 3] (by decide) rfl
  have hFc := va_free (wc := (ceX10_corners cyI cyB cyJ cyZ a0 a1 a2 a3 b0_tape b0_kept b0_draftGround b0_draftLaw b0_grid b0_pack b0_pieces b0_thinning b1_law b1_marks b1_stroll b2_xs b2_ys b2_walls g0_imageKept g0_wrongByte g1_drawSeed g2_wallCount g2_texts g2_ways f3)) hD hS hA [0, 1, 2, 3] rfl
  refine vx_calli (vx_runV (As := [.int p1]) (rest := [.int 0, .ref a4]) ⟨hx, hb, hml, hown, hts⟩ (ctX10_corners l hl0 dC dI cyI cyB cyJ cyZ _ a0 a1 a2 a3 b0_tape b0_kept b0_draftGround b0_draftLaw b0_grid b0_pack b0_pieces b0_thinning b1_law b1_marks b1_stroll b2_xs b2_ys b2_walls g0_imageKept g0_wrongByte g1_drawSeed g2_wallCount g2_texts g2_ways f3 p1 _ _ adS hw) (cwV 1 hts gL_corners_X10_corners rfl rfl rfl (by decide +kernel) ⟨Nat.le_of_ble_eq_true rfl, Nat.le_of_ble_eq_true rfl⟩) ⟨wPreX_blind (xOk_txT adS), va_recv hK hPc (ci := 10) (q0 := 0) rfl rfl, fun U hU hW => wPreX_of (xOk_txT adS) hPc hK hDc hN hXs.1 hS hFc hU hW⟩ rfl rfl hl.1 rfl (lv_room (Nat.le_of_ble_eq_true rfl)) dL_corners_4 ⟨(by decide), (by decide)⟩) hS (fun q _ h => hFc q h) hFc (fun q _ h => hFc q h) (fun E ce q9 u1 t H1 locs ht hvm hpx hBX hz1 hk1 hS hce hcv hcl => ?_) (fun r2 u1 t H1 locs ht hvm hw hB hz1 hk1 hS => ?_)
  · obtain ⟨hw, hP1, hK1, hD1⟩ := hBX
    rw [ht] at hP1
    obtain ⟨hP, hD⟩ := va_join (wr := pickW (ceL_corners cyI cyB cyJ cyZ a0 a1 a2 a3 a4 b0_tape b0_kept b0_draftGround b0_draftLaw b0_grid b0_pack b0_pieces b0_thinning b1_law b1_marks b1_stroll b2_xs b2_ys b2_walls n4 g0_imageKept g0_wrongByte g1_drawSeed g2_wallCount g2_texts g2_ways f3 f4) [4]) (w1 := (ceX10_corners cyI cyB cyJ cyZ a0 a1 a2 a3 b0_tape b0_kept b0_draftGround b0_draftLaw b0_grid b0_pack b0_pieces b0_thinning b1_law b1_marks b1_stroll b2_xs b2_ys b2_walls g0_imageKept g0_wrongByte g1_drawSeed g2_wallCount g2_texts g2_ways f3)) hP hD [0, 1, 2, 3] [4] rfl rfl (by decide) (by decide) hk1 hFc hP1 hD1
    have hP := hP.sub (ws' := (ceL_corners cyI cyB cyJ cyZ a0 a1 a2 a3 a4 b0_tape b0_kept b0_draftGround b0_draftLaw b0_grid b0_pack b0_pieces b0_thinning b1_law b1_marks b1_stroll b2_xs b2_ys b2_walls n4 g0_imageKept g0_wrongByte g1_drawSeed g2_wallCount g2_texts g2_ways f3 f4)) [1, 2, 3, 4, 0] rfl
    have hD := hD.sub (ws' := (ceL_corners cyI cyB cyJ cyZ a0 a1 a2 a3 a4 b0_tape b0_kept b0_draftGround b0_draftLaw b0_grid b0_pack b0_pieces b0_thinning b1_law b1_marks b1_stroll b2_xs b2_ys b2_walls n4 g0_imageKept g0_wrongByte g1_drawSeed g2_wallCount g2_texts g2_ways f3 f4)) [1, 2, 3, 4, 0] (by decide) rfl
    obtain ⟨hw0, hE⟩ := hw
    subst hE
    have hw := hw0 rfl
    refine ec_catch (name := "java/lang/IndexOutOfBoundsException") hown [] _ _ (htb.trans rfl) (fun z hz => by cases hz) (by decide) (by decide) (hts (.classLink RL 24 "java/lang/IndexOutOfBoundsException") (List.mem_of_getElem? (i := 1) rfl)) (va_Nw.use rfl (hXs.1.2.2.2 (.castable "java/lang/IndexOutOfBoundsException" "java/lang/IndexOutOfBoundsException") (by decide +kernel))) hce hcv hcl ?_
    refine W.eq (g2 := F0 m 12 ls [.ref q9]) rfl ?_
    refine lv_astore_n (lv' := [(3, .ref q9), (0, .ref a0), (1, .int p1), (2, .ref a4)]) hx hb dL_corners_12 rfl hl (by decide) rfl (fun ls hl => ?_)
    refine lv_iconst (v := 1) hx hb dL_corners_13 (by decide) ?_
    rw [hQ]
    refine W.widen (k := 1) (n := 6) (by decide) (by decide) ?_
    exact W.iret (v := 1) hx hb hr (fun t ht hW => ⟨⟨1, (f4), rfl, hw, by rw [ht]; exact hP, va_K.moved hW.alike hK, hD⟩, hS.F ht⟩) hS.2.2 dL_corners_14
  -- returned
  obtain ⟨hP1, hK1, hD1⟩ := hB
  rw [ht] at hP1
  obtain ⟨hP, hD⟩ := va_join (wr := pickW (ceL_corners cyI cyB cyJ cyZ a0 a1 a2 a3 a4 b0_tape b0_kept b0_draftGround b0_draftLaw b0_grid b0_pack b0_pieces b0_thinning b1_law b1_marks b1_stroll b2_xs b2_ys b2_walls n4 g0_imageKept g0_wrongByte g1_drawSeed g2_wallCount g2_texts g2_ways f3 f4) [4]) (w1 := (ceX10_corners cyI cyB cyJ cyZ a0 a1 a2 a3 b0_tape b0_kept b0_draftGround b0_draftLaw b0_grid b0_pack b0_pieces b0_thinning b1_law b1_marks b1_stroll b2_xs b2_ys b2_walls g0_imageKept g0_wrongByte g1_drawSeed g2_wallCount g2_texts g2_ways f3)) hP hD [0, 1, 2, 3] [4] rfl rfl (by decide) (by decide) hk1 hFc hP1 hD1
  have hP := hP.sub (ws' := (ceL_corners cyI cyB cyJ cyZ a0 a1 a2 a3 a4 b0_tape b0_kept b0_draftGround b0_draftLaw b0_grid b0_pack b0_pieces b0_thinning b1_law b1_marks b1_stroll b2_xs b2_ys b2_walls n4 g0_imageKept g0_wrongByte g1_drawSeed g2_wallCount g2_texts g2_ways f3 f4)) [1, 2, 3, 4, 0] rfl
  have hD := hD.sub (ws' := (ceL_corners cyI cyB cyJ cyZ a0 a1 a2 a3 a4 b0_tape b0_kept b0_draftGround b0_draftLaw b0_grid b0_pack b0_pieces b0_thinning b1_law b1_marks b1_stroll b2_xs b2_ys b2_walls n4 g0_imageKept g0_wrongByte g1_drawSeed g2_wallCount g2_texts g2_ways f3 f4)) [1, 2, 3, 4, 0] (by decide) rfl
  generalize H1 = H at hP hS ⊢
  refine W.widen (k := 1) (n := 6) (by decide) (by decide) ?_
  refine lv_i2l hx hb dL_corners_7 rfl ?_
  obtain ⟨hi, hw⟩ := hw
  refine va_last hx hb hK hP hD hS 4 2 rfl rfl hi dL_corners_8 (fun H locs hP hD hS => ?_)
  have hP : va_P (dC, dI) vwCl (ceL_corners cyI cyB cyJ cyZ a0 a1 a2 a3 a4 b0_tape b0_kept b0_draftGround b0_draftLaw b0_grid b0_pack b0_pieces b0_thinning b1_law b1_marks b1_stroll b2_xs b2_ys b2_walls n4 g0_imageKept g0_wrongByte g1_drawSeed g2_wallCount g2_texts g2_ways f3 (vp_updL f4 (0 : Int32).toNatClampNeg (r2.toInt64))) H := hP
  have hD : va_D A (ceL_corners cyI cyB cyJ cyZ a0 a1 a2 a3 a4 b0_tape b0_kept b0_draftGround b0_draftLaw b0_grid b0_pack b0_pieces b0_thinning b1_law b1_marks b1_stroll b2_xs b2_ys b2_walls n4 g0_imageKept g0_wrongByte g1_drawSeed g2_wallCount g2_texts g2_ways f3 (vp_updL f4 (0 : Int32).toNatClampNeg (r2.toInt64))) := hD
  refine lv_goto (tgt := 15) hx hb dL_corners_9 (by decide) ?_
  refine lv_iconst (v := 0) hx hb dL_corners_15 (by decide) ?_
  rw [hQ]
  refine W.widen (k := 1) (n := 6) (by decide) (by decide) ?_
  exact W.iret (v := 0) hx hb hr (fun t ht hW => ⟨⟨0, ((vp_updL f4 (0 : Int32).toNatClampNeg (r2.toInt64))), rfl, hw, by rw [ht]; exact hP, va_K.moved hW.alike hK, hD⟩, hS.F ht⟩) hS.2.2 dL_corners_16
/-! LeadParkLaw.far (LLeadPark;IIII[J)I -/
abbrev ceL_far (cyI cyB cyJ cyZ : ClassId) (a0 a1 a2 a3 a4 a5 a6 b0_tape b0_kept b0_draftGround b0_draftLaw b0_grid b0_pack b0_pieces b0_thinning b1_law b1_marks b1_stroll b2_walls n6 : Nat) (g0_imageKept : Int32) (g0_wrongByte : Int32) (g1_drawSeed : Int32) (g2_wallCount : Int32) (g2_texts : Int32) (g2_ways : Int32) (f3 : Nat → Int32) (f4 : Nat → Int32) (f5 : Nat → Int32) (f6 : Nat → Int64) : va_W := [(a0, .inr (10, [.ref b0_tape, .ref a1, .ref b0_kept, .ref b0_draftGround, .ref b0_draftLaw, .ref b0_grid, .ref b0_pack, .ref b0_pieces, .ref b0_thinning, .int g0_imageKept, .int g0_wrongByte])), (a1, .inr (6, [.ref a2, .ref b1_law, .ref b1_marks, .ref b1_stroll, .int g1_drawSeed])), (a2, .inr (1, [.ref a4, .ref a5, .ref a3, .ref b2_walls, .int g2_ways, .int g2_wallCount, .int g2_texts])), (a3, .inl (cyI, 12, .inl f3)), (a4, .inl (cyI, 360, .inl f4)), (a5, .inl (cyI, 360, .inl f5)), (a6, .inl (cyJ, n6, .inr (.inl f6)))]

abbrev rmL_far : Room := { frames := 8, cells := 2, slots := 12, locals := 146 }
def wpL_far (n6 : Nat) (post : Int32 → ((Nat → Int64)) → Prop) (g2_ways : Int32) (f3 : Nat → Int32) (f4 : Nat → Int32) (f5 : Nat → Int32) (f6 : Nat → Int64) (p1 : Int32) (p2 : Int32) (p3 : Int32) (p4 : Int32) : Prop :=
  wpX10_far (fun (r2 : Int32) (u1 : Unit) =>
   vp_in 0 n6 ∧
   post 0 ((vp_updL f6 (0 : Int32).toNatClampNeg (r2.toInt64)))) (fun (E : String) (u1 : Unit) =>
   (E = "java/lang/IndexOutOfBoundsException" →
    post 1 (f6)) ∧ (E = "java/lang/IndexOutOfBoundsException")) g2_ways f3 f4 f5 p1 p2 p3 p4
set_option maxRecDepth 100000 in
set_option maxHeartbeats 4000000 in
theorem ctL_far (l : Launch) (hl0 : l.stackTraces = false) (dC : Nat → ClassId) (dI : Nat → Nat → Nat) (cyI cyB cyJ cyZ : ClassId) (sz : Nat) (a0 a1 a2 a3 a4 a5 a6 b0_tape b0_kept b0_draftGround b0_draftLaw b0_grid b0_pack b0_pieces b0_thinning b1_law b1_marks b1_stroll b2_walls n6 : Nat) (g0_imageKept : Int32) (g0_wrongByte : Int32) (g1_drawSeed : Int32) (g2_wallCount : Int32) (g2_texts : Int32) (g2_ways : Int32) (f3 : Nat → Int32) (f4 : Nat → Int32) (f5 : Nat → Int32) (f6 : Nat → Int64) (p1 : Int32) (p2 : Int32) (p3 : Int32) (p4 : Int32) (post : Int32 → ((Nat → Int64)) → Prop) (adS : Nat → Nat) (hw : wpL_far n6 post g2_ways f3 f4 f5 f6 p1 p2 p3 p4) : Met l yL_far wsL_far rmL_far (va_Pc [.ref a0, .int p1, .int p2, .int p3, .int p4, .ref a6] (wPreX dC dI cyI cyB cyJ cyZ sz (ceL_far cyI cyB cyJ cyZ a0 a1 a2 a3 a4 a5 a6 b0_tape b0_kept b0_draftGround b0_draftLaw b0_grid b0_pack b0_pieces b0_thinning b1_law b1_marks b1_stroll b2_walls n6 g0_imageKept g0_wrongByte g1_drawSeed g2_wallCount g2_texts g2_ways f3 f4 f5 f6) (txL adS))) (va_Qi post (fun u : (Nat → Int64) => wAt dC dI cyI cyB cyJ cyZ (va_A (ceL_far cyI cyB cyJ cyZ a0 a1 a2 a3 a4 a5 a6 b0_tape b0_kept b0_draftGround b0_draftLaw b0_grid b0_pack b0_pieces b0_thinning b1_law b1_marks b1_stroll b2_walls n6 g0_imageKept g0_wrongByte g1_drawSeed g2_wallCount g2_texts g2_ways f3 f4 f5 f6) sz) (ceL_far cyI cyB cyJ cyZ a0 a1 a2 a3 a4 a5 a6 b0_tape b0_kept b0_draftGround b0_draftLaw b0_grid b0_pack b0_pieces b0_thinning b1_law b1_marks b1_stroll b2_walls n6 g0_imageKept g0_wrongByte g1_drawSeed g2_wallCount g2_texts g2_ways f3 f4 f5 u)) (va_A (ceL_far cyI cyB cyJ cyZ a0 a1 a2 a3 a4 a5 a6 b0_tape b0_kept b0_draftGround b0_draftLaw b0_grid b0_pack b0_pieces b0_thinning b1_law b1_marks b1_stroll b2_walls n6 g0_imageKept g0_wrongByte g1_drawSeed g2_wallCount g2_texts g2_ways f3 f4 f5 f6) sz)) 2 12 (va_A (ceL_far cyI cyB cyJ cyZ a0 a1 a2 a3 a4 a5 a6 b0_tape b0_kept b0_draftGround b0_draftLaw b0_grid b0_pack b0_pieces b0_thinning b1_law b1_marks b1_stroll b2_walls n6 g0_imageKept g0_wrongByte g1_drawSeed g2_wallCount g2_texts g2_ways f3 f4 f5 f6) sz) := by
  refine mt_ofWH (cc := cL_far) (maxL := 7) (ret := (some .int)) (by decide) rfl ?_
  intro p e s m args below meth c s₁ B hml hv
  obtain ⟨rfl, ⟨hsz, hP, hK, hD0, hN⟩, hXs⟩ := hv
  have hx := B.exec
  have hb := B.bytes
  have hr := B.returns
  have hts := atoms_spec (ws := wsL_far) B.pre
  have hown : s.vm.findClass RL = some m.cls := findClass_of_methodNamed B.named
  have hlocks := B.notSynchronized
  have htb := vx_table (x := yL_far) B (hts _ (List.mem_of_getElem? (i := 0) rfl))
  subst hsz
  have hD := hD0.self (sz := s.heap.size)
  generalize hAe : va_A (ceL_far cyI cyB cyJ cyZ a0 a1 a2 a3 a4 a5 a6 b0_tape b0_kept b0_draftGround b0_draftLaw b0_grid b0_pack b0_pieces b0_thinning b1_law b1_marks b1_stroll b2_walls n6 g0_imageKept g0_wrongByte g1_drawSeed g2_wallCount g2_texts g2_ways f3 f4 f5 f6) s.heap.size = A at hD hXs ⊢
  have hA : ∀ q : Nat, s.heap.size ≤ q → A q := fun q h => by rw [← hAe]; exact Or.inr h
  have hS : va_S A s.heap s.heap [] := va_S.rf
  have C0 : cxM p s m meth c _ wsL_far RL cL_far 7 (some .int) := ⟨hx, hb, hr, hml, hown, hts, hlocks⟩
  have hl := lv_entry ([.ref a0, .int p1, .int p2, .int p3, .int p4, .ref a6]) (n := 7) (Nat.le_of_ble_eq_true rfl)
  rw [lg_entry_eq]
  generalize (lg_sl ([.ref a0, .int p1, .int p2, .int p3, .int p4, .ref a6]) ++ List.replicate (7 - (lg_sl ([.ref a0, .int p1, .int p2, .int p3, .int p4, .ref a6])).length) Slot.unset).toArray = ls at hl ⊢
  have hl : lv_has ls 7 [(0, .ref a0), (1, .int p1), (2, .int p2), (3, .int p3), (4, .int p4), (5, .ref a6)] := hl
  show W p l e rmL_far s m _ below meth c _ _ _ _ _ _
  refine wq (fun Q hQ => ?_)
  refine lv_aload hx hb dL_far_0 (lv_at hl 5 rfl) ?_
  refine lv_iconst (v := 0) hx hb dL_far_2 (by decide) ?_
  refine lv_aload_n hx hb dL_far_3 rfl (lv_at hl 0 rfl) ?_
  refine lv_iload_n hx hb dL_far_4 rfl (lv_at hl 1 rfl) ?_
  refine lv_iload_n hx hb dL_far_5 rfl (lv_at hl 2 rfl) ?_
  refine lv_iload_n hx hb dL_far_6 rfl (lv_at hl 3 rfl) ?_
  refine lv_iload hx hb dL_far_7 (lv_at hl 4 rfl) ?_
  have hPc := hP.sub (ws' := (ceX10_far cyI cyB cyJ cyZ a0 a1 a2 a3 a4 a5 b0_tape b0_kept b0_draftGround b0_draftLaw b0_grid b0_pack b0_pieces b0_thinning b1_law b1_marks b1_stroll b2_walls g0_imageKept g0_wrongByte g1_drawSeed g2_wallCount g2_texts g2_ways f3 f4 f5)) [0, 1, 2, 3, 4, 5] rfl
  have hDc := hD.sub (ws' := (ceX10_far cyI cyB cyJ cyZ a0 a1 a2 a3 a4 a5 b0_tape b0_kept b0_draftGround b0_draftLaw b0_grid b0_pack b0_pieces b0_thinning b1_law b1_marks b1_stroll b2_walls g0_imageKept g0_wrongByte g1_drawSeed g2_wallCount g2_texts g2_ways f3 f4 f5)) [0, 1, 2, 3, 4, 5] (by decide) rfl
  have hFc := va_free (wc := (ceX10_far cyI cyB cyJ cyZ a0 a1 a2 a3 a4 a5 b0_tape b0_kept b0_draftGround b0_draftLaw b0_grid b0_pack b0_pieces b0_thinning b1_law b1_marks b1_stroll b2_walls g0_imageKept g0_wrongByte g1_drawSeed g2_wallCount g2_texts g2_ways f3 f4 f5)) hD hS hA [0, 1, 2, 3, 4, 5] rfl
  refine vx_calli (vx_runV (As := [.int p1, .int p2, .int p3, .int p4]) (rest := [.int 0, .ref a6]) ⟨hx, hb, hml, hown, hts⟩ (ctX10_far l hl0 dC dI cyI cyB cyJ cyZ _ a0 a1 a2 a3 a4 a5 b0_tape b0_kept b0_draftGround b0_draftLaw b0_grid b0_pack b0_pieces b0_thinning b1_law b1_marks b1_stroll b2_walls g0_imageKept g0_wrongByte g1_drawSeed g2_wallCount g2_texts g2_ways f3 f4 f5 p1 p2 p3 p4 _ _ adS hw) (cwV 4 hts gL_far_X10_far rfl rfl rfl (by decide +kernel) ⟨Nat.le_of_ble_eq_true rfl, Nat.le_of_ble_eq_true rfl⟩) ⟨wPreX_blind (xOk_txT adS), va_recv hK hPc (ci := 10) (q0 := 0) rfl rfl, fun U hU hW => wPreX_of (xOk_txT adS) hPc hK hDc hN hXs.1 hS hFc hU hW⟩ rfl rfl hl.1 rfl (lv_room (Nat.le_of_ble_eq_true rfl)) dL_far_9 ⟨(by decide), (by decide)⟩) hS (fun q _ h => hFc q h) hFc (fun q _ h => hFc q h) (fun E ce q9 u1 t H1 locs ht hvm hpx hBX hz1 hk1 hS hce hcv hcl => ?_) (fun r2 u1 t H1 locs ht hvm hw hB hz1 hk1 hS => ?_)
  · obtain ⟨hw, hP1, hK1, hD1⟩ := hBX
    rw [ht] at hP1
    obtain ⟨hP, hD⟩ := va_join (wr := pickW (ceL_far cyI cyB cyJ cyZ a0 a1 a2 a3 a4 a5 a6 b0_tape b0_kept b0_draftGround b0_draftLaw b0_grid b0_pack b0_pieces b0_thinning b1_law b1_marks b1_stroll b2_walls n6 g0_imageKept g0_wrongByte g1_drawSeed g2_wallCount g2_texts g2_ways f3 f4 f5 f6) [6]) (w1 := (ceX10_far cyI cyB cyJ cyZ a0 a1 a2 a3 a4 a5 b0_tape b0_kept b0_draftGround b0_draftLaw b0_grid b0_pack b0_pieces b0_thinning b1_law b1_marks b1_stroll b2_walls g0_imageKept g0_wrongByte g1_drawSeed g2_wallCount g2_texts g2_ways f3 f4 f5)) hP hD [0, 1, 2, 3, 4, 5] [6] rfl rfl (by decide) (by decide) hk1 hFc hP1 hD1
    have hP := hP.sub (ws' := (ceL_far cyI cyB cyJ cyZ a0 a1 a2 a3 a4 a5 a6 b0_tape b0_kept b0_draftGround b0_draftLaw b0_grid b0_pack b0_pieces b0_thinning b1_law b1_marks b1_stroll b2_walls n6 g0_imageKept g0_wrongByte g1_drawSeed g2_wallCount g2_texts g2_ways f3 f4 f5 f6)) [1, 2, 3, 4, 5, 6, 0] rfl
    have hD := hD.sub (ws' := (ceL_far cyI cyB cyJ cyZ a0 a1 a2 a3 a4 a5 a6 b0_tape b0_kept b0_draftGround b0_draftLaw b0_grid b0_pack b0_pieces b0_thinning b1_law b1_marks b1_stroll b2_walls n6 g0_imageKept g0_wrongByte g1_drawSeed g2_wallCount g2_texts g2_ways f3 f4 f5 f6)) [1, 2, 3, 4, 5, 6, 0] (by decide) rfl
    obtain ⟨hw0, hE⟩ := hw
    subst hE
    have hw := hw0 rfl
    refine ec_catch (name := "java/lang/IndexOutOfBoundsException") hown [] _ _ (htb.trans rfl) (fun z hz => by cases hz) (by decide) (by decide) (hts (.classLink RL 24 "java/lang/IndexOutOfBoundsException") (List.mem_of_getElem? (i := 1) rfl)) (va_Nw.use rfl (hXs.1.2.2.2 (.castable "java/lang/IndexOutOfBoundsException" "java/lang/IndexOutOfBoundsException") (by decide +kernel))) hce hcv hcl ?_
    refine W.eq (g2 := F0 m 17 ls [.ref q9]) rfl ?_
    refine lv_astore (lv' := [(6, .ref q9), (0, .ref a0), (1, .int p1), (2, .int p2), (3, .int p3), (4, .int p4), (5, .ref a6)]) hx hb dL_far_17 hl (by decide) rfl (fun ls hl => ?_)
    refine lv_iconst (v := 1) hx hb dL_far_19 (by decide) ?_
    rw [hQ]
    refine W.widen (k := 2) (n := 12) (by decide) (by decide) ?_
    exact W.iret (v := 1) hx hb hr (fun t ht hW => ⟨⟨1, (f6), rfl, hw, by rw [ht]; exact hP, va_K.moved hW.alike hK, hD⟩, hS.F ht⟩) hS.2.2 dL_far_20
  -- returned
  obtain ⟨hP1, hK1, hD1⟩ := hB
  rw [ht] at hP1
  obtain ⟨hP, hD⟩ := va_join (wr := pickW (ceL_far cyI cyB cyJ cyZ a0 a1 a2 a3 a4 a5 a6 b0_tape b0_kept b0_draftGround b0_draftLaw b0_grid b0_pack b0_pieces b0_thinning b1_law b1_marks b1_stroll b2_walls n6 g0_imageKept g0_wrongByte g1_drawSeed g2_wallCount g2_texts g2_ways f3 f4 f5 f6) [6]) (w1 := (ceX10_far cyI cyB cyJ cyZ a0 a1 a2 a3 a4 a5 b0_tape b0_kept b0_draftGround b0_draftLaw b0_grid b0_pack b0_pieces b0_thinning b1_law b1_marks b1_stroll b2_walls g0_imageKept g0_wrongByte g1_drawSeed g2_wallCount g2_texts g2_ways f3 f4 f5)) hP hD [0, 1, 2, 3, 4, 5] [6] rfl rfl (by decide) (by decide) hk1 hFc hP1 hD1
  have hP := hP.sub (ws' := (ceL_far cyI cyB cyJ cyZ a0 a1 a2 a3 a4 a5 a6 b0_tape b0_kept b0_draftGround b0_draftLaw b0_grid b0_pack b0_pieces b0_thinning b1_law b1_marks b1_stroll b2_walls n6 g0_imageKept g0_wrongByte g1_drawSeed g2_wallCount g2_texts g2_ways f3 f4 f5 f6)) [1, 2, 3, 4, 5, 6, 0] rfl
  have hD := hD.sub (ws' := (ceL_far cyI cyB cyJ cyZ a0 a1 a2 a3 a4 a5 a6 b0_tape b0_kept b0_draftGround b0_draftLaw b0_grid b0_pack b0_pieces b0_thinning b1_law b1_marks b1_stroll b2_walls n6 g0_imageKept g0_wrongByte g1_drawSeed g2_wallCount g2_texts g2_ways f3 f4 f5 f6)) [1, 2, 3, 4, 5, 6, 0] (by decide) rfl
  generalize H1 = H at hP hS ⊢
  refine W.widen (k := 2) (n := 12) (by decide) (by decide) ?_
  refine lv_i2l hx hb dL_far_12 rfl ?_
  obtain ⟨hi, hw⟩ := hw
  refine va_last hx hb hK hP hD hS 6 2 rfl rfl hi dL_far_13 (fun H locs hP hD hS => ?_)
  have hP : va_P (dC, dI) vwCl (ceL_far cyI cyB cyJ cyZ a0 a1 a2 a3 a4 a5 a6 b0_tape b0_kept b0_draftGround b0_draftLaw b0_grid b0_pack b0_pieces b0_thinning b1_law b1_marks b1_stroll b2_walls n6 g0_imageKept g0_wrongByte g1_drawSeed g2_wallCount g2_texts g2_ways f3 f4 f5 (vp_updL f6 (0 : Int32).toNatClampNeg (r2.toInt64))) H := hP
  have hD : va_D A (ceL_far cyI cyB cyJ cyZ a0 a1 a2 a3 a4 a5 a6 b0_tape b0_kept b0_draftGround b0_draftLaw b0_grid b0_pack b0_pieces b0_thinning b1_law b1_marks b1_stroll b2_walls n6 g0_imageKept g0_wrongByte g1_drawSeed g2_wallCount g2_texts g2_ways f3 f4 f5 (vp_updL f6 (0 : Int32).toNatClampNeg (r2.toInt64))) := hD
  refine lv_goto (tgt := 21) hx hb dL_far_14 (by decide) ?_
  refine lv_iconst (v := 0) hx hb dL_far_21 (by decide) ?_
  rw [hQ]
  refine W.widen (k := 2) (n := 12) (by decide) (by decide) ?_
  exact W.iret (v := 0) hx hb hr (fun t ht hW => ⟨⟨0, ((vp_updL f6 (0 : Int32).toNatClampNeg (r2.toInt64))), rfl, hw, by rw [ht]; exact hP, va_K.moved hW.alike hK, hD⟩, hS.F ht⟩) hS.2.2 dL_far_22
/-! LeadParkLaw.shut (LLeadPark;IIII[J)I -/
abbrev ceL_shut (cyI cyB cyJ cyZ : ClassId) (a0 a1 a2 a3 a4 a5 a6 a7 a8 a9 a10 b0_tape b0_kept b0_draftGround b0_draftLaw b0_grid b0_pack b0_pieces b0_thinning b1_marks b1_stroll n10 : Nat) (g0_imageKept : Int32) (g0_wrongByte : Int32) (g1_drawSeed : Int32) (g2_texts : Int32) (g7_lines : Int32) (g2_ways : Int32) (g2_wallCount : Int32) (f3 : Nat → Int32) (f4 : Nat → Int32) (f5 : Nat → Int32) (f6 : Nat → Int32) (g7_size : Int32) (f9 : Nat → Int32) (f8 : Nat → Int32) (f10 : Nat → Int64) : va_W := [(a0, .inr (10, [.ref b0_tape, .ref a1, .ref b0_kept, .ref b0_draftGround, .ref b0_draftLaw, .ref b0_grid, .ref b0_pack, .ref b0_pieces, .ref b0_thinning, .int g0_imageKept, .int g0_wrongByte])), (a1, .inr (6, [.ref a2, .ref a7, .ref b1_marks, .ref b1_stroll, .int g1_drawSeed])), (a2, .inr (1, [.ref a4, .ref a5, .ref a3, .ref a6, .int g2_ways, .int g2_wallCount, .int g2_texts])), (a3, .inl (cyI, 12, .inl f3)), (a4, .inl (cyI, 360, .inl f4)), (a5, .inl (cyI, 360, .inl f5)), (a6, .inl (cyI, 32, .inl f6)), (a7, .inr (2, [.ref a9, .ref a8, .int g7_size, .int g7_lines])), (a8, .inl (cyI, 7, .inl f8)), (a9, .inl (cyI, 400, .inl f9)), (a10, .inl (cyJ, n10, .inr (.inl f10)))]

abbrev rmL_shut : Room := { frames := 8, cells := 2, slots := 12, locals := 152 }
def wpL_shut (n10 : Nat) (post : Int32 → ((Nat → Int32) × (Nat → Int64)) → Prop) (g2_ways : Int32) (g2_wallCount : Int32) (f3 : Nat → Int32) (f4 : Nat → Int32) (f5 : Nat → Int32) (f6 : Nat → Int32) (g7_size : Int32) (f9 : Nat → Int32) (f8 : Nat → Int32) (f10 : Nat → Int64) (p1 : Int32) (p2 : Int32) (p3 : Int32) (p4 : Int32) : Prop :=
  wpX10_shut (fun (r2 : Int32) (u1 : (Nat → Int32)) =>
   (r2 = 0 →
    vp_in 0 n10 ∧
    post 0 (u1, (vp_updL f10 (0 : Int32).toNatClampNeg 0))) ∧
   (¬ r2 = 0 →
    vp_in 0 n10 ∧
    post 0 (u1, (vp_updL f10 (0 : Int32).toNatClampNeg 1)))) (fun (E : String) (u1 : (Nat → Int32)) =>
   (E = "java/lang/IndexOutOfBoundsException" →
    post 1 (u1, f10)) ∧ (E = "java/lang/IndexOutOfBoundsException")) g2_ways g2_wallCount f3 f4 f5 f6 g7_size f9 f8 p1 p2 p3 p4
set_option maxRecDepth 100000 in
set_option maxHeartbeats 4000000 in
theorem ctL_shut (l : Launch) (hl0 : l.stackTraces = false) (dC : Nat → ClassId) (dI : Nat → Nat → Nat) (cyI cyB cyJ cyZ : ClassId) (sz : Nat) (a0 a1 a2 a3 a4 a5 a6 a7 a8 a9 a10 b0_tape b0_kept b0_draftGround b0_draftLaw b0_grid b0_pack b0_pieces b0_thinning b1_marks b1_stroll n10 : Nat) (g0_imageKept : Int32) (g0_wrongByte : Int32) (g1_drawSeed : Int32) (g2_texts : Int32) (g7_lines : Int32) (g2_ways : Int32) (g2_wallCount : Int32) (f3 : Nat → Int32) (f4 : Nat → Int32) (f5 : Nat → Int32) (f6 : Nat → Int32) (g7_size : Int32) (f9 : Nat → Int32) (f8 : Nat → Int32) (f10 : Nat → Int64) (p1 : Int32) (p2 : Int32) (p3 : Int32) (p4 : Int32) (post : Int32 → ((Nat → Int32) × (Nat → Int64)) → Prop) (adS : Nat → Nat) (hw : wpL_shut n10 post g2_ways g2_wallCount f3 f4 f5 f6 g7_size f9 f8 f10 p1 p2 p3 p4) : Met l yL_shut wsL_shut rmL_shut (va_Pc [.ref a0, .int p1, .int p2, .int p3, .int p4, .ref a10] (wPreX dC dI cyI cyB cyJ cyZ sz (ceL_shut cyI cyB cyJ cyZ a0 a1 a2 a3 a4 a5 a6 a7 a8 a9 a10 b0_tape b0_kept b0_draftGround b0_draftLaw b0_grid b0_pack b0_pieces b0_thinning b1_marks b1_stroll n10 g0_imageKept g0_wrongByte g1_drawSeed g2_texts g7_lines g2_ways g2_wallCount f3 f4 f5 f6 g7_size f9 f8 f10) (txL adS))) (va_Qi post (fun u : (Nat → Int32) × (Nat → Int64) => wAt dC dI cyI cyB cyJ cyZ (va_A (ceL_shut cyI cyB cyJ cyZ a0 a1 a2 a3 a4 a5 a6 a7 a8 a9 a10 b0_tape b0_kept b0_draftGround b0_draftLaw b0_grid b0_pack b0_pieces b0_thinning b1_marks b1_stroll n10 g0_imageKept g0_wrongByte g1_drawSeed g2_texts g7_lines g2_ways g2_wallCount f3 f4 f5 f6 g7_size f9 f8 f10) sz) (ceL_shut cyI cyB cyJ cyZ a0 a1 a2 a3 a4 a5 a6 a7 a8 a9 a10 b0_tape b0_kept b0_draftGround b0_draftLaw b0_grid b0_pack b0_pieces b0_thinning b1_marks b1_stroll n10 g0_imageKept g0_wrongByte g1_drawSeed g2_texts g7_lines g2_ways g2_wallCount f3 f4 f5 f6 g7_size f9 u.1 u.2)) (va_A (ceL_shut cyI cyB cyJ cyZ a0 a1 a2 a3 a4 a5 a6 a7 a8 a9 a10 b0_tape b0_kept b0_draftGround b0_draftLaw b0_grid b0_pack b0_pieces b0_thinning b1_marks b1_stroll n10 g0_imageKept g0_wrongByte g1_drawSeed g2_texts g7_lines g2_ways g2_wallCount f3 f4 f5 f6 g7_size f9 f8 f10) sz)) 2 12 (va_A (ceL_shut cyI cyB cyJ cyZ a0 a1 a2 a3 a4 a5 a6 a7 a8 a9 a10 b0_tape b0_kept b0_draftGround b0_draftLaw b0_grid b0_pack b0_pieces b0_thinning b1_marks b1_stroll n10 g0_imageKept g0_wrongByte g1_drawSeed g2_texts g7_lines g2_ways g2_wallCount f3 f4 f5 f6 g7_size f9 f8 f10) sz) := by
  refine mt_ofWH (cc := cL_shut) (maxL := 7) (ret := (some .int)) (by decide) rfl ?_
  intro p e s m args below meth c s₁ B hml hv
  obtain ⟨rfl, ⟨hsz, hP, hK, hD0, hN⟩, hXs⟩ := hv
  have hx := B.exec
  have hb := B.bytes
  have hr := B.returns
  have hts := atoms_spec (ws := wsL_shut) B.pre
  have hown : s.vm.findClass RL = some m.cls := findClass_of_methodNamed B.named
  have hlocks := B.notSynchronized
  have htb := vx_table (x := yL_shut) B (hts _ (List.mem_of_getElem? (i := 0) rfl))
  subst hsz
  have hD := hD0.self (sz := s.heap.size)
  generalize hAe : va_A (ceL_shut cyI cyB cyJ cyZ a0 a1 a2 a3 a4 a5 a6 a7 a8 a9 a10 b0_tape b0_kept b0_draftGround b0_draftLaw b0_grid b0_pack b0_pieces b0_thinning b1_marks b1_stroll n10 g0_imageKept g0_wrongByte g1_drawSeed g2_texts g7_lines g2_ways g2_wallCount f3 f4 f5 f6 g7_size f9 f8 f10) s.heap.size = A at hD hXs ⊢
  have hA : ∀ q : Nat, s.heap.size ≤ q → A q := fun q h => by rw [← hAe]; exact Or.inr h
  have hS : va_S A s.heap s.heap [] := va_S.rf
  have C0 : cxM p s m meth c _ wsL_shut RL cL_shut 7 (some .int) := ⟨hx, hb, hr, hml, hown, hts, hlocks⟩
  have hl := lv_entry ([.ref a0, .int p1, .int p2, .int p3, .int p4, .ref a10]) (n := 7) (Nat.le_of_ble_eq_true rfl)
  rw [lg_entry_eq]
  generalize (lg_sl ([.ref a0, .int p1, .int p2, .int p3, .int p4, .ref a10]) ++ List.replicate (7 - (lg_sl ([.ref a0, .int p1, .int p2, .int p3, .int p4, .ref a10])).length) Slot.unset).toArray = ls at hl ⊢
  have hl : lv_has ls 7 [(0, .ref a0), (1, .int p1), (2, .int p2), (3, .int p3), (4, .int p4), (5, .ref a10)] := hl
  show W p l e rmL_shut s m _ below meth c _ _ _ _ _ _
  refine wq (fun Q hQ => ?_)
  refine lv_aload hx hb dL_shut_0 (lv_at hl 5 rfl) ?_
  refine lv_iconst (v := 0) hx hb dL_shut_2 (by decide) ?_
  refine lv_aload_n hx hb dL_shut_3 rfl (lv_at hl 0 rfl) ?_
  refine lv_iload_n hx hb dL_shut_4 rfl (lv_at hl 1 rfl) ?_
  refine lv_iload_n hx hb dL_shut_5 rfl (lv_at hl 2 rfl) ?_
  refine lv_iload_n hx hb dL_shut_6 rfl (lv_at hl 3 rfl) ?_
  refine lv_iload hx hb dL_shut_7 (lv_at hl 4 rfl) ?_
  have hPc := hP.sub (ws' := (ceX10_shut cyI cyB cyJ cyZ a0 a1 a2 a3 a4 a5 a6 a7 a8 a9 b0_tape b0_kept b0_draftGround b0_draftLaw b0_grid b0_pack b0_pieces b0_thinning b1_marks b1_stroll g0_imageKept g0_wrongByte g1_drawSeed g2_texts g7_lines g2_ways g2_wallCount f3 f4 f5 f6 g7_size f9 f8)) [0, 1, 2, 3, 4, 5, 6, 7, 8, 9] rfl
  have hDc := hD.sub (ws' := (ceX10_shut cyI cyB cyJ cyZ a0 a1 a2 a3 a4 a5 a6 a7 a8 a9 b0_tape b0_kept b0_draftGround b0_draftLaw b0_grid b0_pack b0_pieces b0_thinning b1_marks b1_stroll g0_imageKept g0_wrongByte g1_drawSeed g2_texts g7_lines g2_ways g2_wallCount f3 f4 f5 f6 g7_size f9 f8)) [0, 1, 2, 3, 4, 5, 6, 7, 8, 9] (by decide) rfl
  have hFc := va_free (wc := (ceX10_shut cyI cyB cyJ cyZ a0 a1 a2 a3 a4 a5 a6 a7 a8 a9 b0_tape b0_kept b0_draftGround b0_draftLaw b0_grid b0_pack b0_pieces b0_thinning b1_marks b1_stroll g0_imageKept g0_wrongByte g1_drawSeed g2_texts g7_lines g2_ways g2_wallCount f3 f4 f5 f6 g7_size f9 f8)) hD hS hA [0, 1, 2, 3, 4, 5, 6, 7, 8, 9] rfl
  refine vx_calli (vx_runV (As := [.int p1, .int p2, .int p3, .int p4]) (rest := [.int 0, .ref a10]) ⟨hx, hb, hml, hown, hts⟩ (ctX10_shut l hl0 dC dI cyI cyB cyJ cyZ _ a0 a1 a2 a3 a4 a5 a6 a7 a8 a9 b0_tape b0_kept b0_draftGround b0_draftLaw b0_grid b0_pack b0_pieces b0_thinning b1_marks b1_stroll g0_imageKept g0_wrongByte g1_drawSeed g2_texts g7_lines g2_ways g2_wallCount f3 f4 f5 f6 g7_size f9 f8 p1 p2 p3 p4 _ _ adS hw) (cwV 4 hts gL_shut_X10_shut rfl rfl rfl (by decide +kernel) ⟨Nat.le_of_ble_eq_true rfl, Nat.le_of_ble_eq_true rfl⟩) ⟨wPreX_blind (xOk_txT adS), va_recv hK hPc (ci := 10) (q0 := 0) rfl rfl, fun U hU hW => wPreX_of (xOk_txT adS) hPc hK hDc hN hXs.1 hS hFc hU hW⟩ rfl rfl hl.1 rfl (lv_room (Nat.le_of_ble_eq_true rfl)) dL_shut_9 ⟨(by decide), (by decide)⟩) hS (fun q _ h => hFc q h) hFc (fun q _ h => hFc q h) (fun E ce q9 u1 t H1 locs ht hvm hpx hBX hz1 hk1 hS hce hcv hcl => ?_) (fun r2 u1 t H1 locs ht hvm hw hB hz1 hk1 hS => ?_)
  · obtain ⟨hw, hP1, hK1, hD1⟩ := hBX
    rw [ht] at hP1
    obtain ⟨hP, hD⟩ := va_join (wr := pickW (ceL_shut cyI cyB cyJ cyZ a0 a1 a2 a3 a4 a5 a6 a7 a8 a9 a10 b0_tape b0_kept b0_draftGround b0_draftLaw b0_grid b0_pack b0_pieces b0_thinning b1_marks b1_stroll n10 g0_imageKept g0_wrongByte g1_drawSeed g2_texts g7_lines g2_ways g2_wallCount f3 f4 f5 f6 g7_size f9 f8 f10) [10]) (w1 := (ceX10_shut cyI cyB cyJ cyZ a0 a1 a2 a3 a4 a5 a6 a7 a8 a9 b0_tape b0_kept b0_draftGround b0_draftLaw b0_grid b0_pack b0_pieces b0_thinning b1_marks b1_stroll g0_imageKept g0_wrongByte g1_drawSeed g2_texts g7_lines g2_ways g2_wallCount f3 f4 f5 f6 g7_size f9 u1)) hP hD [0, 1, 2, 3, 4, 5, 6, 7, 8, 9] [10] rfl rfl (by decide) (by decide) hk1 hFc hP1 hD1
    have hP := hP.sub (ws' := (ceL_shut cyI cyB cyJ cyZ a0 a1 a2 a3 a4 a5 a6 a7 a8 a9 a10 b0_tape b0_kept b0_draftGround b0_draftLaw b0_grid b0_pack b0_pieces b0_thinning b1_marks b1_stroll n10 g0_imageKept g0_wrongByte g1_drawSeed g2_texts g7_lines g2_ways g2_wallCount f3 f4 f5 f6 g7_size f9 u1 f10)) [1, 2, 3, 4, 5, 6, 7, 8, 9, 10, 0] rfl
    have hD := hD.sub (ws' := (ceL_shut cyI cyB cyJ cyZ a0 a1 a2 a3 a4 a5 a6 a7 a8 a9 a10 b0_tape b0_kept b0_draftGround b0_draftLaw b0_grid b0_pack b0_pieces b0_thinning b1_marks b1_stroll n10 g0_imageKept g0_wrongByte g1_drawSeed g2_texts g7_lines g2_ways g2_wallCount f3 f4 f5 f6 g7_size f9 u1 f10)) [1, 2, 3, 4, 5, 6, 7, 8, 9, 10, 0] (by decide) rfl
    obtain ⟨hw0, hE⟩ := hw
    subst hE
    have hw := hw0 rfl
    refine ec_catch (name := "java/lang/IndexOutOfBoundsException") hown [] _ _ (htb.trans rfl) (fun z hz => by cases hz) (by decide) (by decide) (hts (.classLink RL 24 "java/lang/IndexOutOfBoundsException") (List.mem_of_getElem? (i := 1) rfl)) (va_Nw.use rfl (hXs.1.2.2.2 (.castable "java/lang/IndexOutOfBoundsException" "java/lang/IndexOutOfBoundsException") (by decide +kernel))) hce hcv hcl ?_
    refine W.eq (g2 := F0 m 24 ls [.ref q9]) rfl ?_
    refine lv_astore (lv' := [(6, .ref q9), (0, .ref a0), (1, .int p1), (2, .int p2), (3, .int p3), (4, .int p4), (5, .ref a10)]) hx hb dL_shut_24 hl (by decide) rfl (fun ls hl => ?_)
    refine lv_iconst (v := 1) hx hb dL_shut_26 (by decide) ?_
    rw [hQ]
    refine W.widen (k := 2) (n := 12) (by decide) (by decide) ?_
    exact W.iret (v := 1) hx hb hr (fun t ht hW => ⟨⟨1, (u1, f10), rfl, hw, by rw [ht]; exact hP, va_K.moved hW.alike hK, hD⟩, hS.F ht⟩) hS.2.2 dL_shut_27
  -- returned
  obtain ⟨hP1, hK1, hD1⟩ := hB
  rw [ht] at hP1
  obtain ⟨hP, hD⟩ := va_join (wr := pickW (ceL_shut cyI cyB cyJ cyZ a0 a1 a2 a3 a4 a5 a6 a7 a8 a9 a10 b0_tape b0_kept b0_draftGround b0_draftLaw b0_grid b0_pack b0_pieces b0_thinning b1_marks b1_stroll n10 g0_imageKept g0_wrongByte g1_drawSeed g2_texts g7_lines g2_ways g2_wallCount f3 f4 f5 f6 g7_size f9 f8 f10) [10]) (w1 := (ceX10_shut cyI cyB cyJ cyZ a0 a1 a2 a3 a4 a5 a6 a7 a8 a9 b0_tape b0_kept b0_draftGround b0_draftLaw b0_grid b0_pack b0_pieces b0_thinning b1_marks b1_stroll g0_imageKept g0_wrongByte g1_drawSeed g2_texts g7_lines g2_ways g2_wallCount f3 f4 f5 f6 g7_size f9 u1)) hP hD [0, 1, 2, 3, 4, 5, 6, 7, 8, 9] [10] rfl rfl (by decide) (by decide) hk1 hFc hP1 hD1
  have hP := hP.sub (ws' := (ceL_shut cyI cyB cyJ cyZ a0 a1 a2 a3 a4 a5 a6 a7 a8 a9 a10 b0_tape b0_kept b0_draftGround b0_draftLaw b0_grid b0_pack b0_pieces b0_thinning b1_marks b1_stroll n10 g0_imageKept g0_wrongByte g1_drawSeed g2_texts g7_lines g2_ways g2_wallCount f3 f4 f5 f6 g7_size f9 u1 f10)) [1, 2, 3, 4, 5, 6, 7, 8, 9, 10, 0] rfl
  have hD := hD.sub (ws' := (ceL_shut cyI cyB cyJ cyZ a0 a1 a2 a3 a4 a5 a6 a7 a8 a9 a10 b0_tape b0_kept b0_draftGround b0_draftLaw b0_grid b0_pack b0_pieces b0_thinning b1_marks b1_stroll n10 g0_imageKept g0_wrongByte g1_drawSeed g2_texts g7_lines g2_ways g2_wallCount f3 f4 f5 f6 g7_size f9 u1 f10)) [1, 2, 3, 4, 5, 6, 7, 8, 9, 10, 0] (by decide) rfl
  generalize H1 = H at hP hS ⊢
  refine W.widen (k := 2) (n := 12) (by decide) (by decide) ?_
  refine lv_if_eq (tgt := 19) hx hb dL_shut_12 (by decide) (fun hc => ?_) (fun hc => ?_)
  · have hw := hw.1 hc
    refine lv_lconst (v := 0) hx hb dL_shut_19 (by decide) ?_
    obtain ⟨hi, hw⟩ := hw
    refine va_last hx hb hK hP hD hS 10 2 rfl rfl hi dL_shut_20 (fun H locs hP hD hS => ?_)
    have hP : va_P (dC, dI) vwCl (ceL_shut cyI cyB cyJ cyZ a0 a1 a2 a3 a4 a5 a6 a7 a8 a9 a10 b0_tape b0_kept b0_draftGround b0_draftLaw b0_grid b0_pack b0_pieces b0_thinning b1_marks b1_stroll n10 g0_imageKept g0_wrongByte g1_drawSeed g2_texts g7_lines g2_ways g2_wallCount f3 f4 f5 f6 g7_size f9 u1 (vp_updL f10 (0 : Int32).toNatClampNeg 0)) H := hP
    have hD : va_D A (ceL_shut cyI cyB cyJ cyZ a0 a1 a2 a3 a4 a5 a6 a7 a8 a9 a10 b0_tape b0_kept b0_draftGround b0_draftLaw b0_grid b0_pack b0_pieces b0_thinning b1_marks b1_stroll n10 g0_imageKept g0_wrongByte g1_drawSeed g2_texts g7_lines g2_ways g2_wallCount f3 f4 f5 f6 g7_size f9 u1 (vp_updL f10 (0 : Int32).toNatClampNeg 0)) := hD
    refine lv_goto (tgt := 28) hx hb dL_shut_21 (by decide) ?_
    refine lv_iconst (v := 0) hx hb dL_shut_28 (by decide) ?_
    rw [hQ]
    refine W.widen (k := 2) (n := 12) (by decide) (by decide) ?_
    exact W.iret (v := 0) hx hb hr (fun t ht hW => ⟨⟨0, (u1, (vp_updL f10 (0 : Int32).toNatClampNeg 0)), rfl, hw, by rw [ht]; exact hP, va_K.moved hW.alike hK, hD⟩, hS.F ht⟩) hS.2.2 dL_shut_29
  · have hw := hw.2 hc
    refine lv_lconst (v := 1) hx hb dL_shut_15 (by decide) ?_
    refine lv_goto (tgt := 20) hx hb dL_shut_16 (by decide) ?_
    obtain ⟨hi, hw⟩ := hw
    refine va_last hx hb hK hP hD hS 10 2 rfl rfl hi dL_shut_20 (fun H locs hP hD hS => ?_)
    have hP : va_P (dC, dI) vwCl (ceL_shut cyI cyB cyJ cyZ a0 a1 a2 a3 a4 a5 a6 a7 a8 a9 a10 b0_tape b0_kept b0_draftGround b0_draftLaw b0_grid b0_pack b0_pieces b0_thinning b1_marks b1_stroll n10 g0_imageKept g0_wrongByte g1_drawSeed g2_texts g7_lines g2_ways g2_wallCount f3 f4 f5 f6 g7_size f9 u1 (vp_updL f10 (0 : Int32).toNatClampNeg 1)) H := hP
    have hD : va_D A (ceL_shut cyI cyB cyJ cyZ a0 a1 a2 a3 a4 a5 a6 a7 a8 a9 a10 b0_tape b0_kept b0_draftGround b0_draftLaw b0_grid b0_pack b0_pieces b0_thinning b1_marks b1_stroll n10 g0_imageKept g0_wrongByte g1_drawSeed g2_texts g7_lines g2_ways g2_wallCount f3 f4 f5 f6 g7_size f9 u1 (vp_updL f10 (0 : Int32).toNatClampNeg 1)) := hD
    refine lv_goto (tgt := 28) hx hb dL_shut_21 (by decide) ?_
    refine lv_iconst (v := 0) hx hb dL_shut_28 (by decide) ?_
    rw [hQ]
    refine W.widen (k := 2) (n := 12) (by decide) (by decide) ?_
    exact W.iret (v := 0) hx hb hr (fun t ht hW => ⟨⟨0, (u1, (vp_updL f10 (0 : Int32).toNatClampNeg 1)), rfl, hw, by rw [ht]; exact hP, va_K.moved hW.alike hK, hD⟩, hS.F ht⟩) hS.2.2 dL_shut_29
/-! LeadParkLaw.least (LLeadPark;II[J)I -/
abbrev ceL_least (cyI cyB cyJ cyZ : ClassId) (a0 a1 a2 a3 a4 a5 a6 a7 a8 a9 a10 a11 a12 a13 b0_tape b0_kept b0_draftGround b0_draftLaw b0_pack b0_pieces b0_thinning b1_marks b1_stroll n13 : Nat) (g0_imageKept : Int32) (g0_wrongByte : Int32) (g1_drawSeed : Int32) (g2_texts : Int32) (g7_lines : Int32) (g2_ways : Int32) (g2_wallCount : Int32) (f3 : Nat → Int32) (f4 : Nat → Int32) (f5 : Nat → Int32) (f6 : Nat → Int32) (g7_size : Int32) (f9 : Nat → Int32) (f8 : Nat → Int32) (g10_rows : Int32) (g10_columns : Int32) (f11 : Nat → Int32) (f12 : Nat → Int32) (f13 : Nat → Int64) : va_W := [(a0, .inr (10, [.ref b0_tape, .ref a1, .ref b0_kept, .ref b0_draftGround, .ref b0_draftLaw, .ref a10, .ref b0_pack, .ref b0_pieces, .ref b0_thinning, .int g0_imageKept, .int g0_wrongByte])), (a1, .inr (6, [.ref a2, .ref a7, .ref b1_marks, .ref b1_stroll, .int g1_drawSeed])), (a2, .inr (1, [.ref a4, .ref a5, .ref a3, .ref a6, .int g2_ways, .int g2_wallCount, .int g2_texts])), (a3, .inl (cyI, 12, .inl f3)), (a4, .inl (cyI, 360, .inl f4)), (a5, .inl (cyI, 360, .inl f5)), (a6, .inl (cyI, 32, .inl f6)), (a7, .inr (2, [.ref a9, .ref a8, .int g7_size, .int g7_lines])), (a8, .inl (cyI, 7, .inl f8)), (a9, .inl (cyI, 400, .inl f9)), (a10, .inr (0, [.ref a11, .ref a12, .int g10_rows, .int g10_columns])), (a11, .inl (cyI, 1089, .inl f11)), (a12, .inl (cyI, 1089, .inl f12)), (a13, .inl (cyJ, n13, .inr (.inl f13)))]

abbrev rmL_least : Room := { frames := 8, cells := 2, slots := 12, locals := 197 }
def wpL_least (n13 : Nat) (post : Int32 → ((Nat → Int32) × Int32 × Int32 × (Nat → Int32) × (Nat → Int32) × (Nat → Int64)) → Prop) (g2_ways : Int32) (g2_wallCount : Int32) (f3 : Nat → Int32) (f4 : Nat → Int32) (f5 : Nat → Int32) (f6 : Nat → Int32) (g7_size : Int32) (f9 : Nat → Int32) (f8 : Nat → Int32) (g10_rows : Int32) (g10_columns : Int32) (f11 : Nat → Int32) (f12 : Nat → Int32) (f13 : Nat → Int64) (p1 : Int32) (p2 : Int32) : Prop :=
  wpX10_least (fun (r2 : Int32) (u1 : (Nat → Int32) × Int32 × Int32 × (Nat → Int32) × (Nat → Int32)) =>
   vp_in 0 n13 ∧
   post 0 (u1.1, u1.2.1, u1.2.2.1, u1.2.2.2.1, u1.2.2.2.2, (vp_updL f13 (0 : Int32).toNatClampNeg (r2.toInt64)))) (fun (E : String) (u1 : (Nat → Int32) × Int32 × Int32 × (Nat → Int32) × (Nat → Int32)) =>
   (E = "java/lang/IndexOutOfBoundsException" →
    post 1 (u1.1, u1.2.1, u1.2.2.1, u1.2.2.2.1, u1.2.2.2.2, f13)) ∧ (E = "java/lang/IndexOutOfBoundsException")) g2_ways g2_wallCount f3 f4 f5 f6 g7_size f9 f8 g10_rows g10_columns f11 f12 p1 p2
set_option maxRecDepth 100000 in
set_option maxHeartbeats 4000000 in
theorem ctL_least (l : Launch) (hl0 : l.stackTraces = false) (dC : Nat → ClassId) (dI : Nat → Nat → Nat) (cyI cyB cyJ cyZ : ClassId) (sz : Nat) (a0 a1 a2 a3 a4 a5 a6 a7 a8 a9 a10 a11 a12 a13 b0_tape b0_kept b0_draftGround b0_draftLaw b0_pack b0_pieces b0_thinning b1_marks b1_stroll n13 : Nat) (g0_imageKept : Int32) (g0_wrongByte : Int32) (g1_drawSeed : Int32) (g2_texts : Int32) (g7_lines : Int32) (g2_ways : Int32) (g2_wallCount : Int32) (f3 : Nat → Int32) (f4 : Nat → Int32) (f5 : Nat → Int32) (f6 : Nat → Int32) (g7_size : Int32) (f9 : Nat → Int32) (f8 : Nat → Int32) (g10_rows : Int32) (g10_columns : Int32) (f11 : Nat → Int32) (f12 : Nat → Int32) (f13 : Nat → Int64) (p1 : Int32) (p2 : Int32) (post : Int32 → ((Nat → Int32) × Int32 × Int32 × (Nat → Int32) × (Nat → Int32) × (Nat → Int64)) → Prop) (adS : Nat → Nat) (hw : wpL_least n13 post g2_ways g2_wallCount f3 f4 f5 f6 g7_size f9 f8 g10_rows g10_columns f11 f12 f13 p1 p2) : Met l yL_least wsL_least rmL_least (va_Pc [.ref a0, .int p1, .int p2, .ref a13] (wPreX dC dI cyI cyB cyJ cyZ sz (ceL_least cyI cyB cyJ cyZ a0 a1 a2 a3 a4 a5 a6 a7 a8 a9 a10 a11 a12 a13 b0_tape b0_kept b0_draftGround b0_draftLaw b0_pack b0_pieces b0_thinning b1_marks b1_stroll n13 g0_imageKept g0_wrongByte g1_drawSeed g2_texts g7_lines g2_ways g2_wallCount f3 f4 f5 f6 g7_size f9 f8 g10_rows g10_columns f11 f12 f13) (txL adS))) (va_Qi post (fun u : (Nat → Int32) × Int32 × Int32 × (Nat → Int32) × (Nat → Int32) × (Nat → Int64) => wAt dC dI cyI cyB cyJ cyZ (va_A (ceL_least cyI cyB cyJ cyZ a0 a1 a2 a3 a4 a5 a6 a7 a8 a9 a10 a11 a12 a13 b0_tape b0_kept b0_draftGround b0_draftLaw b0_pack b0_pieces b0_thinning b1_marks b1_stroll n13 g0_imageKept g0_wrongByte g1_drawSeed g2_texts g7_lines g2_ways g2_wallCount f3 f4 f5 f6 g7_size f9 f8 g10_rows g10_columns f11 f12 f13) sz) (ceL_least cyI cyB cyJ cyZ a0 a1 a2 a3 a4 a5 a6 a7 a8 a9 a10 a11 a12 a13 b0_tape b0_kept b0_draftGround b0_draftLaw b0_pack b0_pieces b0_thinning b1_marks b1_stroll n13 g0_imageKept g0_wrongByte g1_drawSeed g2_texts g7_lines g2_ways g2_wallCount f3 f4 f5 f6 g7_size f9 u.1 u.2.1 u.2.2.1 u.2.2.2.1 u.2.2.2.2.1 u.2.2.2.2.2)) (va_A (ceL_least cyI cyB cyJ cyZ a0 a1 a2 a3 a4 a5 a6 a7 a8 a9 a10 a11 a12 a13 b0_tape b0_kept b0_draftGround b0_draftLaw b0_pack b0_pieces b0_thinning b1_marks b1_stroll n13 g0_imageKept g0_wrongByte g1_drawSeed g2_texts g7_lines g2_ways g2_wallCount f3 f4 f5 f6 g7_size f9 f8 g10_rows g10_columns f11 f12 f13) sz)) 2 12 (va_A (ceL_least cyI cyB cyJ cyZ a0 a1 a2 a3 a4 a5 a6 a7 a8 a9 a10 a11 a12 a13 b0_tape b0_kept b0_draftGround b0_draftLaw b0_pack b0_pieces b0_thinning b1_marks b1_stroll n13 g0_imageKept g0_wrongByte g1_drawSeed g2_texts g7_lines g2_ways g2_wallCount f3 f4 f5 f6 g7_size f9 f8 g10_rows g10_columns f11 f12 f13) sz) := by
  refine mt_ofWH (cc := cL_least) (maxL := 5) (ret := (some .int)) (by decide) rfl ?_
  intro p e s m args below meth c s₁ B hml hv
  obtain ⟨rfl, ⟨hsz, hP, hK, hD0, hN⟩, hXs⟩ := hv
  have hx := B.exec
  have hb := B.bytes
  have hr := B.returns
  have hts := atoms_spec (ws := wsL_least) B.pre
  have hown : s.vm.findClass RL = some m.cls := findClass_of_methodNamed B.named
  have hlocks := B.notSynchronized
  have htb := vx_table (x := yL_least) B (hts _ (List.mem_of_getElem? (i := 0) rfl))
  subst hsz
  have hD := hD0.self (sz := s.heap.size)
  generalize hAe : va_A (ceL_least cyI cyB cyJ cyZ a0 a1 a2 a3 a4 a5 a6 a7 a8 a9 a10 a11 a12 a13 b0_tape b0_kept b0_draftGround b0_draftLaw b0_pack b0_pieces b0_thinning b1_marks b1_stroll n13 g0_imageKept g0_wrongByte g1_drawSeed g2_texts g7_lines g2_ways g2_wallCount f3 f4 f5 f6 g7_size f9 f8 g10_rows g10_columns f11 f12 f13) s.heap.size = A at hD hXs ⊢
  have hA : ∀ q : Nat, s.heap.size ≤ q → A q := fun q h => by rw [← hAe]; exact Or.inr h
  have hS : va_S A s.heap s.heap [] := va_S.rf
  have C0 : cxM p s m meth c _ wsL_least RL cL_least 5 (some .int) := ⟨hx, hb, hr, hml, hown, hts, hlocks⟩
  have hl := lv_entry ([.ref a0, .int p1, .int p2, .ref a13]) (n := 5) (Nat.le_of_ble_eq_true rfl)
  rw [lg_entry_eq]
  generalize (lg_sl ([.ref a0, .int p1, .int p2, .ref a13]) ++ List.replicate (5 - (lg_sl ([.ref a0, .int p1, .int p2, .ref a13])).length) Slot.unset).toArray = ls at hl ⊢
  have hl : lv_has ls 5 [(0, .ref a0), (1, .int p1), (2, .int p2), (3, .ref a13)] := hl
  show W p l e rmL_least s m _ below meth c _ _ _ _ _ _
  refine wq (fun Q hQ => ?_)
  refine lv_aload_n hx hb dL_least_0 rfl (lv_at hl 3 rfl) ?_
  refine lv_iconst (v := 0) hx hb dL_least_1 (by decide) ?_
  refine lv_aload_n hx hb dL_least_2 rfl (lv_at hl 0 rfl) ?_
  refine lv_iload_n hx hb dL_least_3 rfl (lv_at hl 1 rfl) ?_
  refine lv_iload_n hx hb dL_least_4 rfl (lv_at hl 2 rfl) ?_
  have hPc := hP.sub (ws' := (ceX10_least cyI cyB cyJ cyZ a0 a1 a2 a3 a4 a5 a6 a7 a8 a9 a10 a11 a12 b0_tape b0_kept b0_draftGround b0_draftLaw b0_pack b0_pieces b0_thinning b1_marks b1_stroll g0_imageKept g0_wrongByte g1_drawSeed g2_texts g7_lines g2_ways g2_wallCount f3 f4 f5 f6 g7_size f9 f8 g10_rows g10_columns f11 f12)) [0, 1, 2, 3, 4, 5, 6, 7, 8, 9, 10, 11, 12] rfl
  have hDc := hD.sub (ws' := (ceX10_least cyI cyB cyJ cyZ a0 a1 a2 a3 a4 a5 a6 a7 a8 a9 a10 a11 a12 b0_tape b0_kept b0_draftGround b0_draftLaw b0_pack b0_pieces b0_thinning b1_marks b1_stroll g0_imageKept g0_wrongByte g1_drawSeed g2_texts g7_lines g2_ways g2_wallCount f3 f4 f5 f6 g7_size f9 f8 g10_rows g10_columns f11 f12)) [0, 1, 2, 3, 4, 5, 6, 7, 8, 9, 10, 11, 12] (by decide) rfl
  have hFc := va_free (wc := (ceX10_least cyI cyB cyJ cyZ a0 a1 a2 a3 a4 a5 a6 a7 a8 a9 a10 a11 a12 b0_tape b0_kept b0_draftGround b0_draftLaw b0_pack b0_pieces b0_thinning b1_marks b1_stroll g0_imageKept g0_wrongByte g1_drawSeed g2_texts g7_lines g2_ways g2_wallCount f3 f4 f5 f6 g7_size f9 f8 g10_rows g10_columns f11 f12)) hD hS hA [0, 1, 2, 3, 4, 5, 6, 7, 8, 9, 10, 11, 12] rfl
  refine vx_calli (vx_runV (As := [.int p1, .int p2]) (rest := [.int 0, .ref a13]) ⟨hx, hb, hml, hown, hts⟩ (ctX10_least l hl0 dC dI cyI cyB cyJ cyZ _ a0 a1 a2 a3 a4 a5 a6 a7 a8 a9 a10 a11 a12 b0_tape b0_kept b0_draftGround b0_draftLaw b0_pack b0_pieces b0_thinning b1_marks b1_stroll g0_imageKept g0_wrongByte g1_drawSeed g2_texts g7_lines g2_ways g2_wallCount f3 f4 f5 f6 g7_size f9 f8 g10_rows g10_columns f11 f12 p1 p2 _ _ adS hw) (cwV 2 hts gL_least_X10_least rfl rfl rfl (by decide +kernel) ⟨Nat.le_of_ble_eq_true rfl, Nat.le_of_ble_eq_true rfl⟩) ⟨wPreX_blind (xOk_txT adS), va_recv hK hPc (ci := 10) (q0 := 0) rfl rfl, fun U hU hW => wPreX_of (xOk_txT adS) hPc hK hDc hN hXs.1 hS hFc hU hW⟩ rfl rfl hl.1 rfl (lv_room (Nat.le_of_ble_eq_true rfl)) dL_least_5 ⟨(by decide), (by decide)⟩) hS (fun q _ h => hFc q h) hFc (fun q _ h => hFc q h) (fun E ce q9 u1 t H1 locs ht hvm hpx hBX hz1 hk1 hS hce hcv hcl => ?_) (fun r2 u1 t H1 locs ht hvm hw hB hz1 hk1 hS => ?_)
  · obtain ⟨hw, hP1, hK1, hD1⟩ := hBX
    rw [ht] at hP1
    obtain ⟨hP, hD⟩ := va_join (wr := pickW (ceL_least cyI cyB cyJ cyZ a0 a1 a2 a3 a4 a5 a6 a7 a8 a9 a10 a11 a12 a13 b0_tape b0_kept b0_draftGround b0_draftLaw b0_pack b0_pieces b0_thinning b1_marks b1_stroll n13 g0_imageKept g0_wrongByte g1_drawSeed g2_texts g7_lines g2_ways g2_wallCount f3 f4 f5 f6 g7_size f9 f8 g10_rows g10_columns f11 f12 f13) [13]) (w1 := (ceX10_least cyI cyB cyJ cyZ a0 a1 a2 a3 a4 a5 a6 a7 a8 a9 a10 a11 a12 b0_tape b0_kept b0_draftGround b0_draftLaw b0_pack b0_pieces b0_thinning b1_marks b1_stroll g0_imageKept g0_wrongByte g1_drawSeed g2_texts g7_lines g2_ways g2_wallCount f3 f4 f5 f6 g7_size f9 u1.1 u1.2.1 u1.2.2.1 u1.2.2.2.1 u1.2.2.2.2)) hP hD [0, 1, 2, 3, 4, 5, 6, 7, 8, 9, 10, 11, 12] [13] rfl rfl (by decide) (by decide) hk1 hFc hP1 hD1
    have hP := hP.sub (ws' := (ceL_least cyI cyB cyJ cyZ a0 a1 a2 a3 a4 a5 a6 a7 a8 a9 a10 a11 a12 a13 b0_tape b0_kept b0_draftGround b0_draftLaw b0_pack b0_pieces b0_thinning b1_marks b1_stroll n13 g0_imageKept g0_wrongByte g1_drawSeed g2_texts g7_lines g2_ways g2_wallCount f3 f4 f5 f6 g7_size f9 u1.1 u1.2.1 u1.2.2.1 u1.2.2.2.1 u1.2.2.2.2 f13)) [1, 2, 3, 4, 5, 6, 7, 8, 9, 10, 11, 12, 13, 0] rfl
    have hD := hD.sub (ws' := (ceL_least cyI cyB cyJ cyZ a0 a1 a2 a3 a4 a5 a6 a7 a8 a9 a10 a11 a12 a13 b0_tape b0_kept b0_draftGround b0_draftLaw b0_pack b0_pieces b0_thinning b1_marks b1_stroll n13 g0_imageKept g0_wrongByte g1_drawSeed g2_texts g7_lines g2_ways g2_wallCount f3 f4 f5 f6 g7_size f9 u1.1 u1.2.1 u1.2.2.1 u1.2.2.2.1 u1.2.2.2.2 f13)) [1, 2, 3, 4, 5, 6, 7, 8, 9, 10, 11, 12, 13, 0] (by decide) rfl
    obtain ⟨hw0, hE⟩ := hw
    subst hE
    have hw := hw0 rfl
    refine ec_catch (name := "java/lang/IndexOutOfBoundsException") hown [] _ _ (htb.trans rfl) (fun z hz => by cases hz) (by decide) (by decide) (hts (.classLink RL 24 "java/lang/IndexOutOfBoundsException") (List.mem_of_getElem? (i := 1) rfl)) (va_Nw.use rfl (hXs.1.2.2.2 (.castable "java/lang/IndexOutOfBoundsException" "java/lang/IndexOutOfBoundsException") (by decide +kernel))) hce hcv hcl ?_
    refine W.eq (g2 := F0 m 13 ls [.ref q9]) rfl ?_
    refine lv_astore (lv' := [(4, .ref q9), (0, .ref a0), (1, .int p1), (2, .int p2), (3, .ref a13)]) hx hb dL_least_13 hl (by decide) rfl (fun ls hl => ?_)
    refine lv_iconst (v := 1) hx hb dL_least_15 (by decide) ?_
    rw [hQ]
    refine W.widen (k := 2) (n := 12) (by decide) (by decide) ?_
    exact W.iret (v := 1) hx hb hr (fun t ht hW => ⟨⟨1, (u1.1, u1.2.1, u1.2.2.1, u1.2.2.2.1, u1.2.2.2.2, f13), rfl, hw, by rw [ht]; exact hP, va_K.moved hW.alike hK, hD⟩, hS.F ht⟩) hS.2.2 dL_least_16
  -- returned
  obtain ⟨hP1, hK1, hD1⟩ := hB
  rw [ht] at hP1
  obtain ⟨hP, hD⟩ := va_join (wr := pickW (ceL_least cyI cyB cyJ cyZ a0 a1 a2 a3 a4 a5 a6 a7 a8 a9 a10 a11 a12 a13 b0_tape b0_kept b0_draftGround b0_draftLaw b0_pack b0_pieces b0_thinning b1_marks b1_stroll n13 g0_imageKept g0_wrongByte g1_drawSeed g2_texts g7_lines g2_ways g2_wallCount f3 f4 f5 f6 g7_size f9 f8 g10_rows g10_columns f11 f12 f13) [13]) (w1 := (ceX10_least cyI cyB cyJ cyZ a0 a1 a2 a3 a4 a5 a6 a7 a8 a9 a10 a11 a12 b0_tape b0_kept b0_draftGround b0_draftLaw b0_pack b0_pieces b0_thinning b1_marks b1_stroll g0_imageKept g0_wrongByte g1_drawSeed g2_texts g7_lines g2_ways g2_wallCount f3 f4 f5 f6 g7_size f9 u1.1 u1.2.1 u1.2.2.1 u1.2.2.2.1 u1.2.2.2.2)) hP hD [0, 1, 2, 3, 4, 5, 6, 7, 8, 9, 10, 11, 12] [13] rfl rfl (by decide) (by decide) hk1 hFc hP1 hD1
  have hP := hP.sub (ws' := (ceL_least cyI cyB cyJ cyZ a0 a1 a2 a3 a4 a5 a6 a7 a8 a9 a10 a11 a12 a13 b0_tape b0_kept b0_draftGround b0_draftLaw b0_pack b0_pieces b0_thinning b1_marks b1_stroll n13 g0_imageKept g0_wrongByte g1_drawSeed g2_texts g7_lines g2_ways g2_wallCount f3 f4 f5 f6 g7_size f9 u1.1 u1.2.1 u1.2.2.1 u1.2.2.2.1 u1.2.2.2.2 f13)) [1, 2, 3, 4, 5, 6, 7, 8, 9, 10, 11, 12, 13, 0] rfl
  have hD := hD.sub (ws' := (ceL_least cyI cyB cyJ cyZ a0 a1 a2 a3 a4 a5 a6 a7 a8 a9 a10 a11 a12 a13 b0_tape b0_kept b0_draftGround b0_draftLaw b0_pack b0_pieces b0_thinning b1_marks b1_stroll n13 g0_imageKept g0_wrongByte g1_drawSeed g2_texts g7_lines g2_ways g2_wallCount f3 f4 f5 f6 g7_size f9 u1.1 u1.2.1 u1.2.2.1 u1.2.2.2.1 u1.2.2.2.2 f13)) [1, 2, 3, 4, 5, 6, 7, 8, 9, 10, 11, 12, 13, 0] (by decide) rfl
  generalize H1 = H at hP hS ⊢
  refine W.widen (k := 2) (n := 12) (by decide) (by decide) ?_
  refine lv_i2l hx hb dL_least_8 rfl ?_
  obtain ⟨hi, hw⟩ := hw
  refine va_last hx hb hK hP hD hS 13 2 rfl rfl hi dL_least_9 (fun H locs hP hD hS => ?_)
  have hP : va_P (dC, dI) vwCl (ceL_least cyI cyB cyJ cyZ a0 a1 a2 a3 a4 a5 a6 a7 a8 a9 a10 a11 a12 a13 b0_tape b0_kept b0_draftGround b0_draftLaw b0_pack b0_pieces b0_thinning b1_marks b1_stroll n13 g0_imageKept g0_wrongByte g1_drawSeed g2_texts g7_lines g2_ways g2_wallCount f3 f4 f5 f6 g7_size f9 u1.1 u1.2.1 u1.2.2.1 u1.2.2.2.1 u1.2.2.2.2 (vp_updL f13 (0 : Int32).toNatClampNeg (r2.toInt64))) H := hP
  have hD : va_D A (ceL_least cyI cyB cyJ cyZ a0 a1 a2 a3 a4 a5 a6 a7 a8 a9 a10 a11 a12 a13 b0_tape b0_kept b0_draftGround b0_draftLaw b0_pack b0_pieces b0_thinning b1_marks b1_stroll n13 g0_imageKept g0_wrongByte g1_drawSeed g2_texts g7_lines g2_ways g2_wallCount f3 f4 f5 f6 g7_size f9 u1.1 u1.2.1 u1.2.2.1 u1.2.2.2.1 u1.2.2.2.2 (vp_updL f13 (0 : Int32).toNatClampNeg (r2.toInt64))) := hD
  refine lv_goto (tgt := 17) hx hb dL_least_10 (by decide) ?_
  refine lv_iconst (v := 0) hx hb dL_least_17 (by decide) ?_
  rw [hQ]
  refine W.widen (k := 2) (n := 12) (by decide) (by decide) ?_
  exact W.iret (v := 0) hx hb hr (fun t ht hW => ⟨⟨0, (u1.1, u1.2.1, u1.2.2.1, u1.2.2.2.1, u1.2.2.2.2, (vp_updL f13 (0 : Int32).toNatClampNeg (r2.toInt64))), rfl, hw, by rw [ht]; exact hP, va_K.moved hW.alike hK, hD⟩, hS.F ht⟩) hS.2.2 dL_least_18
/-! LeadParkLaw.first (LLeadPark;III[J)I -/
abbrev ceL_first (cyI cyB cyJ cyZ : ClassId) (a0 a1 a2 a3 a4 a5 a6 a7 a8 a9 a10 a11 a12 a13 b0_tape b0_kept b0_draftGround b0_draftLaw b0_pack b0_pieces b0_thinning b1_marks b1_stroll n13 : Nat) (g0_imageKept : Int32) (g0_wrongByte : Int32) (g1_drawSeed : Int32) (g2_texts : Int32) (g7_lines : Int32) (g2_ways : Int32) (g2_wallCount : Int32) (f3 : Nat → Int32) (f4 : Nat → Int32) (f5 : Nat → Int32) (f6 : Nat → Int32) (g7_size : Int32) (f9 : Nat → Int32) (f8 : Nat → Int32) (g10_rows : Int32) (g10_columns : Int32) (f11 : Nat → Int32) (f12 : Nat → Int32) (f13 : Nat → Int64) : va_W := [(a0, .inr (10, [.ref b0_tape, .ref a1, .ref b0_kept, .ref b0_draftGround, .ref b0_draftLaw, .ref a10, .ref b0_pack, .ref b0_pieces, .ref b0_thinning, .int g0_imageKept, .int g0_wrongByte])), (a1, .inr (6, [.ref a2, .ref a7, .ref b1_marks, .ref b1_stroll, .int g1_drawSeed])), (a2, .inr (1, [.ref a4, .ref a5, .ref a3, .ref a6, .int g2_ways, .int g2_wallCount, .int g2_texts])), (a3, .inl (cyI, 12, .inl f3)), (a4, .inl (cyI, 360, .inl f4)), (a5, .inl (cyI, 360, .inl f5)), (a6, .inl (cyI, 32, .inl f6)), (a7, .inr (2, [.ref a9, .ref a8, .int g7_size, .int g7_lines])), (a8, .inl (cyI, 7, .inl f8)), (a9, .inl (cyI, 400, .inl f9)), (a10, .inr (0, [.ref a11, .ref a12, .int g10_rows, .int g10_columns])), (a11, .inl (cyI, 1089, .inl f11)), (a12, .inl (cyI, 1089, .inl f12)), (a13, .inl (cyJ, n13, .inr (.inl f13)))]

abbrev rmL_first : Room := { frames := 8, cells := 3, slots := 18, locals := 198 }
def wpL_first (n13 : Nat) (post : Int32 → ((Nat → Int32) × Int32 × Int32 × (Nat → Int32) × (Nat → Int32) × (Nat → Int64)) → Prop) (g2_ways : Int32) (g2_wallCount : Int32) (f3 : Nat → Int32) (f4 : Nat → Int32) (f5 : Nat → Int32) (f6 : Nat → Int32) (g7_size : Int32) (f9 : Nat → Int32) (f8 : Nat → Int32) (g10_rows : Int32) (g10_columns : Int32) (f11 : Nat → Int32) (f12 : Nat → Int32) (f13 : Nat → Int64) (p1 : Int32) (p2 : Int32) (p3 : Int32) : Prop :=
  wpX10_first (fun (r2 : Int32) (u1 : (Nat → Int32) × Int32 × Int32 × (Nat → Int32) × (Nat → Int32)) =>
   vp_in 0 n13 ∧
   post 0 (u1.1, u1.2.1, u1.2.2.1, u1.2.2.2.1, u1.2.2.2.2, (vp_updL f13 (0 : Int32).toNatClampNeg (r2.toInt64)))) (fun (E : String) (u1 : (Nat → Int32) × Int32 × Int32 × (Nat → Int32) × (Nat → Int32)) =>
   (E = "java/lang/IndexOutOfBoundsException" →
    post 1 (u1.1, u1.2.1, u1.2.2.1, u1.2.2.2.1, u1.2.2.2.2, f13)) ∧ (E = "java/lang/IllegalArgumentException" →
    post 2 (u1.1, u1.2.1, u1.2.2.1, u1.2.2.2.1, u1.2.2.2.2, f13)) ∧ (E = "java/lang/IndexOutOfBoundsException" ∨ E = "java/lang/IllegalArgumentException")) g2_ways g2_wallCount f3 f4 f5 f6 g7_size f9 f8 g10_rows g10_columns f11 f12 p1 p2 p3
set_option maxRecDepth 100000 in
set_option maxHeartbeats 4000000 in
theorem ctL_first (l : Launch) (hl0 : l.stackTraces = false) (dC : Nat → ClassId) (dI : Nat → Nat → Nat) (cyI cyB cyJ cyZ : ClassId) (sz : Nat) (a0 a1 a2 a3 a4 a5 a6 a7 a8 a9 a10 a11 a12 a13 b0_tape b0_kept b0_draftGround b0_draftLaw b0_pack b0_pieces b0_thinning b1_marks b1_stroll n13 : Nat) (g0_imageKept : Int32) (g0_wrongByte : Int32) (g1_drawSeed : Int32) (g2_texts : Int32) (g7_lines : Int32) (g2_ways : Int32) (g2_wallCount : Int32) (f3 : Nat → Int32) (f4 : Nat → Int32) (f5 : Nat → Int32) (f6 : Nat → Int32) (g7_size : Int32) (f9 : Nat → Int32) (f8 : Nat → Int32) (g10_rows : Int32) (g10_columns : Int32) (f11 : Nat → Int32) (f12 : Nat → Int32) (f13 : Nat → Int64) (p1 : Int32) (p2 : Int32) (p3 : Int32) (post : Int32 → ((Nat → Int32) × Int32 × Int32 × (Nat → Int32) × (Nat → Int32) × (Nat → Int64)) → Prop) (adS : Nat → Nat) (hw : wpL_first n13 post g2_ways g2_wallCount f3 f4 f5 f6 g7_size f9 f8 g10_rows g10_columns f11 f12 f13 p1 p2 p3) : Met l yL_first wsL_first rmL_first (va_Pc [.ref a0, .int p1, .int p2, .int p3, .ref a13] (wPreX dC dI cyI cyB cyJ cyZ sz (ceL_first cyI cyB cyJ cyZ a0 a1 a2 a3 a4 a5 a6 a7 a8 a9 a10 a11 a12 a13 b0_tape b0_kept b0_draftGround b0_draftLaw b0_pack b0_pieces b0_thinning b1_marks b1_stroll n13 g0_imageKept g0_wrongByte g1_drawSeed g2_texts g7_lines g2_ways g2_wallCount f3 f4 f5 f6 g7_size f9 f8 g10_rows g10_columns f11 f12 f13) (txL adS))) (va_Qi post (fun u : (Nat → Int32) × Int32 × Int32 × (Nat → Int32) × (Nat → Int32) × (Nat → Int64) => wAt dC dI cyI cyB cyJ cyZ (va_A (ceL_first cyI cyB cyJ cyZ a0 a1 a2 a3 a4 a5 a6 a7 a8 a9 a10 a11 a12 a13 b0_tape b0_kept b0_draftGround b0_draftLaw b0_pack b0_pieces b0_thinning b1_marks b1_stroll n13 g0_imageKept g0_wrongByte g1_drawSeed g2_texts g7_lines g2_ways g2_wallCount f3 f4 f5 f6 g7_size f9 f8 g10_rows g10_columns f11 f12 f13) sz) (ceL_first cyI cyB cyJ cyZ a0 a1 a2 a3 a4 a5 a6 a7 a8 a9 a10 a11 a12 a13 b0_tape b0_kept b0_draftGround b0_draftLaw b0_pack b0_pieces b0_thinning b1_marks b1_stroll n13 g0_imageKept g0_wrongByte g1_drawSeed g2_texts g7_lines g2_ways g2_wallCount f3 f4 f5 f6 g7_size f9 u.1 u.2.1 u.2.2.1 u.2.2.2.1 u.2.2.2.2.1 u.2.2.2.2.2)) (va_A (ceL_first cyI cyB cyJ cyZ a0 a1 a2 a3 a4 a5 a6 a7 a8 a9 a10 a11 a12 a13 b0_tape b0_kept b0_draftGround b0_draftLaw b0_pack b0_pieces b0_thinning b1_marks b1_stroll n13 g0_imageKept g0_wrongByte g1_drawSeed g2_texts g7_lines g2_ways g2_wallCount f3 f4 f5 f6 g7_size f9 f8 g10_rows g10_columns f11 f12 f13) sz)) 3 18 (va_A (ceL_first cyI cyB cyJ cyZ a0 a1 a2 a3 a4 a5 a6 a7 a8 a9 a10 a11 a12 a13 b0_tape b0_kept b0_draftGround b0_draftLaw b0_pack b0_pieces b0_thinning b1_marks b1_stroll n13 g0_imageKept g0_wrongByte g1_drawSeed g2_texts g7_lines g2_ways g2_wallCount f3 f4 f5 f6 g7_size f9 f8 g10_rows g10_columns f11 f12 f13) sz) := by
  refine mt_ofWH (cc := cL_first) (maxL := 6) (ret := (some .int)) (by decide) rfl ?_
  intro p e s m args below meth c s₁ B hml hv
  obtain ⟨rfl, ⟨hsz, hP, hK, hD0, hN⟩, hXs⟩ := hv
  have hx := B.exec
  have hb := B.bytes
  have hr := B.returns
  have hts := atoms_spec (ws := wsL_first) B.pre
  have hown : s.vm.findClass RL = some m.cls := findClass_of_methodNamed B.named
  have hlocks := B.notSynchronized
  have htb := vx_table (x := yL_first) B (hts _ (List.mem_of_getElem? (i := 0) rfl))
  subst hsz
  have hD := hD0.self (sz := s.heap.size)
  generalize hAe : va_A (ceL_first cyI cyB cyJ cyZ a0 a1 a2 a3 a4 a5 a6 a7 a8 a9 a10 a11 a12 a13 b0_tape b0_kept b0_draftGround b0_draftLaw b0_pack b0_pieces b0_thinning b1_marks b1_stroll n13 g0_imageKept g0_wrongByte g1_drawSeed g2_texts g7_lines g2_ways g2_wallCount f3 f4 f5 f6 g7_size f9 f8 g10_rows g10_columns f11 f12 f13) s.heap.size = A at hD hXs ⊢
  have hA : ∀ q : Nat, s.heap.size ≤ q → A q := fun q h => by rw [← hAe]; exact Or.inr h
  have hS : va_S A s.heap s.heap [] := va_S.rf
  have C0 : cxM p s m meth c _ wsL_first RL cL_first 6 (some .int) := ⟨hx, hb, hr, hml, hown, hts, hlocks⟩
  have hl := lv_entry ([.ref a0, .int p1, .int p2, .int p3, .ref a13]) (n := 6) (Nat.le_of_ble_eq_true rfl)
  rw [lg_entry_eq]
  generalize (lg_sl ([.ref a0, .int p1, .int p2, .int p3, .ref a13]) ++ List.replicate (6 - (lg_sl ([.ref a0, .int p1, .int p2, .int p3, .ref a13])).length) Slot.unset).toArray = ls at hl ⊢
  have hl : lv_has ls 6 [(0, .ref a0), (1, .int p1), (2, .int p2), (3, .int p3), (4, .ref a13)] := hl
  show W p l e rmL_first s m _ below meth c _ _ _ _ _ _
  refine wq (fun Q hQ => ?_)
  refine lv_aload hx hb dL_first_0 (lv_at hl 4 rfl) ?_
  refine lv_iconst (v := 0) hx hb dL_first_2 (by decide) ?_
  refine lv_aload_n hx hb dL_first_3 rfl (lv_at hl 0 rfl) ?_
  refine lv_iload_n hx hb dL_first_4 rfl (lv_at hl 1 rfl) ?_
  refine lv_iload_n hx hb dL_first_5 rfl (lv_at hl 2 rfl) ?_
  refine lv_iload_n hx hb dL_first_6 rfl (lv_at hl 3 rfl) ?_
  have hPc := hP.sub (ws' := (ceX10_first cyI cyB cyJ cyZ a0 a1 a2 a3 a4 a5 a6 a7 a8 a9 a10 a11 a12 b0_tape b0_kept b0_draftGround b0_draftLaw b0_pack b0_pieces b0_thinning b1_marks b1_stroll g0_imageKept g0_wrongByte g1_drawSeed g2_texts g7_lines g2_ways g2_wallCount f3 f4 f5 f6 g7_size f9 f8 g10_rows g10_columns f11 f12)) [0, 1, 2, 3, 4, 5, 6, 7, 8, 9, 10, 11, 12] rfl
  have hDc := hD.sub (ws' := (ceX10_first cyI cyB cyJ cyZ a0 a1 a2 a3 a4 a5 a6 a7 a8 a9 a10 a11 a12 b0_tape b0_kept b0_draftGround b0_draftLaw b0_pack b0_pieces b0_thinning b1_marks b1_stroll g0_imageKept g0_wrongByte g1_drawSeed g2_texts g7_lines g2_ways g2_wallCount f3 f4 f5 f6 g7_size f9 f8 g10_rows g10_columns f11 f12)) [0, 1, 2, 3, 4, 5, 6, 7, 8, 9, 10, 11, 12] (by decide) rfl
  have hFc := va_free (wc := (ceX10_first cyI cyB cyJ cyZ a0 a1 a2 a3 a4 a5 a6 a7 a8 a9 a10 a11 a12 b0_tape b0_kept b0_draftGround b0_draftLaw b0_pack b0_pieces b0_thinning b1_marks b1_stroll g0_imageKept g0_wrongByte g1_drawSeed g2_texts g7_lines g2_ways g2_wallCount f3 f4 f5 f6 g7_size f9 f8 g10_rows g10_columns f11 f12)) hD hS hA [0, 1, 2, 3, 4, 5, 6, 7, 8, 9, 10, 11, 12] rfl
  refine vx_calli (vx_runV (As := [.int p1, .int p2, .int p3]) (rest := [.int 0, .ref a13]) ⟨hx, hb, hml, hown, hts⟩ (ctX10_first l hl0 dC dI cyI cyB cyJ cyZ _ a0 a1 a2 a3 a4 a5 a6 a7 a8 a9 a10 a11 a12 b0_tape b0_kept b0_draftGround b0_draftLaw b0_pack b0_pieces b0_thinning b1_marks b1_stroll g0_imageKept g0_wrongByte g1_drawSeed g2_texts g7_lines g2_ways g2_wallCount f3 f4 f5 f6 g7_size f9 f8 g10_rows g10_columns f11 f12 p1 p2 p3 _ _ adS hw) (cwV 3 hts gL_first_X10_first rfl rfl rfl (by decide +kernel) ⟨Nat.le_of_ble_eq_true rfl, Nat.le_of_ble_eq_true rfl⟩) ⟨wPreX_blind (xOk_txT adS), va_recv hK hPc (ci := 10) (q0 := 0) rfl rfl, fun U hU hW => wPreX_of (xOk_txT adS) hPc hK hDc hN hXs.1 hS hFc hU hW⟩ rfl rfl hl.1 rfl (lv_room (Nat.le_of_ble_eq_true rfl)) dL_first_7 ⟨(by decide), (by decide)⟩) hS (fun q _ h => hFc q h) hFc (fun q _ h => hFc q h) (fun E ce q9 u1 t H1 locs ht hvm hpx hBX hz1 hk1 hS hce hcv hcl => ?_) (fun r2 u1 t H1 locs ht hvm hw hB hz1 hk1 hS => ?_)
  · obtain ⟨hw, hP1, hK1, hD1⟩ := hBX
    rw [ht] at hP1
    obtain ⟨hP, hD⟩ := va_join (wr := pickW (ceL_first cyI cyB cyJ cyZ a0 a1 a2 a3 a4 a5 a6 a7 a8 a9 a10 a11 a12 a13 b0_tape b0_kept b0_draftGround b0_draftLaw b0_pack b0_pieces b0_thinning b1_marks b1_stroll n13 g0_imageKept g0_wrongByte g1_drawSeed g2_texts g7_lines g2_ways g2_wallCount f3 f4 f5 f6 g7_size f9 f8 g10_rows g10_columns f11 f12 f13) [13]) (w1 := (ceX10_first cyI cyB cyJ cyZ a0 a1 a2 a3 a4 a5 a6 a7 a8 a9 a10 a11 a12 b0_tape b0_kept b0_draftGround b0_draftLaw b0_pack b0_pieces b0_thinning b1_marks b1_stroll g0_imageKept g0_wrongByte g1_drawSeed g2_texts g7_lines g2_ways g2_wallCount f3 f4 f5 f6 g7_size f9 u1.1 u1.2.1 u1.2.2.1 u1.2.2.2.1 u1.2.2.2.2)) hP hD [0, 1, 2, 3, 4, 5, 6, 7, 8, 9, 10, 11, 12] [13] rfl rfl (by decide) (by decide) hk1 hFc hP1 hD1
    have hP := hP.sub (ws' := (ceL_first cyI cyB cyJ cyZ a0 a1 a2 a3 a4 a5 a6 a7 a8 a9 a10 a11 a12 a13 b0_tape b0_kept b0_draftGround b0_draftLaw b0_pack b0_pieces b0_thinning b1_marks b1_stroll n13 g0_imageKept g0_wrongByte g1_drawSeed g2_texts g7_lines g2_ways g2_wallCount f3 f4 f5 f6 g7_size f9 u1.1 u1.2.1 u1.2.2.1 u1.2.2.2.1 u1.2.2.2.2 f13)) [1, 2, 3, 4, 5, 6, 7, 8, 9, 10, 11, 12, 13, 0] rfl
    have hD := hD.sub (ws' := (ceL_first cyI cyB cyJ cyZ a0 a1 a2 a3 a4 a5 a6 a7 a8 a9 a10 a11 a12 a13 b0_tape b0_kept b0_draftGround b0_draftLaw b0_pack b0_pieces b0_thinning b1_marks b1_stroll n13 g0_imageKept g0_wrongByte g1_drawSeed g2_texts g7_lines g2_ways g2_wallCount f3 f4 f5 f6 g7_size f9 u1.1 u1.2.1 u1.2.2.1 u1.2.2.2.1 u1.2.2.2.2 f13)) [1, 2, 3, 4, 5, 6, 7, 8, 9, 10, 11, 12, 13, 0] (by decide) rfl
    obtain ⟨hw0, hw1, hE⟩ := hw
    rcases hE with rfl | rfl
    · have hw := hw0 rfl
      refine ec_catch (name := "java/lang/IndexOutOfBoundsException") hown [] _ _ (htb.trans rfl) (fun z hz => by cases hz) (by decide) (by decide) (hts (.classLink RL 24 "java/lang/IndexOutOfBoundsException") (List.mem_of_getElem? (i := 1) rfl)) (va_Nw.use rfl (hXs.1.2.2.2 (.castable "java/lang/IndexOutOfBoundsException" "java/lang/IndexOutOfBoundsException") (by decide +kernel))) hce hcv hcl ?_
      refine W.eq (g2 := F0 m 15 ls [.ref q9]) rfl ?_
      refine lv_astore (lv' := [(5, .ref q9), (0, .ref a0), (1, .int p1), (2, .int p2), (3, .int p3), (4, .ref a13)]) hx hb dL_first_15 hl (by decide) rfl (fun ls hl => ?_)
      refine lv_iconst (v := 1) hx hb dL_first_17 (by decide) ?_
      rw [hQ]
      refine W.widen (k := 3) (n := 18) (by decide) (by decide) ?_
      exact W.iret (v := 1) hx hb hr (fun t ht hW => ⟨⟨1, (u1.1, u1.2.1, u1.2.2.1, u1.2.2.2.1, u1.2.2.2.2, f13), rfl, hw, by rw [ht]; exact hP, va_K.moved hW.alike hK, hD⟩, hS.F ht⟩) hS.2.2 dL_first_18
    · have hw := hw1 rfl
      refine ec_catch (name := "java/lang/IllegalArgumentException") hown [_] _ _ (htb.trans rfl) (fun z hz => by rw [List.mem_singleton] at hz; subst hz; exact Or.inr ⟨by decide, "java/lang/IndexOutOfBoundsException", (hts (.classLink RL 24 "java/lang/IndexOutOfBoundsException") (List.mem_of_getElem? (i := 1) rfl)), hXs.2.1⟩) (by decide) (by decide) (hts (.classLink RL 13 "java/lang/IllegalArgumentException") (List.mem_of_getElem? (i := 2) rfl)) (va_Nw.use rfl (hXs.1.2.2.2 (.castable "java/lang/IllegalArgumentException" "java/lang/IllegalArgumentException") (by decide +kernel))) hce hcv hcl ?_
      refine W.eq (g2 := F0 m 19 ls [.ref q9]) rfl ?_
      refine lv_astore (lv' := [(5, .ref q9), (0, .ref a0), (1, .int p1), (2, .int p2), (3, .int p3), (4, .ref a13)]) hx hb dL_first_19 hl (by decide) rfl (fun ls hl => ?_)
      refine lv_iconst (v := 2) hx hb dL_first_21 (by decide) ?_
      rw [hQ]
      refine W.widen (k := 3) (n := 18) (by decide) (by decide) ?_
      exact W.iret (v := 2) hx hb hr (fun t ht hW => ⟨⟨2, (u1.1, u1.2.1, u1.2.2.1, u1.2.2.2.1, u1.2.2.2.2, f13), rfl, hw, by rw [ht]; exact hP, va_K.moved hW.alike hK, hD⟩, hS.F ht⟩) hS.2.2 dL_first_22
  -- returned
  obtain ⟨hP1, hK1, hD1⟩ := hB
  rw [ht] at hP1
  obtain ⟨hP, hD⟩ := va_join (wr := pickW (ceL_first cyI cyB cyJ cyZ a0 a1 a2 a3 a4 a5 a6 a7 a8 a9 a10 a11 a12 a13 b0_tape b0_kept b0_draftGround b0_draftLaw b0_pack b0_pieces b0_thinning b1_marks b1_stroll n13 g0_imageKept g0_wrongByte g1_drawSeed g2_texts g7_lines g2_ways g2_wallCount f3 f4 f5 f6 g7_size f9 f8 g10_rows g10_columns f11 f12 f13) [13]) (w1 := (ceX10_first cyI cyB cyJ cyZ a0 a1 a2 a3 a4 a5 a6 a7 a8 a9 a10 a11 a12 b0_tape b0_kept b0_draftGround b0_draftLaw b0_pack b0_pieces b0_thinning b1_marks b1_stroll g0_imageKept g0_wrongByte g1_drawSeed g2_texts g7_lines g2_ways g2_wallCount f3 f4 f5 f6 g7_size f9 u1.1 u1.2.1 u1.2.2.1 u1.2.2.2.1 u1.2.2.2.2)) hP hD [0, 1, 2, 3, 4, 5, 6, 7, 8, 9, 10, 11, 12] [13] rfl rfl (by decide) (by decide) hk1 hFc hP1 hD1
  have hP := hP.sub (ws' := (ceL_first cyI cyB cyJ cyZ a0 a1 a2 a3 a4 a5 a6 a7 a8 a9 a10 a11 a12 a13 b0_tape b0_kept b0_draftGround b0_draftLaw b0_pack b0_pieces b0_thinning b1_marks b1_stroll n13 g0_imageKept g0_wrongByte g1_drawSeed g2_texts g7_lines g2_ways g2_wallCount f3 f4 f5 f6 g7_size f9 u1.1 u1.2.1 u1.2.2.1 u1.2.2.2.1 u1.2.2.2.2 f13)) [1, 2, 3, 4, 5, 6, 7, 8, 9, 10, 11, 12, 13, 0] rfl
  have hD := hD.sub (ws' := (ceL_first cyI cyB cyJ cyZ a0 a1 a2 a3 a4 a5 a6 a7 a8 a9 a10 a11 a12 a13 b0_tape b0_kept b0_draftGround b0_draftLaw b0_pack b0_pieces b0_thinning b1_marks b1_stroll n13 g0_imageKept g0_wrongByte g1_drawSeed g2_texts g7_lines g2_ways g2_wallCount f3 f4 f5 f6 g7_size f9 u1.1 u1.2.1 u1.2.2.1 u1.2.2.2.1 u1.2.2.2.2 f13)) [1, 2, 3, 4, 5, 6, 7, 8, 9, 10, 11, 12, 13, 0] (by decide) rfl
  generalize H1 = H at hP hS ⊢
  refine W.widen (k := 3) (n := 18) (by decide) (by decide) ?_
  refine lv_i2l hx hb dL_first_10 rfl ?_
  obtain ⟨hi, hw⟩ := hw
  refine va_last hx hb hK hP hD hS 13 2 rfl rfl hi dL_first_11 (fun H locs hP hD hS => ?_)
  have hP : va_P (dC, dI) vwCl (ceL_first cyI cyB cyJ cyZ a0 a1 a2 a3 a4 a5 a6 a7 a8 a9 a10 a11 a12 a13 b0_tape b0_kept b0_draftGround b0_draftLaw b0_pack b0_pieces b0_thinning b1_marks b1_stroll n13 g0_imageKept g0_wrongByte g1_drawSeed g2_texts g7_lines g2_ways g2_wallCount f3 f4 f5 f6 g7_size f9 u1.1 u1.2.1 u1.2.2.1 u1.2.2.2.1 u1.2.2.2.2 (vp_updL f13 (0 : Int32).toNatClampNeg (r2.toInt64))) H := hP
  have hD : va_D A (ceL_first cyI cyB cyJ cyZ a0 a1 a2 a3 a4 a5 a6 a7 a8 a9 a10 a11 a12 a13 b0_tape b0_kept b0_draftGround b0_draftLaw b0_pack b0_pieces b0_thinning b1_marks b1_stroll n13 g0_imageKept g0_wrongByte g1_drawSeed g2_texts g7_lines g2_ways g2_wallCount f3 f4 f5 f6 g7_size f9 u1.1 u1.2.1 u1.2.2.1 u1.2.2.2.1 u1.2.2.2.2 (vp_updL f13 (0 : Int32).toNatClampNeg (r2.toInt64))) := hD
  refine lv_goto (tgt := 23) hx hb dL_first_12 (by decide) ?_
  refine lv_iconst (v := 0) hx hb dL_first_23 (by decide) ?_
  rw [hQ]
  refine W.widen (k := 3) (n := 18) (by decide) (by decide) ?_
  exact W.iret (v := 0) hx hb hr (fun t ht hW => ⟨⟨0, (u1.1, u1.2.1, u1.2.2.1, u1.2.2.2.1, u1.2.2.2.2, (vp_updL f13 (0 : Int32).toNatClampNeg (r2.toInt64))), rfl, hw, by rw [ht]; exact hP, va_K.moved hW.alike hK, hD⟩, hS.F ht⟩) hS.2.2 dL_first_24
/-! LeadParkLaw.bars (LLeadPark;II[J)I -/
abbrev ceL_bars (cyI cyB cyJ cyZ : ClassId) (a0 a1 a2 a3 a4 a5 a6 a7 a8 a9 a10 a11 a12 a13 b0_tape b0_kept b0_draftGround b0_draftLaw b0_pack b0_pieces b0_thinning b1_marks b1_stroll n13 : Nat) (g0_imageKept : Int32) (g0_wrongByte : Int32) (g1_drawSeed : Int32) (g2_texts : Int32) (g7_lines : Int32) (g2_ways : Int32) (g2_wallCount : Int32) (f3 : Nat → Int32) (f4 : Nat → Int32) (f5 : Nat → Int32) (f6 : Nat → Int32) (g7_size : Int32) (f9 : Nat → Int32) (f8 : Nat → Int32) (g10_rows : Int32) (g10_columns : Int32) (f11 : Nat → Int32) (f12 : Nat → Int32) (f13 : Nat → Int64) : va_W := [(a0, .inr (10, [.ref b0_tape, .ref a1, .ref b0_kept, .ref b0_draftGround, .ref b0_draftLaw, .ref a10, .ref b0_pack, .ref b0_pieces, .ref b0_thinning, .int g0_imageKept, .int g0_wrongByte])), (a1, .inr (6, [.ref a2, .ref a7, .ref b1_marks, .ref b1_stroll, .int g1_drawSeed])), (a2, .inr (1, [.ref a4, .ref a5, .ref a3, .ref a6, .int g2_ways, .int g2_wallCount, .int g2_texts])), (a3, .inl (cyI, 12, .inl f3)), (a4, .inl (cyI, 360, .inl f4)), (a5, .inl (cyI, 360, .inl f5)), (a6, .inl (cyI, 32, .inl f6)), (a7, .inr (2, [.ref a9, .ref a8, .int g7_size, .int g7_lines])), (a8, .inl (cyI, 7, .inl f8)), (a9, .inl (cyI, 400, .inl f9)), (a10, .inr (0, [.ref a11, .ref a12, .int g10_rows, .int g10_columns])), (a11, .inl (cyI, 1089, .inl f11)), (a12, .inl (cyI, 1089, .inl f12)), (a13, .inl (cyJ, n13, .inr (.inl f13)))]

abbrev rmL_bars : Room := { frames := 8, cells := 2, slots := 12, locals := 197 }
def wpL_bars (n13 : Nat) (post : Int32 → ((Nat → Int32) × Int32 × Int32 × (Nat → Int32) × (Nat → Int32) × (Nat → Int64)) → Prop) (g2_ways : Int32) (g2_wallCount : Int32) (f3 : Nat → Int32) (f4 : Nat → Int32) (f5 : Nat → Int32) (f6 : Nat → Int32) (g7_size : Int32) (f9 : Nat → Int32) (f8 : Nat → Int32) (g10_rows : Int32) (g10_columns : Int32) (f11 : Nat → Int32) (f12 : Nat → Int32) (f13 : Nat → Int64) (p1 : Int32) (p2 : Int32) : Prop :=
  wpX10_bars (fun (r2 : Int32) (u1 : (Nat → Int32) × Int32 × Int32 × (Nat → Int32) × (Nat → Int32)) =>
   vp_in 0 n13 ∧
   post 0 (u1.1, u1.2.1, u1.2.2.1, u1.2.2.2.1, u1.2.2.2.2, (vp_updL f13 (0 : Int32).toNatClampNeg (r2.toInt64)))) (fun (E : String) (u1 : (Nat → Int32) × Int32 × Int32 × (Nat → Int32) × (Nat → Int32)) =>
   (E = "java/lang/IndexOutOfBoundsException" →
    post 1 (u1.1, u1.2.1, u1.2.2.1, u1.2.2.2.1, u1.2.2.2.2, f13)) ∧ (E = "java/lang/IndexOutOfBoundsException")) g2_ways g2_wallCount f3 f4 f5 f6 g7_size f9 f8 g10_rows g10_columns f11 f12 p1 p2
set_option maxRecDepth 100000 in
set_option maxHeartbeats 4000000 in
theorem ctL_bars (l : Launch) (hl0 : l.stackTraces = false) (dC : Nat → ClassId) (dI : Nat → Nat → Nat) (cyI cyB cyJ cyZ : ClassId) (sz : Nat) (a0 a1 a2 a3 a4 a5 a6 a7 a8 a9 a10 a11 a12 a13 b0_tape b0_kept b0_draftGround b0_draftLaw b0_pack b0_pieces b0_thinning b1_marks b1_stroll n13 : Nat) (g0_imageKept : Int32) (g0_wrongByte : Int32) (g1_drawSeed : Int32) (g2_texts : Int32) (g7_lines : Int32) (g2_ways : Int32) (g2_wallCount : Int32) (f3 : Nat → Int32) (f4 : Nat → Int32) (f5 : Nat → Int32) (f6 : Nat → Int32) (g7_size : Int32) (f9 : Nat → Int32) (f8 : Nat → Int32) (g10_rows : Int32) (g10_columns : Int32) (f11 : Nat → Int32) (f12 : Nat → Int32) (f13 : Nat → Int64) (p1 : Int32) (p2 : Int32) (post : Int32 → ((Nat → Int32) × Int32 × Int32 × (Nat → Int32) × (Nat → Int32) × (Nat → Int64)) → Prop) (adS : Nat → Nat) (hw : wpL_bars n13 post g2_ways g2_wallCount f3 f4 f5 f6 g7_size f9 f8 g10_rows g10_columns f11 f12 f13 p1 p2) : Met l yL_bars wsL_bars rmL_bars (va_Pc [.ref a0, .int p1, .int p2, .ref a13] (wPreX dC dI cyI cyB cyJ cyZ sz (ceL_bars cyI cyB cyJ cyZ a0 a1 a2 a3 a4 a5 a6 a7 a8 a9 a10 a11 a12 a13 b0_tape b0_kept b0_draftGround b0_draftLaw b0_pack b0_pieces b0_thinning b1_marks b1_stroll n13 g0_imageKept g0_wrongByte g1_drawSeed g2_texts g7_lines g2_ways g2_wallCount f3 f4 f5 f6 g7_size f9 f8 g10_rows g10_columns f11 f12 f13) (txL adS))) (va_Qi post (fun u : (Nat → Int32) × Int32 × Int32 × (Nat → Int32) × (Nat → Int32) × (Nat → Int64) => wAt dC dI cyI cyB cyJ cyZ (va_A (ceL_bars cyI cyB cyJ cyZ a0 a1 a2 a3 a4 a5 a6 a7 a8 a9 a10 a11 a12 a13 b0_tape b0_kept b0_draftGround b0_draftLaw b0_pack b0_pieces b0_thinning b1_marks b1_stroll n13 g0_imageKept g0_wrongByte g1_drawSeed g2_texts g7_lines g2_ways g2_wallCount f3 f4 f5 f6 g7_size f9 f8 g10_rows g10_columns f11 f12 f13) sz) (ceL_bars cyI cyB cyJ cyZ a0 a1 a2 a3 a4 a5 a6 a7 a8 a9 a10 a11 a12 a13 b0_tape b0_kept b0_draftGround b0_draftLaw b0_pack b0_pieces b0_thinning b1_marks b1_stroll n13 g0_imageKept g0_wrongByte g1_drawSeed g2_texts g7_lines g2_ways g2_wallCount f3 f4 f5 f6 g7_size f9 u.1 u.2.1 u.2.2.1 u.2.2.2.1 u.2.2.2.2.1 u.2.2.2.2.2)) (va_A (ceL_bars cyI cyB cyJ cyZ a0 a1 a2 a3 a4 a5 a6 a7 a8 a9 a10 a11 a12 a13 b0_tape b0_kept b0_draftGround b0_draftLaw b0_pack b0_pieces b0_thinning b1_marks b1_stroll n13 g0_imageKept g0_wrongByte g1_drawSeed g2_texts g7_lines g2_ways g2_wallCount f3 f4 f5 f6 g7_size f9 f8 g10_rows g10_columns f11 f12 f13) sz)) 2 12 (va_A (ceL_bars cyI cyB cyJ cyZ a0 a1 a2 a3 a4 a5 a6 a7 a8 a9 a10 a11 a12 a13 b0_tape b0_kept b0_draftGround b0_draftLaw b0_pack b0_pieces b0_thinning b1_marks b1_stroll n13 g0_imageKept g0_wrongByte g1_drawSeed g2_texts g7_lines g2_ways g2_wallCount f3 f4 f5 f6 g7_size f9 f8 g10_rows g10_columns f11 f12 f13) sz) := by
  refine mt_ofWH (cc := cL_bars) (maxL := 5) (ret := (some .int)) (by decide) rfl ?_
  intro p e s m args below meth c s₁ B hml hv
  obtain ⟨rfl, ⟨hsz, hP, hK, hD0, hN⟩, hXs⟩ := hv
  have hx := B.exec
  have hb := B.bytes
  have hr := B.returns
  have hts := atoms_spec (ws := wsL_bars) B.pre
  have hown : s.vm.findClass RL = some m.cls := findClass_of_methodNamed B.named
  have hlocks := B.notSynchronized
  have htb := vx_table (x := yL_bars) B (hts _ (List.mem_of_getElem? (i := 0) rfl))
  subst hsz
  have hD := hD0.self (sz := s.heap.size)
  generalize hAe : va_A (ceL_bars cyI cyB cyJ cyZ a0 a1 a2 a3 a4 a5 a6 a7 a8 a9 a10 a11 a12 a13 b0_tape b0_kept b0_draftGround b0_draftLaw b0_pack b0_pieces b0_thinning b1_marks b1_stroll n13 g0_imageKept g0_wrongByte g1_drawSeed g2_texts g7_lines g2_ways g2_wallCount f3 f4 f5 f6 g7_size f9 f8 g10_rows g10_columns f11 f12 f13) s.heap.size = A at hD hXs ⊢
  have hA : ∀ q : Nat, s.heap.size ≤ q → A q := fun q h => by rw [← hAe]; exact Or.inr h
  have hS : va_S A s.heap s.heap [] := va_S.rf
  have C0 : cxM p s m meth c _ wsL_bars RL cL_bars 5 (some .int) := ⟨hx, hb, hr, hml, hown, hts, hlocks⟩
  have hl := lv_entry ([.ref a0, .int p1, .int p2, .ref a13]) (n := 5) (Nat.le_of_ble_eq_true rfl)
  rw [lg_entry_eq]
  generalize (lg_sl ([.ref a0, .int p1, .int p2, .ref a13]) ++ List.replicate (5 - (lg_sl ([.ref a0, .int p1, .int p2, .ref a13])).length) Slot.unset).toArray = ls at hl ⊢
  have hl : lv_has ls 5 [(0, .ref a0), (1, .int p1), (2, .int p2), (3, .ref a13)] := hl
  show W p l e rmL_bars s m _ below meth c _ _ _ _ _ _
  refine wq (fun Q hQ => ?_)
  refine lv_aload_n hx hb dL_bars_0 rfl (lv_at hl 3 rfl) ?_
  refine lv_iconst (v := 0) hx hb dL_bars_1 (by decide) ?_
  refine lv_aload_n hx hb dL_bars_2 rfl (lv_at hl 0 rfl) ?_
  refine lv_iload_n hx hb dL_bars_3 rfl (lv_at hl 1 rfl) ?_
  refine lv_iload_n hx hb dL_bars_4 rfl (lv_at hl 2 rfl) ?_
  have hPc := hP.sub (ws' := (ceX10_bars cyI cyB cyJ cyZ a0 a1 a2 a3 a4 a5 a6 a7 a8 a9 a10 a11 a12 b0_tape b0_kept b0_draftGround b0_draftLaw b0_pack b0_pieces b0_thinning b1_marks b1_stroll g0_imageKept g0_wrongByte g1_drawSeed g2_texts g7_lines g2_ways g2_wallCount f3 f4 f5 f6 g7_size f9 f8 g10_rows g10_columns f11 f12)) [0, 1, 2, 3, 4, 5, 6, 7, 8, 9, 10, 11, 12] rfl
  have hDc := hD.sub (ws' := (ceX10_bars cyI cyB cyJ cyZ a0 a1 a2 a3 a4 a5 a6 a7 a8 a9 a10 a11 a12 b0_tape b0_kept b0_draftGround b0_draftLaw b0_pack b0_pieces b0_thinning b1_marks b1_stroll g0_imageKept g0_wrongByte g1_drawSeed g2_texts g7_lines g2_ways g2_wallCount f3 f4 f5 f6 g7_size f9 f8 g10_rows g10_columns f11 f12)) [0, 1, 2, 3, 4, 5, 6, 7, 8, 9, 10, 11, 12] (by decide) rfl
  have hFc := va_free (wc := (ceX10_bars cyI cyB cyJ cyZ a0 a1 a2 a3 a4 a5 a6 a7 a8 a9 a10 a11 a12 b0_tape b0_kept b0_draftGround b0_draftLaw b0_pack b0_pieces b0_thinning b1_marks b1_stroll g0_imageKept g0_wrongByte g1_drawSeed g2_texts g7_lines g2_ways g2_wallCount f3 f4 f5 f6 g7_size f9 f8 g10_rows g10_columns f11 f12)) hD hS hA [0, 1, 2, 3, 4, 5, 6, 7, 8, 9, 10, 11, 12] rfl
  refine vx_calli (vx_runV (As := [.int p1, .int p2]) (rest := [.int 0, .ref a13]) ⟨hx, hb, hml, hown, hts⟩ (ctX10_bars l hl0 dC dI cyI cyB cyJ cyZ _ a0 a1 a2 a3 a4 a5 a6 a7 a8 a9 a10 a11 a12 b0_tape b0_kept b0_draftGround b0_draftLaw b0_pack b0_pieces b0_thinning b1_marks b1_stroll g0_imageKept g0_wrongByte g1_drawSeed g2_texts g7_lines g2_ways g2_wallCount f3 f4 f5 f6 g7_size f9 f8 g10_rows g10_columns f11 f12 p1 p2 _ _ adS hw) (cwV 2 hts gL_bars_X10_bars rfl rfl rfl (by decide +kernel) ⟨Nat.le_of_ble_eq_true rfl, Nat.le_of_ble_eq_true rfl⟩) ⟨wPreX_blind (xOk_txT adS), va_recv hK hPc (ci := 10) (q0 := 0) rfl rfl, fun U hU hW => wPreX_of (xOk_txT adS) hPc hK hDc hN hXs.1 hS hFc hU hW⟩ rfl rfl hl.1 rfl (lv_room (Nat.le_of_ble_eq_true rfl)) dL_bars_5 ⟨(by decide), (by decide)⟩) hS (fun q _ h => hFc q h) hFc (fun q _ h => hFc q h) (fun E ce q9 u1 t H1 locs ht hvm hpx hBX hz1 hk1 hS hce hcv hcl => ?_) (fun r2 u1 t H1 locs ht hvm hw hB hz1 hk1 hS => ?_)
  · obtain ⟨hw, hP1, hK1, hD1⟩ := hBX
    rw [ht] at hP1
    obtain ⟨hP, hD⟩ := va_join (wr := pickW (ceL_bars cyI cyB cyJ cyZ a0 a1 a2 a3 a4 a5 a6 a7 a8 a9 a10 a11 a12 a13 b0_tape b0_kept b0_draftGround b0_draftLaw b0_pack b0_pieces b0_thinning b1_marks b1_stroll n13 g0_imageKept g0_wrongByte g1_drawSeed g2_texts g7_lines g2_ways g2_wallCount f3 f4 f5 f6 g7_size f9 f8 g10_rows g10_columns f11 f12 f13) [13]) (w1 := (ceX10_bars cyI cyB cyJ cyZ a0 a1 a2 a3 a4 a5 a6 a7 a8 a9 a10 a11 a12 b0_tape b0_kept b0_draftGround b0_draftLaw b0_pack b0_pieces b0_thinning b1_marks b1_stroll g0_imageKept g0_wrongByte g1_drawSeed g2_texts g7_lines g2_ways g2_wallCount f3 f4 f5 f6 g7_size f9 u1.1 u1.2.1 u1.2.2.1 u1.2.2.2.1 u1.2.2.2.2)) hP hD [0, 1, 2, 3, 4, 5, 6, 7, 8, 9, 10, 11, 12] [13] rfl rfl (by decide) (by decide) hk1 hFc hP1 hD1
    have hP := hP.sub (ws' := (ceL_bars cyI cyB cyJ cyZ a0 a1 a2 a3 a4 a5 a6 a7 a8 a9 a10 a11 a12 a13 b0_tape b0_kept b0_draftGround b0_draftLaw b0_pack b0_pieces b0_thinning b1_marks b1_stroll n13 g0_imageKept g0_wrongByte g1_drawSeed g2_texts g7_lines g2_ways g2_wallCount f3 f4 f5 f6 g7_size f9 u1.1 u1.2.1 u1.2.2.1 u1.2.2.2.1 u1.2.2.2.2 f13)) [1, 2, 3, 4, 5, 6, 7, 8, 9, 10, 11, 12, 13, 0] rfl
    have hD := hD.sub (ws' := (ceL_bars cyI cyB cyJ cyZ a0 a1 a2 a3 a4 a5 a6 a7 a8 a9 a10 a11 a12 a13 b0_tape b0_kept b0_draftGround b0_draftLaw b0_pack b0_pieces b0_thinning b1_marks b1_stroll n13 g0_imageKept g0_wrongByte g1_drawSeed g2_texts g7_lines g2_ways g2_wallCount f3 f4 f5 f6 g7_size f9 u1.1 u1.2.1 u1.2.2.1 u1.2.2.2.1 u1.2.2.2.2 f13)) [1, 2, 3, 4, 5, 6, 7, 8, 9, 10, 11, 12, 13, 0] (by decide) rfl
    obtain ⟨hw0, hE⟩ := hw
    subst hE
    have hw := hw0 rfl
    refine ec_catch (name := "java/lang/IndexOutOfBoundsException") hown [] _ _ (htb.trans rfl) (fun z hz => by cases hz) (by decide) (by decide) (hts (.classLink RL 24 "java/lang/IndexOutOfBoundsException") (List.mem_of_getElem? (i := 1) rfl)) (va_Nw.use rfl (hXs.1.2.2.2 (.castable "java/lang/IndexOutOfBoundsException" "java/lang/IndexOutOfBoundsException") (by decide +kernel))) hce hcv hcl ?_
    refine W.eq (g2 := F0 m 13 ls [.ref q9]) rfl ?_
    refine lv_astore (lv' := [(4, .ref q9), (0, .ref a0), (1, .int p1), (2, .int p2), (3, .ref a13)]) hx hb dL_bars_13 hl (by decide) rfl (fun ls hl => ?_)
    refine lv_iconst (v := 1) hx hb dL_bars_15 (by decide) ?_
    rw [hQ]
    refine W.widen (k := 2) (n := 12) (by decide) (by decide) ?_
    exact W.iret (v := 1) hx hb hr (fun t ht hW => ⟨⟨1, (u1.1, u1.2.1, u1.2.2.1, u1.2.2.2.1, u1.2.2.2.2, f13), rfl, hw, by rw [ht]; exact hP, va_K.moved hW.alike hK, hD⟩, hS.F ht⟩) hS.2.2 dL_bars_16
  -- returned
  obtain ⟨hP1, hK1, hD1⟩ := hB
  rw [ht] at hP1
  obtain ⟨hP, hD⟩ := va_join (wr := pickW (ceL_bars cyI cyB cyJ cyZ a0 a1 a2 a3 a4 a5 a6 a7 a8 a9 a10 a11 a12 a13 b0_tape b0_kept b0_draftGround b0_draftLaw b0_pack b0_pieces b0_thinning b1_marks b1_stroll n13 g0_imageKept g0_wrongByte g1_drawSeed g2_texts g7_lines g2_ways g2_wallCount f3 f4 f5 f6 g7_size f9 f8 g10_rows g10_columns f11 f12 f13) [13]) (w1 := (ceX10_bars cyI cyB cyJ cyZ a0 a1 a2 a3 a4 a5 a6 a7 a8 a9 a10 a11 a12 b0_tape b0_kept b0_draftGround b0_draftLaw b0_pack b0_pieces b0_thinning b1_marks b1_stroll g0_imageKept g0_wrongByte g1_drawSeed g2_texts g7_lines g2_ways g2_wallCount f3 f4 f5 f6 g7_size f9 u1.1 u1.2.1 u1.2.2.1 u1.2.2.2.1 u1.2.2.2.2)) hP hD [0, 1, 2, 3, 4, 5, 6, 7, 8, 9, 10, 11, 12] [13] rfl rfl (by decide) (by decide) hk1 hFc hP1 hD1
  have hP := hP.sub (ws' := (ceL_bars cyI cyB cyJ cyZ a0 a1 a2 a3 a4 a5 a6 a7 a8 a9 a10 a11 a12 a13 b0_tape b0_kept b0_draftGround b0_draftLaw b0_pack b0_pieces b0_thinning b1_marks b1_stroll n13 g0_imageKept g0_wrongByte g1_drawSeed g2_texts g7_lines g2_ways g2_wallCount f3 f4 f5 f6 g7_size f9 u1.1 u1.2.1 u1.2.2.1 u1.2.2.2.1 u1.2.2.2.2 f13)) [1, 2, 3, 4, 5, 6, 7, 8, 9, 10, 11, 12, 13, 0] rfl
  have hD := hD.sub (ws' := (ceL_bars cyI cyB cyJ cyZ a0 a1 a2 a3 a4 a5 a6 a7 a8 a9 a10 a11 a12 a13 b0_tape b0_kept b0_draftGround b0_draftLaw b0_pack b0_pieces b0_thinning b1_marks b1_stroll n13 g0_imageKept g0_wrongByte g1_drawSeed g2_texts g7_lines g2_ways g2_wallCount f3 f4 f5 f6 g7_size f9 u1.1 u1.2.1 u1.2.2.1 u1.2.2.2.1 u1.2.2.2.2 f13)) [1, 2, 3, 4, 5, 6, 7, 8, 9, 10, 11, 12, 13, 0] (by decide) rfl
  generalize H1 = H at hP hS ⊢
  refine W.widen (k := 2) (n := 12) (by decide) (by decide) ?_
  refine lv_i2l hx hb dL_bars_8 rfl ?_
  obtain ⟨hi, hw⟩ := hw
  refine va_last hx hb hK hP hD hS 13 2 rfl rfl hi dL_bars_9 (fun H locs hP hD hS => ?_)
  have hP : va_P (dC, dI) vwCl (ceL_bars cyI cyB cyJ cyZ a0 a1 a2 a3 a4 a5 a6 a7 a8 a9 a10 a11 a12 a13 b0_tape b0_kept b0_draftGround b0_draftLaw b0_pack b0_pieces b0_thinning b1_marks b1_stroll n13 g0_imageKept g0_wrongByte g1_drawSeed g2_texts g7_lines g2_ways g2_wallCount f3 f4 f5 f6 g7_size f9 u1.1 u1.2.1 u1.2.2.1 u1.2.2.2.1 u1.2.2.2.2 (vp_updL f13 (0 : Int32).toNatClampNeg (r2.toInt64))) H := hP
  have hD : va_D A (ceL_bars cyI cyB cyJ cyZ a0 a1 a2 a3 a4 a5 a6 a7 a8 a9 a10 a11 a12 a13 b0_tape b0_kept b0_draftGround b0_draftLaw b0_pack b0_pieces b0_thinning b1_marks b1_stroll n13 g0_imageKept g0_wrongByte g1_drawSeed g2_texts g7_lines g2_ways g2_wallCount f3 f4 f5 f6 g7_size f9 u1.1 u1.2.1 u1.2.2.1 u1.2.2.2.1 u1.2.2.2.2 (vp_updL f13 (0 : Int32).toNatClampNeg (r2.toInt64))) := hD
  refine lv_goto (tgt := 17) hx hb dL_bars_10 (by decide) ?_
  refine lv_iconst (v := 0) hx hb dL_bars_17 (by decide) ?_
  rw [hQ]
  refine W.widen (k := 2) (n := 12) (by decide) (by decide) ?_
  exact W.iret (v := 0) hx hb hr (fun t ht hW => ⟨⟨0, (u1.1, u1.2.1, u1.2.2.1, u1.2.2.2.1, u1.2.2.2.2, (vp_updL f13 (0 : Int32).toNatClampNeg (r2.toInt64))), rfl, hw, by rw [ht]; exact hP, va_K.moved hW.alike hK, hD⟩, hS.F ht⟩) hS.2.2 dL_bars_18
