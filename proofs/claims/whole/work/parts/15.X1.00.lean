/-! LeadPark$Ground.copyFrom (LLeadPark$Ground;)V -/
abbrev ceX1_copyFrom (cyI cyB cyJ cyZ : ClassId) (a0 a1 a2 a3 a4 a5 a6 a7 a8 a9 : Nat) (g5_ways : Int32) (g5_wallCount : Int32) (g5_texts : Int32) (f6 : Nat → Int32) (f7 : Nat → Int32) (f8 : Nat → Int32) (f9 : Nat → Int32) (g0_ways : Int32) (g0_wallCount : Int32) (g0_texts : Int32) (f1 : Nat → Int32) (f2 : Nat → Int32) (f3 : Nat → Int32) (f4 : Nat → Int32) : va_W := [(a0, .inr (1, [.ref a1, .ref a2, .ref a3, .ref a4, .int g0_ways, .int g0_wallCount, .int g0_texts])), (a1, .inl (cyI, 360, .inl f1)), (a2, .inl (cyI, 360, .inl f2)), (a3, .inl (cyI, 12, .inl f3)), (a4, .inl (cyI, 32, .inl f4)), (a5, .inr (1, [.ref a6, .ref a7, .ref a8, .ref a9, .int g5_ways, .int g5_wallCount, .int g5_texts])), (a6, .inl (cyI, 360, .inl f6)), (a7, .inl (cyI, 360, .inl f7)), (a8, .inl (cyI, 12, .inl f8)), (a9, .inl (cyI, 32, .inl f9))]

theorem inX1_copyFrom_X1 : ∀ w ∈ wsX10, w ∈ wsX1_copyFrom := fun _ h => List.mem_cons_of_mem _ (List.mem_append_right _ h)
abbrev rmX1_copyFrom : Room := { frames := 1, cells := 0, slots := 0, locals := 64 }
set_option maxRecDepth 100000 in
set_option maxHeartbeats 4000000 in
theorem ctX1_copyFrom (l : Launch) (dC : Nat → ClassId) (dI : Nat → Nat → Nat) (cyI cyB cyJ cyZ : ClassId) (sz : Nat) (a0 a1 a2 a3 a4 a5 a6 a7 a8 a9 : Nat) (g5_ways : Int32) (g5_wallCount : Int32) (g5_texts : Int32) (f6 : Nat → Int32) (f7 : Nat → Int32) (f8 : Nat → Int32) (f9 : Nat → Int32) (g0_ways : Int32) (g0_wallCount : Int32) (g0_texts : Int32) (f1 : Nat → Int32) (f2 : Nat → Int32) (f3 : Nat → Int32) (f4 : Nat → Int32) (post : (Int32 × Int32 × Int32 × (Nat → Int32) × (Nat → Int32) × (Nat → Int32) × (Nat → Int32)) → Prop) (hw : wpX1_copyFrom post g5_ways g5_wallCount g5_texts f6 f7 f8 f9 g0_ways g0_wallCount g0_texts f1 f2 f3 f4 ) : Met l yX1_copyFrom wsX1_copyFrom rmX1_copyFrom (va_Pc [.ref a0, .ref a5] (wPre dC dI cyI cyB cyJ cyZ sz (ceX1_copyFrom cyI cyB cyJ cyZ a0 a1 a2 a3 a4 a5 a6 a7 a8 a9 g5_ways g5_wallCount g5_texts f6 f7 f8 f9 g0_ways g0_wallCount g0_texts f1 f2 f3 f4))) (va_Qv post (fun u : Int32 × Int32 × Int32 × (Nat → Int32) × (Nat → Int32) × (Nat → Int32) × (Nat → Int32) => wAt dC dI cyI cyB cyJ cyZ (va_A (ceX1_copyFrom cyI cyB cyJ cyZ a0 a1 a2 a3 a4 a5 a6 a7 a8 a9 g5_ways g5_wallCount g5_texts f6 f7 f8 f9 g0_ways g0_wallCount g0_texts f1 f2 f3 f4) sz) (ceX1_copyFrom cyI cyB cyJ cyZ a0 a1 a2 a3 a4 a5 a6 a7 a8 a9 g5_ways g5_wallCount g5_texts f6 f7 f8 f9 u.1 u.2.1 u.2.2.1 u.2.2.2.1 u.2.2.2.2.1 u.2.2.2.2.2.1 u.2.2.2.2.2.2)) (va_A (ceX1_copyFrom cyI cyB cyJ cyZ a0 a1 a2 a3 a4 a5 a6 a7 a8 a9 g5_ways g5_wallCount g5_texts f6 f7 f8 f9 g0_ways g0_wallCount g0_texts f1 f2 f3 f4) sz)) 0 0 (va_A (ceX1_copyFrom cyI cyB cyJ cyZ a0 a1 a2 a3 a4 a5 a6 a7 a8 a9 g5_ways g5_wallCount g5_texts f6 f7 f8 f9 g0_ways g0_wallCount g0_texts f1 f2 f3 f4) sz) := by
  refine Met.ofW (cc := cX1_copyFrom) (maxL := 2) (ret := none) (by decide) rfl ?_
  intro p e s m args below meth c s₁ B hml hv
  obtain ⟨rfl, hsz, hP, hK, hD0, hN⟩ := hv
  have hx := B.exec
  have hb := B.bytes
  have hr := B.returns
  have hts := atoms_spec (ws := wsX1_copyFrom) B.pre
  have hown : s.vm.findClass RX1 = some m.cls := findClass_of_methodNamed B.named
  have hlocks := B.notSynchronized
  subst hsz
  have hD := hD0.self (sz := s.heap.size)
  generalize hAe : va_A (ceX1_copyFrom cyI cyB cyJ cyZ a0 a1 a2 a3 a4 a5 a6 a7 a8 a9 g5_ways g5_wallCount g5_texts f6 f7 f8 f9 g0_ways g0_wallCount g0_texts f1 f2 f3 f4) s.heap.size = A at hD ⊢
  have hA : ∀ q : Nat, s.heap.size ≤ q → A q := fun q h => by rw [← hAe]; exact Or.inr h
  have hS : va_S A s.heap s.heap [] := va_S.rf
  have C0 : cxM p s m meth c _ wsX1_copyFrom RX1 cX1_copyFrom 2 none := ⟨hx, hb, hr, hml, hown, hts, hlocks⟩
  have hl := lv_entry ([.ref a0, .ref a5]) (n := 2) (Nat.le_of_ble_eq_true rfl)
  rw [lg_entry_eq]
  generalize (lg_sl ([.ref a0, .ref a5]) ++ List.replicate (2 - (lg_sl ([.ref a0, .ref a5])).length) Slot.unset).toArray = ls at hl ⊢
  have hl : lv_has ls 2 [(0, .ref a0), (1, .ref a5)] := hl
  show W p l e rmX1_copyFrom s m _ below meth c _ _ _ _ _ _
  refine wq (fun Q hQ => ?_)
  refine lv_aload_n hx hb dX1_copyFrom_0 rfl (lv_at hl 1 rfl) ?_
  refine va_get (D := (dC, dI)) (ci := 1) (v := .ref a6) (C := RX1) (T := TX1) (N := 7) hx hb hts inX1_copyFrom_X1 hown hK hP 5 rfl rfl 0 (by decide) (hts (.fieldLink RX1 9 "LeadPark$Ground" "xs" "[I") (List.mem_of_getElem? (i := 1) rfl)) (fun _ h9 => h9) rfl dX1_copyFrom_1 ?_
  refine lv_iconst (v := 0) hx hb dX1_copyFrom_4 (by decide) ?_
  refine lv_aload_n hx hb dX1_copyFrom_5 rfl (lv_at hl 0 rfl) ?_
  refine va_get (D := (dC, dI)) (ci := 1) (v := .ref a1) (C := RX1) (T := TX1) (N := 7) hx hb hts inX1_copyFrom_X1 hown hK hP 0 rfl rfl 0 (by decide) (hts (.fieldLink RX1 9 "LeadPark$Ground" "xs" "[I") (List.mem_of_getElem? (i := 1) rfl)) (fun _ h9 => h9) rfl dX1_copyFrom_6 ?_
  refine lv_iconst (v := 0) hx hb dX1_copyFrom_9 (by decide) ?_
  refine lv_aload_n hx hb dX1_copyFrom_10 rfl (lv_at hl 0 rfl) ?_
  refine va_get (D := (dC, dI)) (ci := 1) (v := .ref a1) (C := RX1) (T := TX1) (N := 7) hx hb hts inX1_copyFrom_X1 hown hK hP 0 rfl rfl 0 (by decide) (hts (.fieldLink RX1 9 "LeadPark$Ground" "xs" "[I") (List.mem_of_getElem? (i := 1) rfl)) (fun _ h9 => h9) rfl dX1_copyFrom_11 ?_
  refine va_alen (v := 360) hx hb hK hP 1 0 rfl rfl rfl dX1_copyFrom_14 ?_
  refine va_copyi (ty := .int) hx hb (hml.trans hl.1.symm) hown (hts (.methodLink RX1 34 arraycopyName) (List.mem_of_getElem? (i := 2) rfl)) (hts (.native arraycopyName) (List.mem_of_getElem? (i := 3) rfl)) (hts (.static arraycopyName) (List.mem_of_getElem? (i := 4) rfl)) (hts (.initialized "java/lang/System") (List.mem_of_getElem? (i := 5) rfl)) hK hP hD hS 6 1 0 0 rfl rfl rfl rfl rfl (by decide) (by decide) (by decide) (by decide) (by decide) (fun _ _ => rfl) (Nat.le_of_ble_eq_true rfl) (Nat.le_of_ble_eq_true rfl) dX1_copyFrom_15 (fun H locs hP hD hS => ?_)
  have hP : va_P (dC, dI) vwCl (ceX1_copyFrom cyI cyB cyJ cyZ a0 a1 a2 a3 a4 a5 a6 a7 a8 a9 g5_ways g5_wallCount g5_texts f6 f7 f8 f9 g0_ways g0_wallCount g0_texts (va_cpy f6 f1 (0 : Int32).toNatClampNeg (0 : Int32).toNatClampNeg (360 : Int32).toNatClampNeg) f2 f3 f4) H := hP
  have hD : va_D A (ceX1_copyFrom cyI cyB cyJ cyZ a0 a1 a2 a3 a4 a5 a6 a7 a8 a9 g5_ways g5_wallCount g5_texts f6 f7 f8 f9 g0_ways g0_wallCount g0_texts (va_cpy f6 f1 (0 : Int32).toNatClampNeg (0 : Int32).toNatClampNeg (360 : Int32).toNatClampNeg) f2 f3 f4) := hD
  refine lv_aload_n hx hb dX1_copyFrom_18 rfl (lv_at hl 1 rfl) ?_
  refine va_get (D := (dC, dI)) (ci := 1) (v := .ref a7) (C := RX1) (T := TX1) (N := 7) hx hb hts inX1_copyFrom_X1 hown hK hP 5 rfl rfl 1 (by decide) (hts (.fieldLink RX1 15 "LeadPark$Ground" "ys" "[I") (List.mem_of_getElem? (i := 6) rfl)) (fun _ h9 => h9) rfl dX1_copyFrom_19 ?_
  refine lv_iconst (v := 0) hx hb dX1_copyFrom_22 (by decide) ?_
  refine lv_aload_n hx hb dX1_copyFrom_23 rfl (lv_at hl 0 rfl) ?_
  refine va_get (D := (dC, dI)) (ci := 1) (v := .ref a2) (C := RX1) (T := TX1) (N := 7) hx hb hts inX1_copyFrom_X1 hown hK hP 0 rfl rfl 1 (by decide) (hts (.fieldLink RX1 15 "LeadPark$Ground" "ys" "[I") (List.mem_of_getElem? (i := 6) rfl)) (fun _ h9 => h9) rfl dX1_copyFrom_24 ?_
  refine lv_iconst (v := 0) hx hb dX1_copyFrom_27 (by decide) ?_
  refine lv_aload_n hx hb dX1_copyFrom_28 rfl (lv_at hl 0 rfl) ?_
  refine va_get (D := (dC, dI)) (ci := 1) (v := .ref a2) (C := RX1) (T := TX1) (N := 7) hx hb hts inX1_copyFrom_X1 hown hK hP 0 rfl rfl 1 (by decide) (hts (.fieldLink RX1 15 "LeadPark$Ground" "ys" "[I") (List.mem_of_getElem? (i := 6) rfl)) (fun _ h9 => h9) rfl dX1_copyFrom_29 ?_
  refine va_alen (v := 360) hx hb hK hP 2 0 rfl rfl rfl dX1_copyFrom_32 ?_
  refine va_copyi (ty := .int) hx hb (hml.trans hl.1.symm) hown (hts (.methodLink RX1 34 arraycopyName) (List.mem_of_getElem? (i := 2) rfl)) (hts (.native arraycopyName) (List.mem_of_getElem? (i := 3) rfl)) (hts (.static arraycopyName) (List.mem_of_getElem? (i := 4) rfl)) (hts (.initialized "java/lang/System") (List.mem_of_getElem? (i := 5) rfl)) hK hP hD hS 7 2 0 0 rfl rfl rfl rfl rfl (by decide) (by decide) (by decide) (by decide) (by decide) (fun _ _ => rfl) (Nat.le_of_ble_eq_true rfl) (Nat.le_of_ble_eq_true rfl) dX1_copyFrom_33 (fun H locs hP hD hS => ?_)
  have hP : va_P (dC, dI) vwCl (ceX1_copyFrom cyI cyB cyJ cyZ a0 a1 a2 a3 a4 a5 a6 a7 a8 a9 g5_ways g5_wallCount g5_texts f6 f7 f8 f9 g0_ways g0_wallCount g0_texts (va_cpy f6 f1 (0 : Int32).toNatClampNeg (0 : Int32).toNatClampNeg (360 : Int32).toNatClampNeg) (va_cpy f7 f2 (0 : Int32).toNatClampNeg (0 : Int32).toNatClampNeg (360 : Int32).toNatClampNeg) f3 f4) H := hP
  have hD : va_D A (ceX1_copyFrom cyI cyB cyJ cyZ a0 a1 a2 a3 a4 a5 a6 a7 a8 a9 g5_ways g5_wallCount g5_texts f6 f7 f8 f9 g0_ways g0_wallCount g0_texts (va_cpy f6 f1 (0 : Int32).toNatClampNeg (0 : Int32).toNatClampNeg (360 : Int32).toNatClampNeg) (va_cpy f7 f2 (0 : Int32).toNatClampNeg (0 : Int32).toNatClampNeg (360 : Int32).toNatClampNeg) f3 f4) := hD
  refine lv_aload_n hx hb dX1_copyFrom_36 rfl (lv_at hl 1 rfl) ?_
  refine va_get (D := (dC, dI)) (ci := 1) (v := .ref a8) (C := RX1) (T := TX1) (N := 7) hx hb hts inX1_copyFrom_X1 hown hK hP 5 rfl rfl 2 (by decide) (hts (.fieldLink RX1 18 "LeadPark$Ground" "counts" "[I") (List.mem_of_getElem? (i := 7) rfl)) (fun _ h9 => h9) rfl dX1_copyFrom_37 ?_
  refine lv_iconst (v := 0) hx hb dX1_copyFrom_40 (by decide) ?_
  refine lv_aload_n hx hb dX1_copyFrom_41 rfl (lv_at hl 0 rfl) ?_
  refine va_get (D := (dC, dI)) (ci := 1) (v := .ref a3) (C := RX1) (T := TX1) (N := 7) hx hb hts inX1_copyFrom_X1 hown hK hP 0 rfl rfl 2 (by decide) (hts (.fieldLink RX1 18 "LeadPark$Ground" "counts" "[I") (List.mem_of_getElem? (i := 7) rfl)) (fun _ h9 => h9) rfl dX1_copyFrom_42 ?_
  refine lv_iconst (v := 0) hx hb dX1_copyFrom_45 (by decide) ?_
  refine lv_aload_n hx hb dX1_copyFrom_46 rfl (lv_at hl 0 rfl) ?_
  refine va_get (D := (dC, dI)) (ci := 1) (v := .ref a3) (C := RX1) (T := TX1) (N := 7) hx hb hts inX1_copyFrom_X1 hown hK hP 0 rfl rfl 2 (by decide) (hts (.fieldLink RX1 18 "LeadPark$Ground" "counts" "[I") (List.mem_of_getElem? (i := 7) rfl)) (fun _ h9 => h9) rfl dX1_copyFrom_47 ?_
  refine va_alen (v := 12) hx hb hK hP 3 0 rfl rfl rfl dX1_copyFrom_50 ?_
  refine va_copyi (ty := .int) hx hb (hml.trans hl.1.symm) hown (hts (.methodLink RX1 34 arraycopyName) (List.mem_of_getElem? (i := 2) rfl)) (hts (.native arraycopyName) (List.mem_of_getElem? (i := 3) rfl)) (hts (.static arraycopyName) (List.mem_of_getElem? (i := 4) rfl)) (hts (.initialized "java/lang/System") (List.mem_of_getElem? (i := 5) rfl)) hK hP hD hS 8 3 0 0 rfl rfl rfl rfl rfl (by decide) (by decide) (by decide) (by decide) (by decide) (fun _ _ => rfl) (Nat.le_of_ble_eq_true rfl) (Nat.le_of_ble_eq_true rfl) dX1_copyFrom_51 (fun H locs hP hD hS => ?_)
  have hP : va_P (dC, dI) vwCl (ceX1_copyFrom cyI cyB cyJ cyZ a0 a1 a2 a3 a4 a5 a6 a7 a8 a9 g5_ways g5_wallCount g5_texts f6 f7 f8 f9 g0_ways g0_wallCount g0_texts (va_cpy f6 f1 (0 : Int32).toNatClampNeg (0 : Int32).toNatClampNeg (360 : Int32).toNatClampNeg) (va_cpy f7 f2 (0 : Int32).toNatClampNeg (0 : Int32).toNatClampNeg (360 : Int32).toNatClampNeg) (va_cpy f8 f3 (0 : Int32).toNatClampNeg (0 : Int32).toNatClampNeg (12 : Int32).toNatClampNeg) f4) H := hP
  have hD : va_D A (ceX1_copyFrom cyI cyB cyJ cyZ a0 a1 a2 a3 a4 a5 a6 a7 a8 a9 g5_ways g5_wallCount g5_texts f6 f7 f8 f9 g0_ways g0_wallCount g0_texts (va_cpy f6 f1 (0 : Int32).toNatClampNeg (0 : Int32).toNatClampNeg (360 : Int32).toNatClampNeg) (va_cpy f7 f2 (0 : Int32).toNatClampNeg (0 : Int32).toNatClampNeg (360 : Int32).toNatClampNeg) (va_cpy f8 f3 (0 : Int32).toNatClampNeg (0 : Int32).toNatClampNeg (12 : Int32).toNatClampNeg) f4) := hD
  refine lv_aload_n hx hb dX1_copyFrom_54 rfl (lv_at hl 1 rfl) ?_
  refine va_get (D := (dC, dI)) (ci := 1) (v := .ref a9) (C := RX1) (T := TX1) (N := 7) hx hb hts inX1_copyFrom_X1 hown hK hP 5 rfl rfl 3 (by decide) (hts (.fieldLink RX1 21 "LeadPark$Ground" "walls" "[I") (List.mem_of_getElem? (i := 8) rfl)) (fun _ h9 => h9) rfl dX1_copyFrom_55 ?_
  refine lv_iconst (v := 0) hx hb dX1_copyFrom_58 (by decide) ?_
  refine lv_aload_n hx hb dX1_copyFrom_59 rfl (lv_at hl 0 rfl) ?_
  refine va_get (D := (dC, dI)) (ci := 1) (v := .ref a4) (C := RX1) (T := TX1) (N := 7) hx hb hts inX1_copyFrom_X1 hown hK hP 0 rfl rfl 3 (by decide) (hts (.fieldLink RX1 21 "LeadPark$Ground" "walls" "[I") (List.mem_of_getElem? (i := 8) rfl)) (fun _ h9 => h9) rfl dX1_copyFrom_60 ?_
  refine lv_iconst (v := 0) hx hb dX1_copyFrom_63 (by decide) ?_
  refine lv_aload_n hx hb dX1_copyFrom_64 rfl (lv_at hl 0 rfl) ?_
  refine va_get (D := (dC, dI)) (ci := 1) (v := .ref a4) (C := RX1) (T := TX1) (N := 7) hx hb hts inX1_copyFrom_X1 hown hK hP 0 rfl rfl 3 (by decide) (hts (.fieldLink RX1 21 "LeadPark$Ground" "walls" "[I") (List.mem_of_getElem? (i := 8) rfl)) (fun _ h9 => h9) rfl dX1_copyFrom_65 ?_
  refine va_alen (v := 32) hx hb hK hP 4 0 rfl rfl rfl dX1_copyFrom_68 ?_
  refine va_copyi (ty := .int) hx hb (hml.trans hl.1.symm) hown (hts (.methodLink RX1 34 arraycopyName) (List.mem_of_getElem? (i := 2) rfl)) (hts (.native arraycopyName) (List.mem_of_getElem? (i := 3) rfl)) (hts (.static arraycopyName) (List.mem_of_getElem? (i := 4) rfl)) (hts (.initialized "java/lang/System") (List.mem_of_getElem? (i := 5) rfl)) hK hP hD hS 9 4 0 0 rfl rfl rfl rfl rfl (by decide) (by decide) (by decide) (by decide) (by decide) (fun _ _ => rfl) (Nat.le_of_ble_eq_true rfl) (Nat.le_of_ble_eq_true rfl) dX1_copyFrom_69 (fun H locs hP hD hS => ?_)
  have hP : va_P (dC, dI) vwCl (ceX1_copyFrom cyI cyB cyJ cyZ a0 a1 a2 a3 a4 a5 a6 a7 a8 a9 g5_ways g5_wallCount g5_texts f6 f7 f8 f9 g0_ways g0_wallCount g0_texts (va_cpy f6 f1 (0 : Int32).toNatClampNeg (0 : Int32).toNatClampNeg (360 : Int32).toNatClampNeg) (va_cpy f7 f2 (0 : Int32).toNatClampNeg (0 : Int32).toNatClampNeg (360 : Int32).toNatClampNeg) (va_cpy f8 f3 (0 : Int32).toNatClampNeg (0 : Int32).toNatClampNeg (12 : Int32).toNatClampNeg) (va_cpy f9 f4 (0 : Int32).toNatClampNeg (0 : Int32).toNatClampNeg (32 : Int32).toNatClampNeg)) H := hP
  have hD : va_D A (ceX1_copyFrom cyI cyB cyJ cyZ a0 a1 a2 a3 a4 a5 a6 a7 a8 a9 g5_ways g5_wallCount g5_texts f6 f7 f8 f9 g0_ways g0_wallCount g0_texts (va_cpy f6 f1 (0 : Int32).toNatClampNeg (0 : Int32).toNatClampNeg (360 : Int32).toNatClampNeg) (va_cpy f7 f2 (0 : Int32).toNatClampNeg (0 : Int32).toNatClampNeg (360 : Int32).toNatClampNeg) (va_cpy f8 f3 (0 : Int32).toNatClampNeg (0 : Int32).toNatClampNeg (12 : Int32).toNatClampNeg) (va_cpy f9 f4 (0 : Int32).toNatClampNeg (0 : Int32).toNatClampNeg (32 : Int32).toNatClampNeg)) := hD
  refine lv_aload_n hx hb dX1_copyFrom_72 rfl (lv_at hl 0 rfl) ?_
  refine lv_aload_n hx hb dX1_copyFrom_73 rfl (lv_at hl 1 rfl) ?_
  refine va_get (D := (dC, dI)) (ci := 1) (v := .int g5_ways) (C := RX1) (T := TX1) (N := 7) hx hb hts inX1_copyFrom_X1 hown hK hP 5 rfl rfl 4 (by decide) (hts (.fieldLink RX1 24 "LeadPark$Ground" "ways" "I") (List.mem_of_getElem? (i := 9) rfl)) (fun _ h9 => h9) rfl dX1_copyFrom_74 ?_
  refine va_put (D := (dC, dI)) (ci := 1) (v := .int g5_ways) (ty := .int) (C := RX1) (T := TX1) (N := 7) hx hb hts inX1_copyFrom_X1 tyX1 tyX1_ok nmX1 hown hK hP hD hS 0 rfl rfl 4 (by decide) (hts (.fieldLink RX1 24 "LeadPark$Ground" "ways" "I") (List.mem_of_getElem? (i := 9) rfl)) (fun _ h9 => h9) rfl (by decide +kernel) rfl rfl (Nat.le_of_ble_eq_true rfl) dX1_copyFrom_77 (fun H locs hP hD hS => ?_)
  have hP : va_P (dC, dI) vwCl (ceX1_copyFrom cyI cyB cyJ cyZ a0 a1 a2 a3 a4 a5 a6 a7 a8 a9 g5_ways g5_wallCount g5_texts f6 f7 f8 f9 g5_ways g0_wallCount g0_texts (va_cpy f6 f1 (0 : Int32).toNatClampNeg (0 : Int32).toNatClampNeg (360 : Int32).toNatClampNeg) (va_cpy f7 f2 (0 : Int32).toNatClampNeg (0 : Int32).toNatClampNeg (360 : Int32).toNatClampNeg) (va_cpy f8 f3 (0 : Int32).toNatClampNeg (0 : Int32).toNatClampNeg (12 : Int32).toNatClampNeg) (va_cpy f9 f4 (0 : Int32).toNatClampNeg (0 : Int32).toNatClampNeg (32 : Int32).toNatClampNeg)) H := hP
  have hD : va_D A (ceX1_copyFrom cyI cyB cyJ cyZ a0 a1 a2 a3 a4 a5 a6 a7 a8 a9 g5_ways g5_wallCount g5_texts f6 f7 f8 f9 g5_ways g0_wallCount g0_texts (va_cpy f6 f1 (0 : Int32).toNatClampNeg (0 : Int32).toNatClampNeg (360 : Int32).toNatClampNeg) (va_cpy f7 f2 (0 : Int32).toNatClampNeg (0 : Int32).toNatClampNeg (360 : Int32).toNatClampNeg) (va_cpy f8 f3 (0 : Int32).toNatClampNeg (0 : Int32).toNatClampNeg (12 : Int32).toNatClampNeg) (va_cpy f9 f4 (0 : Int32).toNatClampNeg (0 : Int32).toNatClampNeg (32 : Int32).toNatClampNeg)) := hD
  refine lv_aload_n hx hb dX1_copyFrom_80 rfl (lv_at hl 0 rfl) ?_
  refine lv_aload_n hx hb dX1_copyFrom_81 rfl (lv_at hl 1 rfl) ?_
  refine va_get (D := (dC, dI)) (ci := 1) (v := .int g5_wallCount) (C := RX1) (T := TX1) (N := 7) hx hb hts inX1_copyFrom_X1 hown hK hP 5 rfl rfl 5 (by decide) (hts (.fieldLink RX1 28 "LeadPark$Ground" "wallCount" "I") (List.mem_of_getElem? (i := 10) rfl)) (fun _ h9 => h9) rfl dX1_copyFrom_82 ?_
  refine va_put (D := (dC, dI)) (ci := 1) (v := .int g5_wallCount) (ty := .int) (C := RX1) (T := TX1) (N := 7) hx hb hts inX1_copyFrom_X1 tyX1 tyX1_ok nmX1 hown hK hP hD hS 0 rfl rfl 5 (by decide) (hts (.fieldLink RX1 28 "LeadPark$Ground" "wallCount" "I") (List.mem_of_getElem? (i := 10) rfl)) (fun _ h9 => h9) rfl (by decide +kernel) rfl rfl (Nat.le_of_ble_eq_true rfl) dX1_copyFrom_85 (fun H locs hP hD hS => ?_)
  have hP : va_P (dC, dI) vwCl (ceX1_copyFrom cyI cyB cyJ cyZ a0 a1 a2 a3 a4 a5 a6 a7 a8 a9 g5_ways g5_wallCount g5_texts f6 f7 f8 f9 g5_ways g5_wallCount g0_texts (va_cpy f6 f1 (0 : Int32).toNatClampNeg (0 : Int32).toNatClampNeg (360 : Int32).toNatClampNeg) (va_cpy f7 f2 (0 : Int32).toNatClampNeg (0 : Int32).toNatClampNeg (360 : Int32).toNatClampNeg) (va_cpy f8 f3 (0 : Int32).toNatClampNeg (0 : Int32).toNatClampNeg (12 : Int32).toNatClampNeg) (va_cpy f9 f4 (0 : Int32).toNatClampNeg (0 : Int32).toNatClampNeg (32 : Int32).toNatClampNeg)) H := hP
  have hD : va_D A (ceX1_copyFrom cyI cyB cyJ cyZ a0 a1 a2 a3 a4 a5 a6 a7 a8 a9 g5_ways g5_wallCount g5_texts f6 f7 f8 f9 g5_ways g5_wallCount g0_texts (va_cpy f6 f1 (0 : Int32).toNatClampNeg (0 : Int32).toNatClampNeg (360 : Int32).toNatClampNeg) (va_cpy f7 f2 (0 : Int32).toNatClampNeg (0 : Int32).toNatClampNeg (360 : Int32).toNatClampNeg) (va_cpy f8 f3 (0 : Int32).toNatClampNeg (0 : Int32).toNatClampNeg (12 : Int32).toNatClampNeg) (va_cpy f9 f4 (0 : Int32).toNatClampNeg (0 : Int32).toNatClampNeg (32 : Int32).toNatClampNeg)) := hD
  refine lv_aload_n hx hb dX1_copyFrom_88 rfl (lv_at hl 0 rfl) ?_
  refine lv_aload_n hx hb dX1_copyFrom_89 rfl (lv_at hl 1 rfl) ?_
  refine va_get (D := (dC, dI)) (ci := 1) (v := .int g5_texts) (C := RX1) (T := TX1) (N := 7) hx hb hts inX1_copyFrom_X1 hown hK hP 5 rfl rfl 6 (by decide) (hts (.fieldLink RX1 31 "LeadPark$Ground" "texts" "I") (List.mem_of_getElem? (i := 11) rfl)) (fun _ h9 => h9) rfl dX1_copyFrom_90 ?_
  refine va_put (D := (dC, dI)) (ci := 1) (v := .int g5_texts) (ty := .int) (C := RX1) (T := TX1) (N := 7) hx hb hts inX1_copyFrom_X1 tyX1 tyX1_ok nmX1 hown hK hP hD hS 0 rfl rfl 6 (by decide) (hts (.fieldLink RX1 31 "LeadPark$Ground" "texts" "I") (List.mem_of_getElem? (i := 11) rfl)) (fun _ h9 => h9) rfl (by decide +kernel) rfl rfl (Nat.le_of_ble_eq_true rfl) dX1_copyFrom_93 (fun H locs hP hD hS => ?_)
  have hP : va_P (dC, dI) vwCl (ceX1_copyFrom cyI cyB cyJ cyZ a0 a1 a2 a3 a4 a5 a6 a7 a8 a9 g5_ways g5_wallCount g5_texts f6 f7 f8 f9 g5_ways g5_wallCount g5_texts (va_cpy f6 f1 (0 : Int32).toNatClampNeg (0 : Int32).toNatClampNeg (360 : Int32).toNatClampNeg) (va_cpy f7 f2 (0 : Int32).toNatClampNeg (0 : Int32).toNatClampNeg (360 : Int32).toNatClampNeg) (va_cpy f8 f3 (0 : Int32).toNatClampNeg (0 : Int32).toNatClampNeg (12 : Int32).toNatClampNeg) (va_cpy f9 f4 (0 : Int32).toNatClampNeg (0 : Int32).toNatClampNeg (32 : Int32).toNatClampNeg)) H := hP
  have hD : va_D A (ceX1_copyFrom cyI cyB cyJ cyZ a0 a1 a2 a3 a4 a5 a6 a7 a8 a9 g5_ways g5_wallCount g5_texts f6 f7 f8 f9 g5_ways g5_wallCount g5_texts (va_cpy f6 f1 (0 : Int32).toNatClampNeg (0 : Int32).toNatClampNeg (360 : Int32).toNatClampNeg) (va_cpy f7 f2 (0 : Int32).toNatClampNeg (0 : Int32).toNatClampNeg (360 : Int32).toNatClampNeg) (va_cpy f8 f3 (0 : Int32).toNatClampNeg (0 : Int32).toNatClampNeg (12 : Int32).toNatClampNeg) (va_cpy f9 f4 (0 : Int32).toNatClampNeg (0 : Int32).toNatClampNeg (32 : Int32).toNatClampNeg)) := hD
  rw [hQ]
  exact W.vret hx hb hr (fun t ht hW => ⟨⟨(g5_ways, g5_wallCount, g5_texts, (va_cpy f6 f1 (0 : Int32).toNatClampNeg (0 : Int32).toNatClampNeg (360 : Int32).toNatClampNeg), (va_cpy f7 f2 (0 : Int32).toNatClampNeg (0 : Int32).toNatClampNeg (360 : Int32).toNatClampNeg), (va_cpy f8 f3 (0 : Int32).toNatClampNeg (0 : Int32).toNatClampNeg (12 : Int32).toNatClampNeg), (va_cpy f9 f4 (0 : Int32).toNatClampNeg (0 : Int32).toNatClampNeg (32 : Int32).toNatClampNeg)), rfl, hw, by rw [ht]; exact hP, va_K.moved hW.alike hK, hD⟩, hS.F ht⟩) hS.2.2 dX1_copyFrom_96
/-! LeadPark$Ground.hasWay (I)Z -/
abbrev ceX1_hasWay (cyI cyB cyJ cyZ : ClassId) (a0 b0_xs b0_ys b0_counts b0_walls : Nat) (g0_wallCount : Int32) (g0_texts : Int32) (g0_ways : Int32) : va_W := [(a0, .inr (1, [.ref b0_xs, .ref b0_ys, .ref b0_counts, .ref b0_walls, .int g0_ways, .int g0_wallCount, .int g0_texts]))]

theorem inX1_hasWay_X1 : ∀ w ∈ wsX10, w ∈ wsX1_hasWay := fun _ h => List.mem_cons_of_mem _ (List.mem_append_right _ h)
abbrev rmX1_hasWay : Room := { frames := 0, cells := 0, slots := 0, locals := 0 }
set_option maxRecDepth 100000 in
set_option maxHeartbeats 4000000 in
theorem ctX1_hasWay (l : Launch) (dC : Nat → ClassId) (dI : Nat → Nat → Nat) (cyI cyB cyJ cyZ : ClassId) (sz : Nat) (a0 b0_xs b0_ys b0_counts b0_walls : Nat) (g0_wallCount : Int32) (g0_texts : Int32) (g0_ways : Int32) (p0 : Int32) (post : Int32 → Unit → Prop) (hw : wpX1_hasWay post g0_ways p0) : Met l yX1_hasWay wsX1_hasWay rmX1_hasWay (va_Pc [.ref a0, .int p0] (wPre dC dI cyI cyB cyJ cyZ sz (ceX1_hasWay cyI cyB cyJ cyZ a0 b0_xs b0_ys b0_counts b0_walls g0_wallCount g0_texts g0_ways))) (va_Qi post (fun u : Unit => wAt dC dI cyI cyB cyJ cyZ (va_A (ceX1_hasWay cyI cyB cyJ cyZ a0 b0_xs b0_ys b0_counts b0_walls g0_wallCount g0_texts g0_ways) sz) (ceX1_hasWay cyI cyB cyJ cyZ a0 b0_xs b0_ys b0_counts b0_walls g0_wallCount g0_texts g0_ways)) (va_A (ceX1_hasWay cyI cyB cyJ cyZ a0 b0_xs b0_ys b0_counts b0_walls g0_wallCount g0_texts g0_ways) sz)) 0 0 (va_A (ceX1_hasWay cyI cyB cyJ cyZ a0 b0_xs b0_ys b0_counts b0_walls g0_wallCount g0_texts g0_ways) sz) := by
  refine Met.ofW (cc := cX1_hasWay) (maxL := 2) (ret := (some .boolean)) (by decide) rfl ?_
  intro p e s m args below meth c s₁ B hml hv
  obtain ⟨rfl, hsz, hP, hK, hD0, hN⟩ := hv
  have hx := B.exec
  have hb := B.bytes
  have hr := B.returns
  have hts := atoms_spec (ws := wsX1_hasWay) B.pre
  have hown : s.vm.findClass RX1 = some m.cls := findClass_of_methodNamed B.named
  have hlocks := B.notSynchronized
  subst hsz
  have hD := hD0.self (sz := s.heap.size)
  generalize hAe : va_A (ceX1_hasWay cyI cyB cyJ cyZ a0 b0_xs b0_ys b0_counts b0_walls g0_wallCount g0_texts g0_ways) s.heap.size = A at hD ⊢
  have hA : ∀ q : Nat, s.heap.size ≤ q → A q := fun q h => by rw [← hAe]; exact Or.inr h
  have hS : va_S A s.heap s.heap [] := va_S.rf
  have C0 : cxM p s m meth c _ wsX1_hasWay RX1 cX1_hasWay 2 (some .boolean) := ⟨hx, hb, hr, hml, hown, hts, hlocks⟩
  have hl := lv_entry ([.ref a0, .int p0]) (n := 2) (Nat.le_of_ble_eq_true rfl)
  rw [lg_entry_eq]
  generalize (lg_sl ([.ref a0, .int p0]) ++ List.replicate (2 - (lg_sl ([.ref a0, .int p0])).length) Slot.unset).toArray = ls at hl ⊢
  have hl : lv_has ls 2 [(0, .ref a0), (1, .int p0)] := hl
  show W p l e rmX1_hasWay s m _ below meth c _ _ _ _ _ _
  refine wq (fun Q hQ => ?_)
  refine lv_iload_n hx hb dX1_hasWay_0 rfl (lv_at hl 1 rfl) ?_
  refine lv_if_lt (tgt := 16) hx hb dX1_hasWay_1 (by decide) (fun hc => ?_) (fun hc => ?_)
  · have hw := hw.1 hc
    refine lv_iconst (v := 0) hx hb dX1_hasWay_16 (by decide) ?_
    rw [hQ]
    exact W.zret (v := 0) (ty := .boolean) hx hb hr rfl (fun t ht hW => ⟨⟨0, (), rfl, hw, by rw [ht]; exact hP, va_K.moved hW.alike hK, hD⟩, hS.F ht⟩) hS.2.2 dX1_hasWay_17
  · have hw := hw.2 hc
    refine lv_iload_n hx hb dX1_hasWay_4 rfl (lv_at hl 1 rfl) ?_
    refine lv_aload_n hx hb dX1_hasWay_5 rfl (lv_at hl 0 rfl) ?_
    refine va_get (D := (dC, dI)) (ci := 1) (v := .int g0_ways) (C := RX1) (T := TX1) (N := 7) hx hb hts inX1_hasWay_X1 hown hK hP 0 rfl rfl 4 (by decide) (hts (.fieldLink RX1 24 "LeadPark$Ground" "ways" "I") (List.mem_of_getElem? (i := 1) rfl)) (fun _ h9 => h9) rfl dX1_hasWay_6 ?_
    refine lv_icmp_ge (tgt := 16) hx hb dX1_hasWay_9 (by decide) (fun hc => ?_) (fun hc => ?_)
    · have hw := hw.1 hc
      refine lv_iconst (v := 0) hx hb dX1_hasWay_16 (by decide) ?_
      rw [hQ]
      exact W.zret (v := 0) (ty := .boolean) hx hb hr rfl (fun t ht hW => ⟨⟨0, (), rfl, hw, by rw [ht]; exact hP, va_K.moved hW.alike hK, hD⟩, hS.F ht⟩) hS.2.2 dX1_hasWay_17
    · have hw := hw.2 hc
      refine lv_iconst (v := 1) hx hb dX1_hasWay_12 (by decide) ?_
      refine lv_goto (tgt := 17) hx hb dX1_hasWay_13 (by decide) ?_
      rw [hQ]
      exact W.zret (v := 1) (ty := .boolean) hx hb hr rfl (fun t ht hW => ⟨⟨1, (), rfl, hw, by rw [ht]; exact hP, va_K.moved hW.alike hK, hD⟩, hS.F ht⟩) hS.2.2 dX1_hasWay_17
/-! LeadPark$Ground.hasCorner (II)Z -/
abbrev ceX1_hasCorner (cyI cyB cyJ cyZ : ClassId) (a0 a1 b0_xs b0_ys b0_walls : Nat) (g0_wallCount : Int32) (g0_texts : Int32) (g0_ways : Int32) (f1 : Nat → Int32) : va_W := [(a0, .inr (1, [.ref b0_xs, .ref b0_ys, .ref a1, .ref b0_walls, .int g0_ways, .int g0_wallCount, .int g0_texts])), (a1, .inl (cyI, 12, .inl f1))]

theorem inX1_hasCorner_X1 : ∀ w ∈ wsX10, w ∈ wsX1_hasCorner := fun _ h => List.mem_cons_of_mem _ (List.mem_append_right _ h)
abbrev rmX1_hasCorner : Room := { frames := 1, cells := 0, slots := 0, locals := 21 }
set_option maxRecDepth 100000 in
set_option maxHeartbeats 4000000 in
theorem ctX1_hasCorner (l : Launch) (dC : Nat → ClassId) (dI : Nat → Nat → Nat) (cyI cyB cyJ cyZ : ClassId) (sz : Nat) (a0 a1 b0_xs b0_ys b0_walls : Nat) (g0_wallCount : Int32) (g0_texts : Int32) (g0_ways : Int32) (f1 : Nat → Int32) (p0 : Int32) (p1 : Int32) (post : Int32 → Unit → Prop) (hw : wpX1_hasCorner post g0_ways f1 p0 p1) : Met l yX1_hasCorner wsX1_hasCorner rmX1_hasCorner (va_Pc [.ref a0, .int p0, .int p1] (wPre dC dI cyI cyB cyJ cyZ sz (ceX1_hasCorner cyI cyB cyJ cyZ a0 a1 b0_xs b0_ys b0_walls g0_wallCount g0_texts g0_ways f1))) (va_Qi post (fun u : Unit => wAt dC dI cyI cyB cyJ cyZ (va_A (ceX1_hasCorner cyI cyB cyJ cyZ a0 a1 b0_xs b0_ys b0_walls g0_wallCount g0_texts g0_ways f1) sz) (ceX1_hasCorner cyI cyB cyJ cyZ a0 a1 b0_xs b0_ys b0_walls g0_wallCount g0_texts g0_ways f1)) (va_A (ceX1_hasCorner cyI cyB cyJ cyZ a0 a1 b0_xs b0_ys b0_walls g0_wallCount g0_texts g0_ways f1) sz)) 0 0 (va_A (ceX1_hasCorner cyI cyB cyJ cyZ a0 a1 b0_xs b0_ys b0_walls g0_wallCount g0_texts g0_ways f1) sz) := by
  refine Met.ofW (cc := cX1_hasCorner) (maxL := 3) (ret := (some .boolean)) (by decide) rfl ?_
  intro p e s m args below meth c s₁ B hml hv
  obtain ⟨rfl, hsz, hP, hK, hD0, hN⟩ := hv
  have hx := B.exec
  have hb := B.bytes
  have hr := B.returns
  have hts := atoms_spec (ws := wsX1_hasCorner) B.pre
  have hown : s.vm.findClass RX1 = some m.cls := findClass_of_methodNamed B.named
  have hlocks := B.notSynchronized
  subst hsz
  have hD := hD0.self (sz := s.heap.size)
  generalize hAe : va_A (ceX1_hasCorner cyI cyB cyJ cyZ a0 a1 b0_xs b0_ys b0_walls g0_wallCount g0_texts g0_ways f1) s.heap.size = A at hD ⊢
  have hA : ∀ q : Nat, s.heap.size ≤ q → A q := fun q h => by rw [← hAe]; exact Or.inr h
  have hS : va_S A s.heap s.heap [] := va_S.rf
  have C0 : cxM p s m meth c _ wsX1_hasCorner RX1 cX1_hasCorner 3 (some .boolean) := ⟨hx, hb, hr, hml, hown, hts, hlocks⟩
  have hl := lv_entry ([.ref a0, .int p0, .int p1]) (n := 3) (Nat.le_of_ble_eq_true rfl)
  rw [lg_entry_eq]
  generalize (lg_sl ([.ref a0, .int p0, .int p1]) ++ List.replicate (3 - (lg_sl ([.ref a0, .int p0, .int p1])).length) Slot.unset).toArray = ls at hl ⊢
  have hl : lv_has ls 3 [(0, .ref a0), (1, .int p0), (2, .int p1)] := hl
  show W p l e rmX1_hasCorner s m _ below meth c _ _ _ _ _ _
  refine wq (fun Q hQ => ?_)
  refine lv_aload_n hx hb dX1_hasCorner_0 rfl (lv_at hl 0 rfl) ?_
  refine lv_iload_n hx hb dX1_hasCorner_1 rfl (lv_at hl 1 rfl) ?_
  have hPc := hP.sub (ws' := (ceX1_hasWay cyI cyB cyJ cyZ a0 b0_xs b0_ys a1 b0_walls g0_wallCount g0_texts g0_ways)) [0] rfl
  have hDc := hD.sub (ws' := (ceX1_hasWay cyI cyB cyJ cyZ a0 b0_xs b0_ys a1 b0_walls g0_wallCount g0_texts g0_ways)) [0] (by decide) rfl
  have hFc := va_free (wc := (ceX1_hasWay cyI cyB cyJ cyZ a0 b0_xs b0_ys a1 b0_walls g0_wallCount g0_texts g0_ways)) hD hS hA [0] rfl
  refine va_calli (va_runV (As := [.int p0]) (rest := []) ⟨hx, hb, hml, hown, hts⟩ (ctX1_hasWay l dC dI cyI cyB cyJ cyZ _ a0 b0_xs b0_ys a1 b0_walls g0_wallCount g0_texts g0_ways p0 _ hw) (cwV 1 hts gX1_hasCorner_X1_hasWay rfl rfl rfl (by decide +kernel) ⟨Nat.le_of_ble_eq_true rfl, Nat.le_of_ble_eq_true rfl⟩) ⟨wPre_blind, va_recv hK hPc (ci := 1) (q0 := 0) rfl rfl, fun U hU hW => wPre_of hPc hK hDc hN hU hW⟩ rfl rfl hl.1 rfl (lv_room (Nat.le_of_ble_eq_true rfl)) dX1_hasCorner_2 ⟨(Nat.zero_le _), (Nat.zero_le _)⟩) hS (fun q _ h => hFc q h) hFc (fun r2 u1 t H1 locs ht hvm hw hB hz1 hk1 hS => ?_)
  obtain ⟨hP1, hK1, hD1⟩ := hB
  rw [ht] at hP1
  obtain ⟨hP, hD⟩ := va_join (wr := pickW (ceX1_hasCorner cyI cyB cyJ cyZ a0 a1 b0_xs b0_ys b0_walls g0_wallCount g0_texts g0_ways f1) [1]) (w1 := (ceX1_hasWay cyI cyB cyJ cyZ a0 b0_xs b0_ys a1 b0_walls g0_wallCount g0_texts g0_ways)) hP hD [0] [1] rfl rfl (by decide) (by decide) hk1 hFc hP1 hD1
  have hP := hP.sub (ws' := (ceX1_hasCorner cyI cyB cyJ cyZ a0 a1 b0_xs b0_ys b0_walls g0_wallCount g0_texts g0_ways f1)) [1, 0] rfl
  have hD := hD.sub (ws' := (ceX1_hasCorner cyI cyB cyJ cyZ a0 a1 b0_xs b0_ys b0_walls g0_wallCount g0_texts g0_ways f1)) [1, 0] (by decide) rfl
  generalize H1 = H at hP hS ⊢
  refine lv_if_eq (tgt := 26) hx hb dX1_hasCorner_5 (by decide) (fun hc => ?_) (fun hc => ?_)
  · have hw := hw.1 hc
    refine lv_iconst (v := 0) hx hb dX1_hasCorner_26 (by decide) ?_
    rw [hQ]
    exact W.zret (v := 0) (ty := .boolean) hx hb hr rfl (fun t ht hW => ⟨⟨0, (), rfl, hw, by rw [ht]; exact hP, va_K.moved hW.alike hK, hD⟩, hS.F ht⟩) hS.2.2 dX1_hasCorner_27
  · have hw := hw.2 hc
    refine lv_iload_n hx hb dX1_hasCorner_8 rfl (lv_at hl 2 rfl) ?_
    refine lv_if_lt (tgt := 26) hx hb dX1_hasCorner_9 (by decide) (fun hc => ?_) (fun hc => ?_)
    · have hw := hw.1 hc
      refine lv_iconst (v := 0) hx hb dX1_hasCorner_26 (by decide) ?_
      rw [hQ]
      exact W.zret (v := 0) (ty := .boolean) hx hb hr rfl (fun t ht hW => ⟨⟨0, (), rfl, hw, by rw [ht]; exact hP, va_K.moved hW.alike hK, hD⟩, hS.F ht⟩) hS.2.2 dX1_hasCorner_27
    · have hw := hw.2 hc
      refine lv_iload_n hx hb dX1_hasCorner_12 rfl (lv_at hl 2 rfl) ?_
      refine lv_aload_n hx hb dX1_hasCorner_13 rfl (lv_at hl 0 rfl) ?_
      refine va_get (D := (dC, dI)) (ci := 1) (v := .ref a1) (C := RX1) (T := TX1) (N := 7) hx hb hts inX1_hasCorner_X1 hown hK hP 0 rfl rfl 2 (by decide) (hts (.fieldLink RX1 18 "LeadPark$Ground" "counts" "[I") (List.mem_of_getElem? (i := 1) rfl)) (fun _ h9 => h9) rfl dX1_hasCorner_14 ?_
      refine lv_iload_n hx hb dX1_hasCorner_17 rfl (lv_at hl 1 rfl) ?_
      obtain ⟨hi, hw⟩ := hw
      refine va_iald hx hb hK hP 1 0 rfl rfl hi dX1_hasCorner_18 ?_
      refine lv_icmp_ge (tgt := 26) hx hb dX1_hasCorner_19 (by decide) (fun hc => ?_) (fun hc => ?_)
      · have hw := hw.1 hc
        refine lv_iconst (v := 0) hx hb dX1_hasCorner_26 (by decide) ?_
        rw [hQ]
        exact W.zret (v := 0) (ty := .boolean) hx hb hr rfl (fun t ht hW => ⟨⟨0, (), rfl, hw, by rw [ht]; exact hP, va_K.moved hW.alike hK, hD⟩, hS.F ht⟩) hS.2.2 dX1_hasCorner_27
      · have hw := hw.2 hc
        refine lv_iconst (v := 1) hx hb dX1_hasCorner_22 (by decide) ?_
        refine lv_goto (tgt := 27) hx hb dX1_hasCorner_23 (by decide) ?_
        rw [hQ]
        exact W.zret (v := 1) (ty := .boolean) hx hb hr rfl (fun t ht hW => ⟨⟨1, (), rfl, hw, by rw [ht]; exact hP, va_K.moved hW.alike hK, hD⟩, hS.F ht⟩) hS.2.2 dX1_hasCorner_27
/-! LeadPark$Ground.xOf (II)I -/
abbrev ceX1_xOf (cyI cyB cyJ cyZ : ClassId) (a0 a1 b0_ys b0_counts b0_walls : Nat) (g0_ways : Int32) (g0_wallCount : Int32) (g0_texts : Int32) (f1 : Nat → Int32) : va_W := [(a0, .inr (1, [.ref a1, .ref b0_ys, .ref b0_counts, .ref b0_walls, .int g0_ways, .int g0_wallCount, .int g0_texts])), (a1, .inl (cyI, 360, .inl f1))]

theorem inX1_xOf_X1 : ∀ w ∈ wsX10, w ∈ wsX1_xOf := fun _ h => List.mem_cons_of_mem _ (List.mem_append_right _ h)
abbrev rmX1_xOf : Room := { frames := 0, cells := 0, slots := 0, locals := 0 }
set_option maxRecDepth 100000 in
set_option maxHeartbeats 4000000 in
theorem ctX1_xOf (l : Launch) (dC : Nat → ClassId) (dI : Nat → Nat → Nat) (cyI cyB cyJ cyZ : ClassId) (sz : Nat) (a0 a1 b0_ys b0_counts b0_walls : Nat) (g0_ways : Int32) (g0_wallCount : Int32) (g0_texts : Int32) (f1 : Nat → Int32) (p0 : Int32) (p1 : Int32) (post : Int32 → Unit → Prop) (hw : wpX1_xOf post f1 p0 p1) : Met l yX1_xOf wsX1_xOf rmX1_xOf (va_Pc [.ref a0, .int p0, .int p1] (wPre dC dI cyI cyB cyJ cyZ sz (ceX1_xOf cyI cyB cyJ cyZ a0 a1 b0_ys b0_counts b0_walls g0_ways g0_wallCount g0_texts f1))) (va_Qi post (fun u : Unit => wAt dC dI cyI cyB cyJ cyZ (va_A (ceX1_xOf cyI cyB cyJ cyZ a0 a1 b0_ys b0_counts b0_walls g0_ways g0_wallCount g0_texts f1) sz) (ceX1_xOf cyI cyB cyJ cyZ a0 a1 b0_ys b0_counts b0_walls g0_ways g0_wallCount g0_texts f1)) (va_A (ceX1_xOf cyI cyB cyJ cyZ a0 a1 b0_ys b0_counts b0_walls g0_ways g0_wallCount g0_texts f1) sz)) 0 0 (va_A (ceX1_xOf cyI cyB cyJ cyZ a0 a1 b0_ys b0_counts b0_walls g0_ways g0_wallCount g0_texts f1) sz) := by
  refine Met.ofW (cc := cX1_xOf) (maxL := 3) (ret := (some .int)) (by decide) rfl ?_
  intro p e s m args below meth c s₁ B hml hv
  obtain ⟨rfl, hsz, hP, hK, hD0, hN⟩ := hv
  have hx := B.exec
  have hb := B.bytes
  have hr := B.returns
  have hts := atoms_spec (ws := wsX1_xOf) B.pre
  have hown : s.vm.findClass RX1 = some m.cls := findClass_of_methodNamed B.named
  have hlocks := B.notSynchronized
  subst hsz
  have hD := hD0.self (sz := s.heap.size)
  generalize hAe : va_A (ceX1_xOf cyI cyB cyJ cyZ a0 a1 b0_ys b0_counts b0_walls g0_ways g0_wallCount g0_texts f1) s.heap.size = A at hD ⊢
  have hA : ∀ q : Nat, s.heap.size ≤ q → A q := fun q h => by rw [← hAe]; exact Or.inr h
  have hS : va_S A s.heap s.heap [] := va_S.rf
  have C0 : cxM p s m meth c _ wsX1_xOf RX1 cX1_xOf 3 (some .int) := ⟨hx, hb, hr, hml, hown, hts, hlocks⟩
  have hl := lv_entry ([.ref a0, .int p0, .int p1]) (n := 3) (Nat.le_of_ble_eq_true rfl)
  rw [lg_entry_eq]
  generalize (lg_sl ([.ref a0, .int p0, .int p1]) ++ List.replicate (3 - (lg_sl ([.ref a0, .int p0, .int p1])).length) Slot.unset).toArray = ls at hl ⊢
  have hl : lv_has ls 3 [(0, .ref a0), (1, .int p0), (2, .int p1)] := hl
  show W p l e rmX1_xOf s m _ below meth c _ _ _ _ _ _
  refine wq (fun Q hQ => ?_)
  refine lv_aload_n hx hb dX1_xOf_0 rfl (lv_at hl 0 rfl) ?_
  refine va_get (D := (dC, dI)) (ci := 1) (v := .ref a1) (C := RX1) (T := TX1) (N := 7) hx hb hts inX1_xOf_X1 hown hK hP 0 rfl rfl 0 (by decide) (hts (.fieldLink RX1 9 "LeadPark$Ground" "xs" "[I") (List.mem_of_getElem? (i := 1) rfl)) (fun _ h9 => h9) rfl dX1_xOf_1 ?_
  refine lv_iload_n hx hb dX1_xOf_4 rfl (lv_at hl 1 rfl) ?_
  refine lv_bipush (v := 30) hx hb dX1_xOf_5 (by decide) ?_
  refine lv_imul hx hb dX1_xOf_7 ?_
  refine lv_iload_n hx hb dX1_xOf_8 rfl (lv_at hl 2 rfl) ?_
  refine lv_iadd hx hb dX1_xOf_9 ?_
  obtain ⟨hi, hw⟩ := hw
  refine va_iald hx hb hK hP 1 0 rfl rfl hi dX1_xOf_10 ?_
  rw [hQ]
  exact W.iret (v := f1 ((p0 * 30) + p1).toNatClampNeg) hx hb hr (fun t ht hW => ⟨⟨f1 ((p0 * 30) + p1).toNatClampNeg, (), rfl, hw, by rw [ht]; exact hP, va_K.moved hW.alike hK, hD⟩, hS.F ht⟩) hS.2.2 dX1_xOf_11
/-! LeadPark$Ground.yOf (II)I -/
abbrev ceX1_yOf (cyI cyB cyJ cyZ : ClassId) (a0 a1 b0_xs b0_counts b0_walls : Nat) (g0_ways : Int32) (g0_wallCount : Int32) (g0_texts : Int32) (f1 : Nat → Int32) : va_W := [(a0, .inr (1, [.ref b0_xs, .ref a1, .ref b0_counts, .ref b0_walls, .int g0_ways, .int g0_wallCount, .int g0_texts])), (a1, .inl (cyI, 360, .inl f1))]

theorem inX1_yOf_X1 : ∀ w ∈ wsX10, w ∈ wsX1_yOf := fun _ h => List.mem_cons_of_mem _ (List.mem_append_right _ h)
abbrev rmX1_yOf : Room := { frames := 0, cells := 0, slots := 0, locals := 0 }
set_option maxRecDepth 100000 in
set_option maxHeartbeats 4000000 in
theorem ctX1_yOf (l : Launch) (dC : Nat → ClassId) (dI : Nat → Nat → Nat) (cyI cyB cyJ cyZ : ClassId) (sz : Nat) (a0 a1 b0_xs b0_counts b0_walls : Nat) (g0_ways : Int32) (g0_wallCount : Int32) (g0_texts : Int32) (f1 : Nat → Int32) (p0 : Int32) (p1 : Int32) (post : Int32 → Unit → Prop) (hw : wpX1_yOf post f1 p0 p1) : Met l yX1_yOf wsX1_yOf rmX1_yOf (va_Pc [.ref a0, .int p0, .int p1] (wPre dC dI cyI cyB cyJ cyZ sz (ceX1_yOf cyI cyB cyJ cyZ a0 a1 b0_xs b0_counts b0_walls g0_ways g0_wallCount g0_texts f1))) (va_Qi post (fun u : Unit => wAt dC dI cyI cyB cyJ cyZ (va_A (ceX1_yOf cyI cyB cyJ cyZ a0 a1 b0_xs b0_counts b0_walls g0_ways g0_wallCount g0_texts f1) sz) (ceX1_yOf cyI cyB cyJ cyZ a0 a1 b0_xs b0_counts b0_walls g0_ways g0_wallCount g0_texts f1)) (va_A (ceX1_yOf cyI cyB cyJ cyZ a0 a1 b0_xs b0_counts b0_walls g0_ways g0_wallCount g0_texts f1) sz)) 0 0 (va_A (ceX1_yOf cyI cyB cyJ cyZ a0 a1 b0_xs b0_counts b0_walls g0_ways g0_wallCount g0_texts f1) sz) := by
  refine Met.ofW (cc := cX1_yOf) (maxL := 3) (ret := (some .int)) (by decide) rfl ?_
  intro p e s m args below meth c s₁ B hml hv
  obtain ⟨rfl, hsz, hP, hK, hD0, hN⟩ := hv
  have hx := B.exec
  have hb := B.bytes
  have hr := B.returns
  have hts := atoms_spec (ws := wsX1_yOf) B.pre
  have hown : s.vm.findClass RX1 = some m.cls := findClass_of_methodNamed B.named
  have hlocks := B.notSynchronized
  subst hsz
  have hD := hD0.self (sz := s.heap.size)
  generalize hAe : va_A (ceX1_yOf cyI cyB cyJ cyZ a0 a1 b0_xs b0_counts b0_walls g0_ways g0_wallCount g0_texts f1) s.heap.size = A at hD ⊢
  have hA : ∀ q : Nat, s.heap.size ≤ q → A q := fun q h => by rw [← hAe]; exact Or.inr h
  have hS : va_S A s.heap s.heap [] := va_S.rf
  have C0 : cxM p s m meth c _ wsX1_yOf RX1 cX1_yOf 3 (some .int) := ⟨hx, hb, hr, hml, hown, hts, hlocks⟩
  have hl := lv_entry ([.ref a0, .int p0, .int p1]) (n := 3) (Nat.le_of_ble_eq_true rfl)
  rw [lg_entry_eq]
  generalize (lg_sl ([.ref a0, .int p0, .int p1]) ++ List.replicate (3 - (lg_sl ([.ref a0, .int p0, .int p1])).length) Slot.unset).toArray = ls at hl ⊢
  have hl : lv_has ls 3 [(0, .ref a0), (1, .int p0), (2, .int p1)] := hl
  show W p l e rmX1_yOf s m _ below meth c _ _ _ _ _ _
  refine wq (fun Q hQ => ?_)
  refine lv_aload_n hx hb dX1_yOf_0 rfl (lv_at hl 0 rfl) ?_
  refine va_get (D := (dC, dI)) (ci := 1) (v := .ref a1) (C := RX1) (T := TX1) (N := 7) hx hb hts inX1_yOf_X1 hown hK hP 0 rfl rfl 1 (by decide) (hts (.fieldLink RX1 15 "LeadPark$Ground" "ys" "[I") (List.mem_of_getElem? (i := 1) rfl)) (fun _ h9 => h9) rfl dX1_yOf_1 ?_
  refine lv_iload_n hx hb dX1_yOf_4 rfl (lv_at hl 1 rfl) ?_
  refine lv_bipush (v := 30) hx hb dX1_yOf_5 (by decide) ?_
  refine lv_imul hx hb dX1_yOf_7 ?_
  refine lv_iload_n hx hb dX1_yOf_8 rfl (lv_at hl 2 rfl) ?_
  refine lv_iadd hx hb dX1_yOf_9 ?_
  obtain ⟨hi, hw⟩ := hw
  refine va_iald hx hb hK hP 1 0 rfl rfl hi dX1_yOf_10 ?_
  rw [hQ]
  exact W.iret (v := f1 ((p0 * 30) + p1).toNatClampNeg) hx hb hr (fun t ht hW => ⟨⟨f1 ((p0 * 30) + p1).toNatClampNeg, (), rfl, hw, by rw [ht]; exact hP, va_K.moved hW.alike hK, hD⟩, hS.F ht⟩) hS.2.2 dX1_yOf_11
/-! LeadPark$Ground.allCorners ()I -/
abbrev ceX1_allCorners (cyI cyB cyJ cyZ : ClassId) (a0 a1 b0_xs b0_ys b0_walls : Nat) (g0_wallCount : Int32) (g0_texts : Int32) (g0_ways : Int32) (f1 : Nat → Int32) : va_W := [(a0, .inr (1, [.ref b0_xs, .ref b0_ys, .ref a1, .ref b0_walls, .int g0_ways, .int g0_wallCount, .int g0_texts])), (a1, .inl (cyI, 12, .inl f1))]

theorem inX1_allCorners_X1 : ∀ w ∈ wsX10, w ∈ wsX1_allCorners := fun _ h => List.mem_cons_of_mem _ (List.mem_append_right _ h)
abbrev rmX1_allCorners : Room := { frames := 0, cells := 0, slots := 0, locals := 0 }
set_option maxRecDepth 100000 in
set_option maxHeartbeats 4000000 in
theorem bX1_allCorners_4 {p : Program} {l : Launch} {e : Env} {s : State} {m : MethodId} {args : Array Value} {below : List Frame} {meth : Method} {c : Code} {dC : Nat → ClassId} {dI : Nat → Nat → Nat} {cyI cyB cyJ cyZ : ClassId} {A : Nat → Prop} {a0 a1 b0_xs b0_ys b0_walls : Nat} {g0_wallCount : Int32} {g0_texts : Int32} (C0 : cxM p s m meth c args wsX1_allCorners RX1 cX1_allCorners 3 (some .int)) (hK : va_K (dC, dI) vwCl (tyA cyI cyB cyJ cyZ) s) (hN : nwA s) (hA : ∀ q : Nat, s.heap.size ≤ q → A q) {post : Int32 → Unit → Prop} {g0_ways : Int32} {f1 : Nat → Int32} {Q : State → Prop} (hQ : Q = MQ below (va_Qi post (fun u : Unit => wAt dC dI cyI cyB cyJ cyZ A (ceX1_allCorners cyI cyB cyJ cyZ a0 a1 b0_xs b0_ys b0_walls g0_wallCount g0_texts g0_ways f1)) A) args s 0 0 A) : ∀ (n : Nat) (x1 : Int32) (x2 : Int32), wpX1_allCorners_4 post g0_ways f1 n x1 x2 → AtW p l e rmX1_allCorners s m args below meth c dC dI A Q 3 0 0 (ceX1_allCorners cyI cyB cyJ cyZ a0 a1 b0_xs b0_ys b0_walls g0_wallCount g0_texts g0_ways f1) [(0, .ref a0), (1, .int x1), (2, .int x2)] 4 [] := by
  intro n
  induction n with
  | zero => intro x1 x2 hw; exact False.elim hw
  | succ n ih =>
    intro x1 x2 hw H locs hP hD hS ls hl
    have C1 := C0
    obtain ⟨hx, hb, hr, hml, hown, hts, hlocks⟩ := C1
    refine lv_iload_n hx hb dX1_allCorners_4 rfl (lv_at hl 2 rfl) ?_
    refine lv_aload_n hx hb dX1_allCorners_5 rfl (lv_at hl 0 rfl) ?_
    refine va_get (D := (dC, dI)) (ci := 1) (v := .int g0_ways) (C := RX1) (T := TX1) (N := 7) hx hb hts inX1_allCorners_X1 hown hK hP 0 rfl rfl 4 (by decide) (hts (.fieldLink RX1 24 "LeadPark$Ground" "ways" "I") (List.mem_of_getElem? (i := 1) rfl)) (fun _ h9 => h9) rfl dX1_allCorners_6 ?_
    refine lv_icmp_ge (tgt := 27) hx hb dX1_allCorners_9 (by decide) (fun hc => ?_) (fun hc => ?_)
    · have hw := hw.1 hc
      refine lv_iload_n hx hb dX1_allCorners_27 rfl (lv_at hl 1 rfl) ?_
      rw [hQ]
      exact W.iret (v := x1) hx hb hr (fun t ht hW => ⟨⟨x1, (), rfl, hw, by rw [ht]; exact hP, va_K.moved hW.alike hK, hD⟩, hS.F ht⟩) hS.2.2 dX1_allCorners_28
    · have hw := hw.2 hc
      refine lv_iload_n hx hb dX1_allCorners_12 rfl (lv_at hl 1 rfl) ?_
      refine lv_aload_n hx hb dX1_allCorners_13 rfl (lv_at hl 0 rfl) ?_
      refine va_get (D := (dC, dI)) (ci := 1) (v := .ref a1) (C := RX1) (T := TX1) (N := 7) hx hb hts inX1_allCorners_X1 hown hK hP 0 rfl rfl 2 (by decide) (hts (.fieldLink RX1 18 "LeadPark$Ground" "counts" "[I") (List.mem_of_getElem? (i := 2) rfl)) (fun _ h9 => h9) rfl dX1_allCorners_14 ?_
      refine lv_iload_n hx hb dX1_allCorners_17 rfl (lv_at hl 2 rfl) ?_
      obtain ⟨hi, hw⟩ := hw
      refine va_iald hx hb hK hP 1 0 rfl rfl hi dX1_allCorners_18 ?_
      refine lv_iadd hx hb dX1_allCorners_19 ?_
      refine lv_topi (fun v1 ev1 => ?_)
      have hw := hw v1 ev1
      refine lv_istore_n (lv' := [(1, .int v1), (0, .ref a0), (2, .int x2)]) hx hb dX1_allCorners_20 rfl hl (by decide) rfl (fun ls hl => ?_)
      obtain ⟨v2, ev2⟩ : ∃ y : Int32, y = x2 + 1 := ⟨_, rfl⟩
      have hw := hw v2 ev2
      refine lv_iinc (v := v2) (lv' := [(2, .int v2), (1, .int v1), (0, .ref a0)]) hx hb dX1_allCorners_21 hl (k := 2) rfl (by rw [ev2]; rfl) (by decide) rfl (fun ls hl => ?_)
      refine lv_goto (tgt := 4) hx hb dX1_allCorners_24 (by decide) ?_
      exact ih v1 v2 hw H locs hP hD hS ls (lv_sub hl [2, 1, 0] rfl)
set_option maxRecDepth 100000 in
set_option maxHeartbeats 4000000 in
theorem ctX1_allCorners (l : Launch) (dC : Nat → ClassId) (dI : Nat → Nat → Nat) (cyI cyB cyJ cyZ : ClassId) (sz : Nat) (a0 a1 b0_xs b0_ys b0_walls : Nat) (g0_wallCount : Int32) (g0_texts : Int32) (g0_ways : Int32) (f1 : Nat → Int32) (post : Int32 → Unit → Prop) (hw : wpX1_allCorners post g0_ways f1 ) : Met l yX1_allCorners wsX1_allCorners rmX1_allCorners (va_Pc [.ref a0] (wPre dC dI cyI cyB cyJ cyZ sz (ceX1_allCorners cyI cyB cyJ cyZ a0 a1 b0_xs b0_ys b0_walls g0_wallCount g0_texts g0_ways f1))) (va_Qi post (fun u : Unit => wAt dC dI cyI cyB cyJ cyZ (va_A (ceX1_allCorners cyI cyB cyJ cyZ a0 a1 b0_xs b0_ys b0_walls g0_wallCount g0_texts g0_ways f1) sz) (ceX1_allCorners cyI cyB cyJ cyZ a0 a1 b0_xs b0_ys b0_walls g0_wallCount g0_texts g0_ways f1)) (va_A (ceX1_allCorners cyI cyB cyJ cyZ a0 a1 b0_xs b0_ys b0_walls g0_wallCount g0_texts g0_ways f1) sz)) 0 0 (va_A (ceX1_allCorners cyI cyB cyJ cyZ a0 a1 b0_xs b0_ys b0_walls g0_wallCount g0_texts g0_ways f1) sz) := by
  refine Met.ofW (cc := cX1_allCorners) (maxL := 3) (ret := (some .int)) (by decide) rfl ?_
  intro p e s m args below meth c s₁ B hml hv
  obtain ⟨rfl, hsz, hP, hK, hD0, hN⟩ := hv
  have hx := B.exec
  have hb := B.bytes
  have hr := B.returns
  have hts := atoms_spec (ws := wsX1_allCorners) B.pre
  have hown : s.vm.findClass RX1 = some m.cls := findClass_of_methodNamed B.named
  have hlocks := B.notSynchronized
  subst hsz
  have hD := hD0.self (sz := s.heap.size)
  generalize hAe : va_A (ceX1_allCorners cyI cyB cyJ cyZ a0 a1 b0_xs b0_ys b0_walls g0_wallCount g0_texts g0_ways f1) s.heap.size = A at hD ⊢
  have hA : ∀ q : Nat, s.heap.size ≤ q → A q := fun q h => by rw [← hAe]; exact Or.inr h
  have hS : va_S A s.heap s.heap [] := va_S.rf
  have C0 : cxM p s m meth c _ wsX1_allCorners RX1 cX1_allCorners 3 (some .int) := ⟨hx, hb, hr, hml, hown, hts, hlocks⟩
  have hl := lv_entry ([.ref a0]) (n := 3) (Nat.le_of_ble_eq_true rfl)
  rw [lg_entry_eq]
  generalize (lg_sl ([.ref a0]) ++ List.replicate (3 - (lg_sl ([.ref a0])).length) Slot.unset).toArray = ls at hl ⊢
  have hl : lv_has ls 3 [(0, .ref a0)] := hl
  show W p l e rmX1_allCorners s m _ below meth c _ _ _ _ _ _
  refine wq (fun Q hQ => ?_)
  refine lv_iconst (v := 0) hx hb dX1_allCorners_0 (by decide) ?_
  refine lv_istore_n (lv' := [(1, .int 0), (0, .ref a0)]) hx hb dX1_allCorners_1 rfl hl (by decide) rfl (fun ls hl => ?_)
  refine lv_iconst (v := 0) hx hb dX1_allCorners_2 (by decide) ?_
  refine lv_istore_n (lv' := [(2, .int 0), (1, .int 0), (0, .ref a0)]) hx hb dX1_allCorners_3 rfl hl (by decide) rfl (fun ls hl => ?_)
  obtain ⟨nn, hw⟩ := hw
  exact bX1_allCorners_4 C0 hK hN hA hQ nn 0 0 hw _ _ hP hD hS ls (lv_sub hl [2, 1, 0] rfl)
/-! LeadPark$Ground.distance (IIII)I -/
abbrev ceX1_distance (cyI cyB cyJ cyZ : ClassId) (a0 a1 a2 b0_counts b0_walls : Nat) (g0_ways : Int32) (g0_wallCount : Int32) (g0_texts : Int32) (f1 : Nat → Int32) (f2 : Nat → Int32) : va_W := [(a0, .inr (1, [.ref a1, .ref a2, .ref b0_counts, .ref b0_walls, .int g0_ways, .int g0_wallCount, .int g0_texts])), (a1, .inl (cyI, 360, .inl f1)), (a2, .inl (cyI, 360, .inl f2))]

theorem inX1_distance_X1 : ∀ w ∈ wsX10, w ∈ wsX1_distance := fun _ h => List.mem_cons_of_mem _ (List.mem_append_right _ h)
abbrev rmX1_distance : Room := { frames := 0, cells := 0, slots := 0, locals := 0 }
set_option maxRecDepth 100000 in
set_option maxHeartbeats 4000000 in
theorem ctX1_distance (l : Launch) (dC : Nat → ClassId) (dI : Nat → Nat → Nat) (cyI cyB cyJ cyZ : ClassId) (sz : Nat) (a0 a1 a2 b0_counts b0_walls : Nat) (g0_ways : Int32) (g0_wallCount : Int32) (g0_texts : Int32) (f1 : Nat → Int32) (f2 : Nat → Int32) (p0 : Int32) (p1 : Int32) (p2 : Int32) (p3 : Int32) (post : Int32 → Unit → Prop) (hw : wpX1_distance post f1 f2 p0 p1 p2 p3) : Met l yX1_distance wsX1_distance rmX1_distance (va_Pc [.ref a0, .int p0, .int p1, .int p2, .int p3] (wPre dC dI cyI cyB cyJ cyZ sz (ceX1_distance cyI cyB cyJ cyZ a0 a1 a2 b0_counts b0_walls g0_ways g0_wallCount g0_texts f1 f2))) (va_Qi post (fun u : Unit => wAt dC dI cyI cyB cyJ cyZ (va_A (ceX1_distance cyI cyB cyJ cyZ a0 a1 a2 b0_counts b0_walls g0_ways g0_wallCount g0_texts f1 f2) sz) (ceX1_distance cyI cyB cyJ cyZ a0 a1 a2 b0_counts b0_walls g0_ways g0_wallCount g0_texts f1 f2)) (va_A (ceX1_distance cyI cyB cyJ cyZ a0 a1 a2 b0_counts b0_walls g0_ways g0_wallCount g0_texts f1 f2) sz)) 0 0 (va_A (ceX1_distance cyI cyB cyJ cyZ a0 a1 a2 b0_counts b0_walls g0_ways g0_wallCount g0_texts f1 f2) sz) := by
  refine Met.ofW (cc := cX1_distance) (maxL := 9) (ret := (some .int)) (by decide) rfl ?_
  intro p e s m args below meth c s₁ B hml hv
  obtain ⟨rfl, hsz, hP, hK, hD0, hN⟩ := hv
  have hx := B.exec
  have hb := B.bytes
  have hr := B.returns
  have hts := atoms_spec (ws := wsX1_distance) B.pre
  have hown : s.vm.findClass RX1 = some m.cls := findClass_of_methodNamed B.named
  have hlocks := B.notSynchronized
  subst hsz
  have hD := hD0.self (sz := s.heap.size)
  generalize hAe : va_A (ceX1_distance cyI cyB cyJ cyZ a0 a1 a2 b0_counts b0_walls g0_ways g0_wallCount g0_texts f1 f2) s.heap.size = A at hD ⊢
  have hA : ∀ q : Nat, s.heap.size ≤ q → A q := fun q h => by rw [← hAe]; exact Or.inr h
  have hS : va_S A s.heap s.heap [] := va_S.rf
  have C0 : cxM p s m meth c _ wsX1_distance RX1 cX1_distance 9 (some .int) := ⟨hx, hb, hr, hml, hown, hts, hlocks⟩
  have hl := lv_entry ([.ref a0, .int p0, .int p1, .int p2, .int p3]) (n := 9) (Nat.le_of_ble_eq_true rfl)
  rw [lg_entry_eq]
  generalize (lg_sl ([.ref a0, .int p0, .int p1, .int p2, .int p3]) ++ List.replicate (9 - (lg_sl ([.ref a0, .int p0, .int p1, .int p2, .int p3])).length) Slot.unset).toArray = ls at hl ⊢
  have hl : lv_has ls 9 [(0, .ref a0), (1, .int p0), (2, .int p1), (3, .int p2), (4, .int p3)] := hl
  show W p l e rmX1_distance s m _ below meth c _ _ _ _ _ _
  refine wq (fun Q hQ => ?_)
  refine lv_iload_n hx hb dX1_distance_0 rfl (lv_at hl 1 rfl) ?_
  refine lv_bipush (v := 30) hx hb dX1_distance_1 (by decide) ?_
  refine lv_imul hx hb dX1_distance_3 ?_
  refine lv_iload_n hx hb dX1_distance_4 rfl (lv_at hl 2 rfl) ?_
  refine lv_iadd hx hb dX1_distance_5 ?_
  refine lv_topi (fun v1 ev1 => ?_)
  have hw := hw v1 ev1
  refine lv_istore (lv' := [(5, .int v1), (0, .ref a0), (1, .int p0), (2, .int p1), (3, .int p2), (4, .int p3)]) hx hb dX1_distance_6 hl (by decide) rfl (fun ls hl => ?_)
  refine lv_iload_n hx hb dX1_distance_8 rfl (lv_at hl 4 rfl) ?_
  refine lv_bipush (v := 30) hx hb dX1_distance_9 (by decide) ?_
  refine lv_imul hx hb dX1_distance_11 ?_
  refine lv_iload hx hb dX1_distance_12 (lv_at hl 5 rfl) ?_
  refine lv_iadd hx hb dX1_distance_14 ?_
  refine lv_topi (fun v2 ev2 => ?_)
  have hw := hw v2 ev2
  refine lv_istore (lv' := [(6, .int v2), (5, .int v1), (0, .ref a0), (1, .int p0), (2, .int p1), (3, .int p2), (4, .int p3)]) hx hb dX1_distance_15 hl (by decide) rfl (fun ls hl => ?_)
  refine lv_aload_n hx hb dX1_distance_17 rfl (lv_at hl 2 rfl) ?_
  refine va_get (D := (dC, dI)) (ci := 1) (v := .ref a1) (C := RX1) (T := TX1) (N := 7) hx hb hts inX1_distance_X1 hown hK hP 0 rfl rfl 0 (by decide) (hts (.fieldLink RX1 9 "LeadPark$Ground" "xs" "[I") (List.mem_of_getElem? (i := 1) rfl)) (fun _ h9 => h9) rfl dX1_distance_18 ?_
  refine lv_iload hx hb dX1_distance_21 (lv_at hl 1 rfl) ?_
  obtain ⟨hi, hw⟩ := hw
  refine va_iald hx hb hK hP 1 0 rfl rfl hi dX1_distance_23 ?_
  refine lv_aload_n hx hb dX1_distance_24 rfl (lv_at hl 2 rfl) ?_
  refine va_get (D := (dC, dI)) (ci := 1) (v := .ref a1) (C := RX1) (T := TX1) (N := 7) hx hb hts inX1_distance_X1 hown hK hP 0 rfl rfl 0 (by decide) (hts (.fieldLink RX1 9 "LeadPark$Ground" "xs" "[I") (List.mem_of_getElem? (i := 1) rfl)) (fun _ h9 => h9) rfl dX1_distance_25 ?_
  refine lv_iload hx hb dX1_distance_28 (lv_at hl 0 rfl) ?_
  obtain ⟨hi, hw⟩ := hw
  refine va_iald hx hb hK hP 1 0 rfl rfl hi dX1_distance_30 ?_
  refine lv_isub hx hb dX1_distance_31 ?_
  refine lv_topi (fun v3 ev3 => ?_)
  have hw := hw v3 ev3
  refine lv_istore (lv' := [(7, .int v3), (6, .int v2), (5, .int v1), (0, .ref a0), (1, .int p0), (2, .int p1), (3, .int p2), (4, .int p3)]) hx hb dX1_distance_32 hl (by decide) rfl (fun ls hl => ?_)
  refine lv_aload_n hx hb dX1_distance_34 rfl (lv_at hl 3 rfl) ?_
  refine va_get (D := (dC, dI)) (ci := 1) (v := .ref a2) (C := RX1) (T := TX1) (N := 7) hx hb hts inX1_distance_X1 hown hK hP 0 rfl rfl 1 (by decide) (hts (.fieldLink RX1 15 "LeadPark$Ground" "ys" "[I") (List.mem_of_getElem? (i := 2) rfl)) (fun _ h9 => h9) rfl dX1_distance_35 ?_
  refine lv_iload hx hb dX1_distance_38 (lv_at hl 2 rfl) ?_
  obtain ⟨hi, hw⟩ := hw
  refine va_iald hx hb hK hP 2 0 rfl rfl hi dX1_distance_40 ?_
  refine lv_aload_n hx hb dX1_distance_41 rfl (lv_at hl 3 rfl) ?_
  refine va_get (D := (dC, dI)) (ci := 1) (v := .ref a2) (C := RX1) (T := TX1) (N := 7) hx hb hts inX1_distance_X1 hown hK hP 0 rfl rfl 1 (by decide) (hts (.fieldLink RX1 15 "LeadPark$Ground" "ys" "[I") (List.mem_of_getElem? (i := 2) rfl)) (fun _ h9 => h9) rfl dX1_distance_42 ?_
  refine lv_iload hx hb dX1_distance_45 (lv_at hl 1 rfl) ?_
  obtain ⟨hi, hw⟩ := hw
  refine va_iald hx hb hK hP 2 0 rfl rfl hi dX1_distance_47 ?_
  refine lv_isub hx hb dX1_distance_48 ?_
  refine lv_topi (fun v4 ev4 => ?_)
  have hw := hw v4 ev4
  refine lv_istore (lv' := [(8, .int v4), (7, .int v3), (6, .int v2), (5, .int v1), (0, .ref a0), (1, .int p0), (2, .int p1), (3, .int p2), (4, .int p3)]) hx hb dX1_distance_49 hl (by decide) rfl (fun ls hl => ?_)
  refine lv_iload hx hb dX1_distance_51 (lv_at hl 1 rfl) ?_
  refine lv_iload hx hb dX1_distance_53 (lv_at hl 1 rfl) ?_
  refine lv_imul hx hb dX1_distance_55 ?_
  refine lv_iload hx hb dX1_distance_56 (lv_at hl 0 rfl) ?_
  refine lv_iload hx hb dX1_distance_58 (lv_at hl 0 rfl) ?_
  refine lv_imul hx hb dX1_distance_60 ?_
  refine lv_iadd hx hb dX1_distance_61 ?_
  rw [hQ]
  exact W.iret (v := (v3 * v3) + (v4 * v4)) hx hb hr (fun t ht hW => ⟨⟨(v3 * v3) + (v4 * v4), (), rfl, hw, by rw [ht]; exact hP, va_K.moved hW.alike hK, hD⟩, hS.F ht⟩) hS.2.2 dX1_distance_62
/-! LeadPark$Ground.isCrossed (IIIII)Z -/
abbrev ceX1_isCrossed (cyI cyB cyJ cyZ : ClassId) (a0 a1 b0_xs b0_ys b0_counts : Nat) (g0_ways : Int32) (g0_wallCount : Int32) (g0_texts : Int32) (f1 : Nat → Int32) : va_W := [(a0, .inr (1, [.ref b0_xs, .ref b0_ys, .ref b0_counts, .ref a1, .int g0_ways, .int g0_wallCount, .int g0_texts])), (a1, .inl (cyI, 32, .inl f1))]

theorem inX1_isCrossed_X1 : ∀ w ∈ wsX10, w ∈ wsX1_isCrossed := fun _ h => List.mem_cons_of_mem _ (List.mem_append_right _ h)
abbrev rmX1_isCrossed : Room := { frames := 1, cells := 0, slots := 0, locals := 40 }
set_option maxRecDepth 100000 in
set_option maxHeartbeats 4000000 in
theorem ctX1_isCrossed (l : Launch) (dC : Nat → ClassId) (dI : Nat → Nat → Nat) (cyI cyB cyJ cyZ : ClassId) (sz : Nat) (a0 a1 b0_xs b0_ys b0_counts : Nat) (g0_ways : Int32) (g0_wallCount : Int32) (g0_texts : Int32) (f1 : Nat → Int32) (p0 : Int32) (p1 : Int32) (p2 : Int32) (p3 : Int32) (p4 : Int32) (post : Int32 → Unit → Prop) (hw : wpX1_isCrossed post f1 p0 p1 p2 p3 p4) : Met l yX1_isCrossed wsX1_isCrossed rmX1_isCrossed (va_Pc [.ref a0, .int p0, .int p1, .int p2, .int p3, .int p4] (wPre dC dI cyI cyB cyJ cyZ sz (ceX1_isCrossed cyI cyB cyJ cyZ a0 a1 b0_xs b0_ys b0_counts g0_ways g0_wallCount g0_texts f1))) (va_Qi post (fun u : Unit => wAt dC dI cyI cyB cyJ cyZ (va_A (ceX1_isCrossed cyI cyB cyJ cyZ a0 a1 b0_xs b0_ys b0_counts g0_ways g0_wallCount g0_texts f1) sz) (ceX1_isCrossed cyI cyB cyJ cyZ a0 a1 b0_xs b0_ys b0_counts g0_ways g0_wallCount g0_texts f1)) (va_A (ceX1_isCrossed cyI cyB cyJ cyZ a0 a1 b0_xs b0_ys b0_counts g0_ways g0_wallCount g0_texts f1) sz)) 0 0 (va_A (ceX1_isCrossed cyI cyB cyJ cyZ a0 a1 b0_xs b0_ys b0_counts g0_ways g0_wallCount g0_texts f1) sz) := by
  refine Met.ofW (cc := cX1_isCrossed) (maxL := 18) (ret := (some .boolean)) (by decide) rfl ?_
  intro p e s m args below meth c s₁ B hml hv
  obtain ⟨rfl, hsz, hP, hK, hD0, hN⟩ := hv
  have hx := B.exec
  have hb := B.bytes
  have hr := B.returns
  have hts := atoms_spec (ws := wsX1_isCrossed) B.pre
  have hown : s.vm.findClass RX1 = some m.cls := findClass_of_methodNamed B.named
  have hlocks := B.notSynchronized
  subst hsz
  have hD := hD0.self (sz := s.heap.size)
  generalize hAe : va_A (ceX1_isCrossed cyI cyB cyJ cyZ a0 a1 b0_xs b0_ys b0_counts g0_ways g0_wallCount g0_texts f1) s.heap.size = A at hD ⊢
  have hA : ∀ q : Nat, s.heap.size ≤ q → A q := fun q h => by rw [← hAe]; exact Or.inr h
  have hS : va_S A s.heap s.heap [] := va_S.rf
  have C0 : cxM p s m meth c _ wsX1_isCrossed RX1 cX1_isCrossed 18 (some .boolean) := ⟨hx, hb, hr, hml, hown, hts, hlocks⟩
  have hl := lv_entry ([.ref a0, .int p0, .int p1, .int p2, .int p3, .int p4]) (n := 18) (Nat.le_of_ble_eq_true rfl)
  rw [lg_entry_eq]
  generalize (lg_sl ([.ref a0, .int p0, .int p1, .int p2, .int p3, .int p4]) ++ List.replicate (18 - (lg_sl ([.ref a0, .int p0, .int p1, .int p2, .int p3, .int p4])).length) Slot.unset).toArray = ls at hl ⊢
  have hl : lv_has ls 18 [(0, .ref a0), (1, .int p0), (2, .int p1), (3, .int p2), (4, .int p3), (5, .int p4)] := hl
  show W p l e rmX1_isCrossed s m _ below meth c _ _ _ _ _ _
  refine wq (fun Q hQ => ?_)
  refine lv_aload_n hx hb dX1_isCrossed_0 rfl (lv_at hl 0 rfl) ?_
  refine va_get (D := (dC, dI)) (ci := 1) (v := .ref a1) (C := RX1) (T := TX1) (N := 7) hx hb hts inX1_isCrossed_X1 hown hK hP 0 rfl rfl 3 (by decide) (hts (.fieldLink RX1 21 "LeadPark$Ground" "walls" "[I") (List.mem_of_getElem? (i := 1) rfl)) (fun _ h9 => h9) rfl dX1_isCrossed_1 ?_
  refine lv_iload_n hx hb dX1_isCrossed_4 rfl (lv_at hl 1 rfl) ?_
  refine lv_iconst (v := 4) hx hb dX1_isCrossed_5 (by decide) ?_
  refine lv_imul hx hb dX1_isCrossed_6 ?_
  obtain ⟨hi, hw⟩ := hw
  refine va_iald hx hb hK hP 1 0 rfl rfl hi dX1_isCrossed_7 ?_
  refine lv_topi (fun v1 ev1 => ?_)
  have hw := hw v1 ev1
  refine lv_istore (lv' := [(6, .int v1), (0, .ref a0), (1, .int p0), (2, .int p1), (3, .int p2), (4, .int p3), (5, .int p4)]) hx hb dX1_isCrossed_8 hl (by decide) rfl (fun ls hl => ?_)
  refine lv_aload_n hx hb dX1_isCrossed_10 rfl (lv_at hl 1 rfl) ?_
  refine va_get (D := (dC, dI)) (ci := 1) (v := .ref a1) (C := RX1) (T := TX1) (N := 7) hx hb hts inX1_isCrossed_X1 hown hK hP 0 rfl rfl 3 (by decide) (hts (.fieldLink RX1 21 "LeadPark$Ground" "walls" "[I") (List.mem_of_getElem? (i := 1) rfl)) (fun _ h9 => h9) rfl dX1_isCrossed_11 ?_
  refine lv_iload_n hx hb dX1_isCrossed_14 rfl (lv_at hl 2 rfl) ?_
  refine lv_iconst (v := 4) hx hb dX1_isCrossed_15 (by decide) ?_
  refine lv_imul hx hb dX1_isCrossed_16 ?_
  refine lv_iconst (v := 1) hx hb dX1_isCrossed_17 (by decide) ?_
  refine lv_iadd hx hb dX1_isCrossed_18 ?_
  obtain ⟨hi, hw⟩ := hw
  refine va_iald hx hb hK hP 1 0 rfl rfl hi dX1_isCrossed_19 ?_
  refine lv_topi (fun v2 ev2 => ?_)
  have hw := hw v2 ev2
  refine lv_istore (lv' := [(7, .int v2), (6, .int v1), (0, .ref a0), (1, .int p0), (2, .int p1), (3, .int p2), (4, .int p3), (5, .int p4)]) hx hb dX1_isCrossed_20 hl (by decide) rfl (fun ls hl => ?_)
  refine lv_aload_n hx hb dX1_isCrossed_22 rfl (lv_at hl 2 rfl) ?_
  refine va_get (D := (dC, dI)) (ci := 1) (v := .ref a1) (C := RX1) (T := TX1) (N := 7) hx hb hts inX1_isCrossed_X1 hown hK hP 0 rfl rfl 3 (by decide) (hts (.fieldLink RX1 21 "LeadPark$Ground" "walls" "[I") (List.mem_of_getElem? (i := 1) rfl)) (fun _ h9 => h9) rfl dX1_isCrossed_23 ?_
  refine lv_iload_n hx hb dX1_isCrossed_26 rfl (lv_at hl 3 rfl) ?_
  refine lv_iconst (v := 4) hx hb dX1_isCrossed_27 (by decide) ?_
  refine lv_imul hx hb dX1_isCrossed_28 ?_
  refine lv_iconst (v := 2) hx hb dX1_isCrossed_29 (by decide) ?_
  refine lv_iadd hx hb dX1_isCrossed_30 ?_
  obtain ⟨hi, hw⟩ := hw
  refine va_iald hx hb hK hP 1 0 rfl rfl hi dX1_isCrossed_31 ?_
  refine lv_topi (fun v3 ev3 => ?_)
  have hw := hw v3 ev3
  refine lv_istore (lv' := [(8, .int v3), (7, .int v2), (6, .int v1), (0, .ref a0), (1, .int p0), (2, .int p1), (3, .int p2), (4, .int p3), (5, .int p4)]) hx hb dX1_isCrossed_32 hl (by decide) rfl (fun ls hl => ?_)
  refine lv_aload_n hx hb dX1_isCrossed_34 rfl (lv_at hl 3 rfl) ?_
  refine va_get (D := (dC, dI)) (ci := 1) (v := .ref a1) (C := RX1) (T := TX1) (N := 7) hx hb hts inX1_isCrossed_X1 hown hK hP 0 rfl rfl 3 (by decide) (hts (.fieldLink RX1 21 "LeadPark$Ground" "walls" "[I") (List.mem_of_getElem? (i := 1) rfl)) (fun _ h9 => h9) rfl dX1_isCrossed_35 ?_
  refine lv_iload_n hx hb dX1_isCrossed_38 rfl (lv_at hl 4 rfl) ?_
  refine lv_iconst (v := 4) hx hb dX1_isCrossed_39 (by decide) ?_
  refine lv_imul hx hb dX1_isCrossed_40 ?_
  refine lv_iconst (v := 3) hx hb dX1_isCrossed_41 (by decide) ?_
  refine lv_iadd hx hb dX1_isCrossed_42 ?_
  obtain ⟨hi, hw⟩ := hw
  refine va_iald hx hb hK hP 1 0 rfl rfl hi dX1_isCrossed_43 ?_
  refine lv_topi (fun v4 ev4 => ?_)
  have hw := hw v4 ev4
  refine lv_istore (lv' := [(9, .int v4), (8, .int v3), (7, .int v2), (6, .int v1), (0, .ref a0), (1, .int p0), (2, .int p1), (3, .int p2), (4, .int p3), (5, .int p4)]) hx hb dX1_isCrossed_44 hl (by decide) rfl (fun ls hl => ?_)
  refine lv_iload_n hx hb dX1_isCrossed_46 rfl (lv_at hl 6 rfl) ?_
  refine lv_iload hx hb dX1_isCrossed_47 (lv_at hl 8 rfl) ?_
  refine va_mmax hx hb (hml.trans hl.1.symm) hown (hts (.methodLink RX1 48 Lib.Math.max.name) (List.mem_of_getElem? (i := 2) rfl)) (hts (.static Lib.Math.max.name) (List.mem_of_getElem? (i := 3) rfl)) (hts (.initialized "java/lang/Math") (List.mem_of_getElem? (i := 4) rfl)) (hts (.code Lib.Math.max.name Lib.Math.max.code 2 (some .int)) (List.mem_of_getElem? (i := 5) rfl)) (Nat.le_of_ble_eq_true rfl) (Nat.le_of_ble_eq_true rfl) (by decide) (by decide) dX1_isCrossed_49 ?_
  refine lv_iload hx hb dX1_isCrossed_52 (lv_at hl 3 rfl) ?_
  refine lv_iload hx hb dX1_isCrossed_54 (lv_at hl 1 rfl) ?_
  refine va_mmin hx hb (hml.trans hl.1.symm) hown (hts (.methodLink RX1 54 Lib.Math.min.name) (List.mem_of_getElem? (i := 6) rfl)) (hts (.static Lib.Math.min.name) (List.mem_of_getElem? (i := 7) rfl)) (hts (.initialized "java/lang/Math") (List.mem_of_getElem? (i := 4) rfl)) (hts (.code Lib.Math.min.name Lib.Math.min.code 2 (some .int)) (List.mem_of_getElem? (i := 8) rfl)) (Nat.le_of_ble_eq_true rfl) (Nat.le_of_ble_eq_true rfl) (by decide) (by decide) dX1_isCrossed_56 ?_
  refine lv_icmp_lt (tgt := 110) hx hb dX1_isCrossed_59 (by decide) (fun hc => ?_) (fun hc => ?_)
  · have hw := hw.1 hc
    refine lv_iconst (v := 0) hx hb dX1_isCrossed_110 (by decide) ?_
    rw [hQ]
    exact W.zret (v := 0) (ty := .boolean) hx hb hr rfl (fun t ht hW => ⟨⟨0, (), rfl, hw, by rw [ht]; exact hP, va_K.moved hW.alike hK, hD⟩, hS.F ht⟩) hS.2.2 dX1_isCrossed_111
  · have hw := hw.2 hc
    refine lv_iload hx hb dX1_isCrossed_62 (lv_at hl 3 rfl) ?_
    refine lv_iload hx hb dX1_isCrossed_64 (lv_at hl 1 rfl) ?_
    refine va_mmax hx hb (hml.trans hl.1.symm) hown (hts (.methodLink RX1 48 Lib.Math.max.name) (List.mem_of_getElem? (i := 2) rfl)) (hts (.static Lib.Math.max.name) (List.mem_of_getElem? (i := 3) rfl)) (hts (.initialized "java/lang/Math") (List.mem_of_getElem? (i := 4) rfl)) (hts (.code Lib.Math.max.name Lib.Math.max.code 2 (some .int)) (List.mem_of_getElem? (i := 5) rfl)) (Nat.le_of_ble_eq_true rfl) (Nat.le_of_ble_eq_true rfl) (by decide) (by decide) dX1_isCrossed_66 ?_
    refine lv_iload_n hx hb dX1_isCrossed_69 rfl (lv_at hl 6 rfl) ?_
    refine lv_iload hx hb dX1_isCrossed_70 (lv_at hl 8 rfl) ?_
    refine va_mmin hx hb (hml.trans hl.1.symm) hown (hts (.methodLink RX1 54 Lib.Math.min.name) (List.mem_of_getElem? (i := 6) rfl)) (hts (.static Lib.Math.min.name) (List.mem_of_getElem? (i := 7) rfl)) (hts (.initialized "java/lang/Math") (List.mem_of_getElem? (i := 4) rfl)) (hts (.code Lib.Math.min.name Lib.Math.min.code 2 (some .int)) (List.mem_of_getElem? (i := 8) rfl)) (Nat.le_of_ble_eq_true rfl) (Nat.le_of_ble_eq_true rfl) (by decide) (by decide) dX1_isCrossed_72 ?_
    refine lv_icmp_lt (tgt := 110) hx hb dX1_isCrossed_75 (by decide) (fun hc => ?_) (fun hc => ?_)
    · have hw := hw.1 hc
      refine lv_iconst (v := 0) hx hb dX1_isCrossed_110 (by decide) ?_
      rw [hQ]
      exact W.zret (v := 0) (ty := .boolean) hx hb hr rfl (fun t ht hW => ⟨⟨0, (), rfl, hw, by rw [ht]; exact hP, va_K.moved hW.alike hK, hD⟩, hS.F ht⟩) hS.2.2 dX1_isCrossed_111
    · have hw := hw.2 hc
      refine lv_iload_n hx hb dX1_isCrossed_78 rfl (lv_at hl 7 rfl) ?_
      refine lv_iload hx hb dX1_isCrossed_79 (lv_at hl 9 rfl) ?_
      refine va_mmax hx hb (hml.trans hl.1.symm) hown (hts (.methodLink RX1 48 Lib.Math.max.name) (List.mem_of_getElem? (i := 2) rfl)) (hts (.static Lib.Math.max.name) (List.mem_of_getElem? (i := 3) rfl)) (hts (.initialized "java/lang/Math") (List.mem_of_getElem? (i := 4) rfl)) (hts (.code Lib.Math.max.name Lib.Math.max.code 2 (some .int)) (List.mem_of_getElem? (i := 5) rfl)) (Nat.le_of_ble_eq_true rfl) (Nat.le_of_ble_eq_true rfl) (by decide) (by decide) dX1_isCrossed_81 ?_
      refine lv_iload hx hb dX1_isCrossed_84 (lv_at hl 2 rfl) ?_
      refine lv_iload hx hb dX1_isCrossed_86 (lv_at hl 0 rfl) ?_
      refine va_mmin hx hb (hml.trans hl.1.symm) hown (hts (.methodLink RX1 54 Lib.Math.min.name) (List.mem_of_getElem? (i := 6) rfl)) (hts (.static Lib.Math.min.name) (List.mem_of_getElem? (i := 7) rfl)) (hts (.initialized "java/lang/Math") (List.mem_of_getElem? (i := 4) rfl)) (hts (.code Lib.Math.min.name Lib.Math.min.code 2 (some .int)) (List.mem_of_getElem? (i := 8) rfl)) (Nat.le_of_ble_eq_true rfl) (Nat.le_of_ble_eq_true rfl) (by decide) (by decide) dX1_isCrossed_88 ?_
      refine lv_icmp_lt (tgt := 110) hx hb dX1_isCrossed_91 (by decide) (fun hc => ?_) (fun hc => ?_)
      · have hw := hw.1 hc
        refine lv_iconst (v := 0) hx hb dX1_isCrossed_110 (by decide) ?_
        rw [hQ]
        exact W.zret (v := 0) (ty := .boolean) hx hb hr rfl (fun t ht hW => ⟨⟨0, (), rfl, hw, by rw [ht]; exact hP, va_K.moved hW.alike hK, hD⟩, hS.F ht⟩) hS.2.2 dX1_isCrossed_111
      · have hw := hw.2 hc
        refine lv_iload hx hb dX1_isCrossed_94 (lv_at hl 2 rfl) ?_
        refine lv_iload hx hb dX1_isCrossed_96 (lv_at hl 0 rfl) ?_
        refine va_mmax hx hb (hml.trans hl.1.symm) hown (hts (.methodLink RX1 48 Lib.Math.max.name) (List.mem_of_getElem? (i := 2) rfl)) (hts (.static Lib.Math.max.name) (List.mem_of_getElem? (i := 3) rfl)) (hts (.initialized "java/lang/Math") (List.mem_of_getElem? (i := 4) rfl)) (hts (.code Lib.Math.max.name Lib.Math.max.code 2 (some .int)) (List.mem_of_getElem? (i := 5) rfl)) (Nat.le_of_ble_eq_true rfl) (Nat.le_of_ble_eq_true rfl) (by decide) (by decide) dX1_isCrossed_98 ?_
        refine lv_iload_n hx hb dX1_isCrossed_101 rfl (lv_at hl 7 rfl) ?_
        refine lv_iload hx hb dX1_isCrossed_102 (lv_at hl 9 rfl) ?_
        refine va_mmin hx hb (hml.trans hl.1.symm) hown (hts (.methodLink RX1 54 Lib.Math.min.name) (List.mem_of_getElem? (i := 6) rfl)) (hts (.static Lib.Math.min.name) (List.mem_of_getElem? (i := 7) rfl)) (hts (.initialized "java/lang/Math") (List.mem_of_getElem? (i := 4) rfl)) (hts (.code Lib.Math.min.name Lib.Math.min.code 2 (some .int)) (List.mem_of_getElem? (i := 8) rfl)) (Nat.le_of_ble_eq_true rfl) (Nat.le_of_ble_eq_true rfl) (by decide) (by decide) dX1_isCrossed_104 ?_
        refine lv_icmp_ge (tgt := 112) hx hb dX1_isCrossed_107 (by decide) (fun hc => ?_) (fun hc => ?_)
        · have hw := hw.1 hc
          refine lv_iload hx hb dX1_isCrossed_112 (lv_at hl 8 rfl) ?_
          refine lv_iload_n hx hb dX1_isCrossed_114 rfl (lv_at hl 6 rfl) ?_
          refine lv_isub hx hb dX1_isCrossed_115 ?_
          refine lv_iload hx hb dX1_isCrossed_116 (lv_at hl 2 rfl) ?_
          refine lv_iload_n hx hb dX1_isCrossed_118 rfl (lv_at hl 7 rfl) ?_
          refine lv_isub hx hb dX1_isCrossed_119 ?_
          refine lv_imul hx hb dX1_isCrossed_120 ?_
          refine lv_iload hx hb dX1_isCrossed_121 (lv_at hl 9 rfl) ?_
          refine lv_iload_n hx hb dX1_isCrossed_123 rfl (lv_at hl 7 rfl) ?_
          refine lv_isub hx hb dX1_isCrossed_124 ?_
          refine lv_iload hx hb dX1_isCrossed_125 (lv_at hl 3 rfl) ?_
          refine lv_iload_n hx hb dX1_isCrossed_127 rfl (lv_at hl 6 rfl) ?_
          refine lv_isub hx hb dX1_isCrossed_128 ?_
          refine lv_imul hx hb dX1_isCrossed_129 ?_
          refine lv_isub hx hb dX1_isCrossed_130 ?_
          refine lv_i2l hx hb dX1_isCrossed_131 rfl ?_
          refine lv_topl (fun v5 ev5 => ?_)
          have hw := hw v5 ev5
          refine lv_lstore (lv' := [(10, .long v5), (9, .int v4), (8, .int v3), (7, .int v2), (6, .int v1), (0, .ref a0), (1, .int p0), (2, .int p1), (3, .int p2), (4, .int p3), (5, .int p4)]) hx hb dX1_isCrossed_132 hl (by decide) rfl (fun ls hl => ?_)
          refine lv_iload hx hb dX1_isCrossed_134 (lv_at hl 9 rfl) ?_
          refine lv_iload_n hx hb dX1_isCrossed_136 rfl (lv_at hl 7 rfl) ?_
          refine lv_isub hx hb dX1_isCrossed_137 ?_
          refine lv_iload hx hb dX1_isCrossed_138 (lv_at hl 1 rfl) ?_
          refine lv_iload_n hx hb dX1_isCrossed_140 rfl (lv_at hl 8 rfl) ?_
          refine lv_isub hx hb dX1_isCrossed_141 ?_
          refine lv_imul hx hb dX1_isCrossed_142 ?_
          refine lv_iload hx hb dX1_isCrossed_143 (lv_at hl 10 rfl) ?_
          refine lv_iload_n hx hb dX1_isCrossed_145 rfl (lv_at hl 8 rfl) ?_
          refine lv_isub hx hb dX1_isCrossed_146 ?_
          refine lv_iload hx hb dX1_isCrossed_147 (lv_at hl 2 rfl) ?_
          refine lv_iload_n hx hb dX1_isCrossed_149 rfl (lv_at hl 7 rfl) ?_
          refine lv_isub hx hb dX1_isCrossed_150 ?_
          refine lv_imul hx hb dX1_isCrossed_151 ?_
          refine lv_isub hx hb dX1_isCrossed_152 ?_
          refine lv_i2l hx hb dX1_isCrossed_153 rfl ?_
          refine lv_topl (fun v6 ev6 => ?_)
          have hw := hw v6 ev6
          refine lv_lstore (lv' := [(12, .long v6), (10, .long v5), (9, .int v4), (8, .int v3), (7, .int v2), (6, .int v1), (0, .ref a0), (1, .int p0), (2, .int p1), (3, .int p2), (4, .int p3), (5, .int p4)]) hx hb dX1_isCrossed_154 hl (by decide) rfl (fun ls hl => ?_)
          refine lv_iload hx hb dX1_isCrossed_156 (lv_at hl 3 rfl) ?_
          refine lv_iload hx hb dX1_isCrossed_158 (lv_at hl 5 rfl) ?_
          refine lv_isub hx hb dX1_isCrossed_160 ?_
          refine lv_iload_n hx hb dX1_isCrossed_161 rfl (lv_at hl 9 rfl) ?_
          refine lv_iload hx hb dX1_isCrossed_162 (lv_at hl 4 rfl) ?_
          refine lv_isub hx hb dX1_isCrossed_164 ?_
          refine lv_imul hx hb dX1_isCrossed_165 ?_
          refine lv_iload hx hb dX1_isCrossed_166 (lv_at hl 2 rfl) ?_
          refine lv_iload hx hb dX1_isCrossed_168 (lv_at hl 4 rfl) ?_
          refine lv_isub hx hb dX1_isCrossed_170 ?_
          refine lv_iload_n hx hb dX1_isCrossed_171 rfl (lv_at hl 8 rfl) ?_
          refine lv_iload hx hb dX1_isCrossed_172 (lv_at hl 5 rfl) ?_
          refine lv_isub hx hb dX1_isCrossed_174 ?_
          refine lv_imul hx hb dX1_isCrossed_175 ?_
          refine lv_isub hx hb dX1_isCrossed_176 ?_
          refine lv_i2l hx hb dX1_isCrossed_177 rfl ?_
          refine lv_topl (fun v7 ev7 => ?_)
          have hw := hw v7 ev7
          refine lv_lstore (lv' := [(14, .long v7), (12, .long v6), (10, .long v5), (9, .int v4), (8, .int v3), (7, .int v2), (6, .int v1), (0, .ref a0), (1, .int p0), (2, .int p1), (3, .int p2), (4, .int p3), (5, .int p4)]) hx hb dX1_isCrossed_178 hl (by decide) rfl (fun ls hl => ?_)
          refine lv_iload hx hb dX1_isCrossed_180 (lv_at hl 4 rfl) ?_
          refine lv_iload hx hb dX1_isCrossed_182 (lv_at hl 6 rfl) ?_
          refine lv_isub hx hb dX1_isCrossed_184 ?_
          refine lv_iload hx hb dX1_isCrossed_185 (lv_at hl 12 rfl) ?_
          refine lv_iload hx hb dX1_isCrossed_187 (lv_at hl 5 rfl) ?_
          refine lv_isub hx hb dX1_isCrossed_189 ?_
          refine lv_imul hx hb dX1_isCrossed_190 ?_
          refine lv_iload hx hb dX1_isCrossed_191 (lv_at hl 3 rfl) ?_
          refine lv_iload hx hb dX1_isCrossed_193 (lv_at hl 5 rfl) ?_
          refine lv_isub hx hb dX1_isCrossed_195 ?_
          refine lv_iload hx hb dX1_isCrossed_196 (lv_at hl 11 rfl) ?_
          refine lv_iload hx hb dX1_isCrossed_198 (lv_at hl 6 rfl) ?_
          refine lv_isub hx hb dX1_isCrossed_200 ?_
          refine lv_imul hx hb dX1_isCrossed_201 ?_
          refine lv_isub hx hb dX1_isCrossed_202 ?_
          refine lv_i2l hx hb dX1_isCrossed_203 rfl ?_
          refine lv_topl (fun v8 ev8 => ?_)
          have hw := hw v8 ev8
          refine lv_lstore (lv' := [(16, .long v8), (14, .long v7), (12, .long v6), (10, .long v5), (9, .int v4), (8, .int v3), (7, .int v2), (6, .int v1), (0, .ref a0), (1, .int p0), (2, .int p1), (3, .int p2), (4, .int p3), (5, .int p4)]) hx hb dX1_isCrossed_204 hl (by decide) rfl (fun ls hl => ?_)
          refine lv_lload hx hb dX1_isCrossed_206 (lv_at hl 3 rfl) ?_
          refine lv_lload hx hb dX1_isCrossed_208 (lv_at hl 2 rfl) ?_
          refine lv_lmul hx hb dX1_isCrossed_210 ?_
          refine lv_lconst (v := 0) hx hb dX1_isCrossed_211 (by decide) ?_
          refine W.lcmp hx hb dX1_isCrossed_212 ?_
          refine lv_if_gt (tgt := 230) hx hb dX1_isCrossed_213 (by decide) (fun hc => ?_) (fun hc => ?_)
          · have hw := hw.1 hc
            refine lv_iconst (v := 0) hx hb dX1_isCrossed_230 (by decide) ?_
            rw [hQ]
            exact W.zret (v := 0) (ty := .boolean) hx hb hr rfl (fun t ht hW => ⟨⟨0, (), rfl, hw, by rw [ht]; exact hP, va_K.moved hW.alike hK, hD⟩, hS.F ht⟩) hS.2.2 dX1_isCrossed_231
          · have hw := hw.2 hc
            refine lv_lload hx hb dX1_isCrossed_216 (lv_at hl 1 rfl) ?_
            refine lv_lload hx hb dX1_isCrossed_218 (lv_at hl 0 rfl) ?_
            refine lv_lmul hx hb dX1_isCrossed_220 ?_
            refine lv_lconst (v := 0) hx hb dX1_isCrossed_221 (by decide) ?_
            refine W.lcmp hx hb dX1_isCrossed_222 ?_
            refine lv_if_gt (tgt := 230) hx hb dX1_isCrossed_223 (by decide) (fun hc => ?_) (fun hc => ?_)
            · have hw := hw.1 hc
              refine lv_iconst (v := 0) hx hb dX1_isCrossed_230 (by decide) ?_
              rw [hQ]
              exact W.zret (v := 0) (ty := .boolean) hx hb hr rfl (fun t ht hW => ⟨⟨0, (), rfl, hw, by rw [ht]; exact hP, va_K.moved hW.alike hK, hD⟩, hS.F ht⟩) hS.2.2 dX1_isCrossed_231
            · have hw := hw.2 hc
              refine lv_iconst (v := 1) hx hb dX1_isCrossed_226 (by decide) ?_
              refine lv_goto (tgt := 231) hx hb dX1_isCrossed_227 (by decide) ?_
              rw [hQ]
              exact W.zret (v := 1) (ty := .boolean) hx hb hr rfl (fun t ht hW => ⟨⟨1, (), rfl, hw, by rw [ht]; exact hP, va_K.moved hW.alike hK, hD⟩, hS.F ht⟩) hS.2.2 dX1_isCrossed_231
        · have hw := hw.2 hc
          refine lv_iconst (v := 0) hx hb dX1_isCrossed_110 (by decide) ?_
          rw [hQ]
          exact W.zret (v := 0) (ty := .boolean) hx hb hr rfl (fun t ht hW => ⟨⟨0, (), rfl, hw, by rw [ht]; exact hP, va_K.moved hW.alike hK, hD⟩, hS.F ht⟩) hS.2.2 dX1_isCrossed_111
/-! LeadPark$Ground.isWalledOff (IIII)Z -/
abbrev ceX1_isWalledOff (cyI cyB cyJ cyZ : ClassId) (a0 a1 a2 a3 b0_counts : Nat) (g0_ways : Int32) (g0_texts : Int32) (g0_wallCount : Int32) (f1 : Nat → Int32) (f2 : Nat → Int32) (f3 : Nat → Int32) : va_W := [(a0, .inr (1, [.ref a1, .ref a2, .ref b0_counts, .ref a3, .int g0_ways, .int g0_wallCount, .int g0_texts])), (a1, .inl (cyI, 360, .inl f1)), (a2, .inl (cyI, 360, .inl f2)), (a3, .inl (cyI, 32, .inl f3))]

theorem inX1_isWalledOff_X1 : ∀ w ∈ wsX10, w ∈ wsX1_isWalledOff := fun _ h => List.mem_cons_of_mem _ (List.mem_append_right _ h)
abbrev rmX1_isWalledOff : Room := { frames := 2, cells := 0, slots := 0, locals := 77 }
set_option maxRecDepth 100000 in
set_option maxHeartbeats 4000000 in
theorem bX1_isWalledOff_20 {p : Program} {l : Launch} {e : Env} {s : State} {m : MethodId} {args : Array Value} {below : List Frame} {meth : Method} {c : Code} {dC : Nat → ClassId} {dI : Nat → Nat → Nat} {cyI cyB cyJ cyZ : ClassId} {A : Nat → Prop} {a0 a1 a2 a3 b0_counts : Nat} {g0_ways : Int32} {g0_texts : Int32} (C0 : cxM p s m meth c args wsX1_isWalledOff RX1 cX1_isWalledOff 8 (some .boolean)) (hK : va_K (dC, dI) vwCl (tyA cyI cyB cyJ cyZ) s) (hN : nwA s) (hA : ∀ q : Nat, s.heap.size ≤ q → A q) {post : Int32 → Unit → Prop} {g0_wallCount : Int32} {f1 : Nat → Int32} {f2 : Nat → Int32} {f3 : Nat → Int32} {Q : State → Prop} (hQ : Q = MQ below (va_Qi post (fun u : Unit => wAt dC dI cyI cyB cyJ cyZ A (ceX1_isWalledOff cyI cyB cyJ cyZ a0 a1 a2 a3 b0_counts g0_ways g0_texts g0_wallCount f1 f2 f3)) A) args s 0 0 A) : ∀ (n : Nat) (x5 : Int32) (x6 : Int32) (x7 : Int32), wpX1_isWalledOff_20 post g0_wallCount f1 f2 f3 n x5 x6 x7 → AtW p l e rmX1_isWalledOff s m args below meth c dC dI A Q 8 0 0 (ceX1_isWalledOff cyI cyB cyJ cyZ a0 a1 a2 a3 b0_counts g0_ways g0_texts g0_wallCount f1 f2 f3) [(0, .ref a0), (5, .int x5), (6, .int x6), (7, .int x7)] 20 [] := by
  intro n
  induction n with
  | zero => intro x5 x6 x7 hw; exact False.elim hw
  | succ n ih =>
    intro x5 x6 x7 hw H locs hP hD hS ls hl
    have C1 := C0
    obtain ⟨hx, hb, hr, hml, hown, hts, hlocks⟩ := C1
    refine lv_iload hx hb dX1_isWalledOff_20 (lv_at hl 3 rfl) ?_
    refine lv_aload_n hx hb dX1_isWalledOff_22 rfl (lv_at hl 0 rfl) ?_
    refine va_get (D := (dC, dI)) (ci := 1) (v := .int g0_wallCount) (C := RX1) (T := TX1) (N := 7) hx hb hts inX1_isWalledOff_X1 hown hK hP 0 rfl rfl 5 (by decide) (hts (.fieldLink RX1 28 "LeadPark$Ground" "wallCount" "I") (List.mem_of_getElem? (i := 1) rfl)) (fun _ h9 => h9) rfl dX1_isWalledOff_23 ?_
    refine lv_icmp_ge (tgt := 74) hx hb dX1_isWalledOff_26 (by decide) (fun hc => ?_) (fun hc => ?_)
    · have hw := hw.1 hc
      refine lv_iconst (v := 0) hx hb dX1_isWalledOff_74 (by decide) ?_
      rw [hQ]
      exact W.zret (v := 0) (ty := .boolean) hx hb hr rfl (fun t ht hW => ⟨⟨0, (), rfl, hw, by rw [ht]; exact hP, va_K.moved hW.alike hK, hD⟩, hS.F ht⟩) hS.2.2 dX1_isWalledOff_75
    · have hw := hw.2 hc
      refine lv_aload_n hx hb dX1_isWalledOff_29 rfl (lv_at hl 0 rfl) ?_
      refine lv_iload hx hb dX1_isWalledOff_30 (lv_at hl 3 rfl) ?_
      refine lv_aload_n hx hb dX1_isWalledOff_32 rfl (lv_at hl 0 rfl) ?_
      refine va_get (D := (dC, dI)) (ci := 1) (v := .ref a1) (C := RX1) (T := TX1) (N := 7) hx hb hts inX1_isWalledOff_X1 hown hK hP 0 rfl rfl 0 (by decide) (hts (.fieldLink RX1 9 "LeadPark$Ground" "xs" "[I") (List.mem_of_getElem? (i := 2) rfl)) (fun _ h9 => h9) rfl dX1_isWalledOff_33 ?_
      refine lv_iload hx hb dX1_isWalledOff_36 (lv_at hl 1 rfl) ?_
      obtain ⟨hi, hw⟩ := hw
      refine va_iald hx hb hK hP 1 0 rfl rfl hi dX1_isWalledOff_38 ?_
      refine lv_aload_n hx hb dX1_isWalledOff_39 rfl (lv_at hl 0 rfl) ?_
      refine va_get (D := (dC, dI)) (ci := 1) (v := .ref a2) (C := RX1) (T := TX1) (N := 7) hx hb hts inX1_isWalledOff_X1 hown hK hP 0 rfl rfl 1 (by decide) (hts (.fieldLink RX1 15 "LeadPark$Ground" "ys" "[I") (List.mem_of_getElem? (i := 3) rfl)) (fun _ h9 => h9) rfl dX1_isWalledOff_40 ?_
      refine lv_iload hx hb dX1_isWalledOff_43 (lv_at hl 1 rfl) ?_
      obtain ⟨hi, hw⟩ := hw
      refine va_iald hx hb hK hP 2 0 rfl rfl hi dX1_isWalledOff_45 ?_
      refine lv_aload_n hx hb dX1_isWalledOff_46 rfl (lv_at hl 0 rfl) ?_
      refine va_get (D := (dC, dI)) (ci := 1) (v := .ref a1) (C := RX1) (T := TX1) (N := 7) hx hb hts inX1_isWalledOff_X1 hown hK hP 0 rfl rfl 0 (by decide) (hts (.fieldLink RX1 9 "LeadPark$Ground" "xs" "[I") (List.mem_of_getElem? (i := 2) rfl)) (fun _ h9 => h9) rfl dX1_isWalledOff_47 ?_
      refine lv_iload hx hb dX1_isWalledOff_50 (lv_at hl 2 rfl) ?_
      obtain ⟨hi, hw⟩ := hw
      refine va_iald hx hb hK hP 1 0 rfl rfl hi dX1_isWalledOff_52 ?_
      refine lv_aload_n hx hb dX1_isWalledOff_53 rfl (lv_at hl 0 rfl) ?_
      refine va_get (D := (dC, dI)) (ci := 1) (v := .ref a2) (C := RX1) (T := TX1) (N := 7) hx hb hts inX1_isWalledOff_X1 hown hK hP 0 rfl rfl 1 (by decide) (hts (.fieldLink RX1 15 "LeadPark$Ground" "ys" "[I") (List.mem_of_getElem? (i := 3) rfl)) (fun _ h9 => h9) rfl dX1_isWalledOff_54 ?_
      refine lv_iload hx hb dX1_isWalledOff_57 (lv_at hl 2 rfl) ?_
      obtain ⟨hi, hw⟩ := hw
      refine va_iald hx hb hK hP 2 0 rfl rfl hi dX1_isWalledOff_59 ?_
      have hPc := hP.sub (ws' := (ceX1_isCrossed cyI cyB cyJ cyZ a0 a3 a1 a2 b0_counts g0_ways g0_wallCount g0_texts f3)) [0, 3] rfl
      have hDc := hD.sub (ws' := (ceX1_isCrossed cyI cyB cyJ cyZ a0 a3 a1 a2 b0_counts g0_ways g0_wallCount g0_texts f3)) [0, 3] (by decide) rfl
      have hFc := va_free (wc := (ceX1_isCrossed cyI cyB cyJ cyZ a0 a3 a1 a2 b0_counts g0_ways g0_wallCount g0_texts f3)) hD hS hA [0, 3] rfl
      refine va_calli (va_runV (As := [.int x7, .int (f1 x5.toNatClampNeg), .int (f2 x5.toNatClampNeg), .int (f1 x6.toNatClampNeg), .int (f2 x6.toNatClampNeg)]) (rest := []) ⟨hx, hb, hml, hown, hts⟩ (ctX1_isCrossed l dC dI cyI cyB cyJ cyZ _ a0 a3 a1 a2 b0_counts g0_ways g0_wallCount g0_texts f3 x7 (f1 x5.toNatClampNeg) (f2 x5.toNatClampNeg) (f1 x6.toNatClampNeg) (f2 x6.toNatClampNeg) _ hw) (cwV 5 hts gX1_isWalledOff_X1_isCrossed rfl rfl rfl (by decide +kernel) ⟨Nat.le_of_ble_eq_true rfl, Nat.le_of_ble_eq_true rfl⟩) ⟨wPre_blind, va_recv hK hPc (ci := 1) (q0 := 0) rfl rfl, fun U hU hW => wPre_of hPc hK hDc hN hU hW⟩ rfl rfl hl.1 rfl (lv_room (Nat.le_of_ble_eq_true rfl)) dX1_isWalledOff_60 ⟨(Nat.zero_le _), (Nat.zero_le _)⟩) hS (fun q _ h => hFc q h) hFc (fun r2 u1 t H1 locs ht hvm hw hB hz1 hk1 hS => ?_)
      obtain ⟨hP1, hK1, hD1⟩ := hB
      rw [ht] at hP1
      obtain ⟨hP, hD⟩ := va_join (wr := pickW (ceX1_isWalledOff cyI cyB cyJ cyZ a0 a1 a2 a3 b0_counts g0_ways g0_texts g0_wallCount f1 f2 f3) [1, 2]) (w1 := (ceX1_isCrossed cyI cyB cyJ cyZ a0 a3 a1 a2 b0_counts g0_ways g0_wallCount g0_texts f3)) hP hD [0, 3] [1, 2] rfl rfl (by decide) (by decide) hk1 hFc hP1 hD1
      have hP := hP.sub (ws' := (ceX1_isWalledOff cyI cyB cyJ cyZ a0 a1 a2 a3 b0_counts g0_ways g0_texts g0_wallCount f1 f2 f3)) [2, 0, 1, 3] rfl
      have hD := hD.sub (ws' := (ceX1_isWalledOff cyI cyB cyJ cyZ a0 a1 a2 a3 b0_counts g0_ways g0_texts g0_wallCount f1 f2 f3)) [2, 0, 1, 3] (by decide) rfl
      generalize H1 = H at hP hS ⊢
      refine lv_if_eq (tgt := 68) hx hb dX1_isWalledOff_63 (by decide) (fun hc => ?_) (fun hc => ?_)
      · have hw := hw.1 hc
        obtain ⟨v3, ev3⟩ : ∃ y : Int32, y = x7 + 1 := ⟨_, rfl⟩
        have hw := hw v3 ev3
        refine lv_iinc (v := v3) (lv' := [(7, .int v3), (0, .ref a0), (5, .int x5), (6, .int x6)]) hx hb dX1_isWalledOff_68 hl (k := 3) rfl (by rw [ev3]; rfl) (by decide) rfl (fun ls hl => ?_)
        refine lv_goto (tgt := 20) hx hb dX1_isWalledOff_71 (by decide) ?_
        exact ih x5 x6 v3 hw H locs hP hD hS ls (lv_sub hl [1, 2, 3, 0] rfl)
      · have hw := hw.2 hc
        refine lv_iconst (v := 1) hx hb dX1_isWalledOff_66 (by decide) ?_
        rw [hQ]
        exact W.zret (v := 1) (ty := .boolean) hx hb hr rfl (fun t ht hW => ⟨⟨1, (), rfl, hw, by rw [ht]; exact hP, va_K.moved hW.alike hK, hD⟩, hS.F ht⟩) hS.2.2 dX1_isWalledOff_67
set_option maxRecDepth 100000 in
set_option maxHeartbeats 4000000 in
theorem ctX1_isWalledOff (l : Launch) (dC : Nat → ClassId) (dI : Nat → Nat → Nat) (cyI cyB cyJ cyZ : ClassId) (sz : Nat) (a0 a1 a2 a3 b0_counts : Nat) (g0_ways : Int32) (g0_texts : Int32) (g0_wallCount : Int32) (f1 : Nat → Int32) (f2 : Nat → Int32) (f3 : Nat → Int32) (p0 : Int32) (p1 : Int32) (p2 : Int32) (p3 : Int32) (post : Int32 → Unit → Prop) (hw : wpX1_isWalledOff post g0_wallCount f1 f2 f3 p0 p1 p2 p3) : Met l yX1_isWalledOff wsX1_isWalledOff rmX1_isWalledOff (va_Pc [.ref a0, .int p0, .int p1, .int p2, .int p3] (wPre dC dI cyI cyB cyJ cyZ sz (ceX1_isWalledOff cyI cyB cyJ cyZ a0 a1 a2 a3 b0_counts g0_ways g0_texts g0_wallCount f1 f2 f3))) (va_Qi post (fun u : Unit => wAt dC dI cyI cyB cyJ cyZ (va_A (ceX1_isWalledOff cyI cyB cyJ cyZ a0 a1 a2 a3 b0_counts g0_ways g0_texts g0_wallCount f1 f2 f3) sz) (ceX1_isWalledOff cyI cyB cyJ cyZ a0 a1 a2 a3 b0_counts g0_ways g0_texts g0_wallCount f1 f2 f3)) (va_A (ceX1_isWalledOff cyI cyB cyJ cyZ a0 a1 a2 a3 b0_counts g0_ways g0_texts g0_wallCount f1 f2 f3) sz)) 0 0 (va_A (ceX1_isWalledOff cyI cyB cyJ cyZ a0 a1 a2 a3 b0_counts g0_ways g0_texts g0_wallCount f1 f2 f3) sz) := by
  refine Met.ofW (cc := cX1_isWalledOff) (maxL := 8) (ret := (some .boolean)) (by decide) rfl ?_
  intro p e s m args below meth c s₁ B hml hv
  obtain ⟨rfl, hsz, hP, hK, hD0, hN⟩ := hv
  have hx := B.exec
  have hb := B.bytes
  have hr := B.returns
  have hts := atoms_spec (ws := wsX1_isWalledOff) B.pre
  have hown : s.vm.findClass RX1 = some m.cls := findClass_of_methodNamed B.named
  have hlocks := B.notSynchronized
  subst hsz
  have hD := hD0.self (sz := s.heap.size)
  generalize hAe : va_A (ceX1_isWalledOff cyI cyB cyJ cyZ a0 a1 a2 a3 b0_counts g0_ways g0_texts g0_wallCount f1 f2 f3) s.heap.size = A at hD ⊢
  have hA : ∀ q : Nat, s.heap.size ≤ q → A q := fun q h => by rw [← hAe]; exact Or.inr h
  have hS : va_S A s.heap s.heap [] := va_S.rf
  have C0 : cxM p s m meth c _ wsX1_isWalledOff RX1 cX1_isWalledOff 8 (some .boolean) := ⟨hx, hb, hr, hml, hown, hts, hlocks⟩
  have hl := lv_entry ([.ref a0, .int p0, .int p1, .int p2, .int p3]) (n := 8) (Nat.le_of_ble_eq_true rfl)
  rw [lg_entry_eq]
  generalize (lg_sl ([.ref a0, .int p0, .int p1, .int p2, .int p3]) ++ List.replicate (8 - (lg_sl ([.ref a0, .int p0, .int p1, .int p2, .int p3])).length) Slot.unset).toArray = ls at hl ⊢
  have hl : lv_has ls 8 [(0, .ref a0), (1, .int p0), (2, .int p1), (3, .int p2), (4, .int p3)] := hl
  show W p l e rmX1_isWalledOff s m _ below meth c _ _ _ _ _ _
  refine wq (fun Q hQ => ?_)
  refine lv_iload_n hx hb dX1_isWalledOff_0 rfl (lv_at hl 1 rfl) ?_
  refine lv_bipush (v := 30) hx hb dX1_isWalledOff_1 (by decide) ?_
  refine lv_imul hx hb dX1_isWalledOff_3 ?_
  refine lv_iload_n hx hb dX1_isWalledOff_4 rfl (lv_at hl 2 rfl) ?_
  refine lv_iadd hx hb dX1_isWalledOff_5 ?_
  refine lv_topi (fun v1 ev1 => ?_)
  have hw := hw v1 ev1
  refine lv_istore (lv' := [(5, .int v1), (0, .ref a0), (1, .int p0), (2, .int p1), (3, .int p2), (4, .int p3)]) hx hb dX1_isWalledOff_6 hl (by decide) rfl (fun ls hl => ?_)
  refine lv_iload_n hx hb dX1_isWalledOff_8 rfl (lv_at hl 4 rfl) ?_
  refine lv_bipush (v := 30) hx hb dX1_isWalledOff_9 (by decide) ?_
  refine lv_imul hx hb dX1_isWalledOff_11 ?_
  refine lv_iload hx hb dX1_isWalledOff_12 (lv_at hl 5 rfl) ?_
  refine lv_iadd hx hb dX1_isWalledOff_14 ?_
  refine lv_topi (fun v2 ev2 => ?_)
  have hw := hw v2 ev2
  refine lv_istore (lv' := [(6, .int v2), (5, .int v1), (0, .ref a0), (1, .int p0), (2, .int p1), (3, .int p2), (4, .int p3)]) hx hb dX1_isWalledOff_15 hl (by decide) rfl (fun ls hl => ?_)
  refine lv_iconst (v := 0) hx hb dX1_isWalledOff_17 (by decide) ?_
  refine lv_istore (lv' := [(7, .int 0), (6, .int v2), (5, .int v1), (0, .ref a0), (1, .int p0), (2, .int p1), (3, .int p2), (4, .int p3)]) hx hb dX1_isWalledOff_18 hl (by decide) rfl (fun ls hl => ?_)
  obtain ⟨nn, hw⟩ := hw
  exact bX1_isWalledOff_20 C0 hK hN hA hQ nn v1 v2 0 hw _ _ hP hD hS ls (lv_sub hl [3, 2, 1, 0] rfl)
