/-! LeadPark$Marks.copyFrom (LLeadPark$Marks;)V -/
abbrev ceX3_copyFrom (cyI cyB cyJ cyZ : ClassId) (a0 a1 a2 a3 a4 a5 a6 a7 a8 a9 : Nat) (g5_size : Int32) (f6 : Nat → Int32) (f7 : Nat → Int32) (f8 : Nat → Int32) (f9 : Nat → Int32) (g0_size : Int32) (f1 : Nat → Int32) (f2 : Nat → Int32) (f3 : Nat → Int32) (f4 : Nat → Int32) : va_W := [(a0, .inr (3, [.ref a1, .ref a2, .ref a3, .ref a4, .int g0_size])), (a1, .inl (cyI, 20, .inl f1)), (a2, .inl (cyI, 20, .inl f2)), (a3, .inl (cyI, 20, .inl f3)), (a4, .inl (cyI, 20, .inl f4)), (a5, .inr (3, [.ref a6, .ref a7, .ref a8, .ref a9, .int g5_size])), (a6, .inl (cyI, 20, .inl f6)), (a7, .inl (cyI, 20, .inl f7)), (a8, .inl (cyI, 20, .inl f8)), (a9, .inl (cyI, 20, .inl f9))]

theorem inX3_copyFrom_X3 : ∀ w ∈ wsX30, w ∈ wsX3_copyFrom := fun _ h => List.mem_cons_of_mem _ (List.mem_append_right _ h)
abbrev rmX3_copyFrom : Room := { frames := 1, cells := 0, slots := 0, locals := 64 }
set_option maxRecDepth 100000 in
set_option maxHeartbeats 4000000 in
theorem ctX3_copyFrom (l : Launch) (dC : Nat → ClassId) (dI : Nat → Nat → Nat) (cyI cyB cyJ cyZ : ClassId) (sz : Nat) (a0 a1 a2 a3 a4 a5 a6 a7 a8 a9 : Nat) (g5_size : Int32) (f6 : Nat → Int32) (f7 : Nat → Int32) (f8 : Nat → Int32) (f9 : Nat → Int32) (g0_size : Int32) (f1 : Nat → Int32) (f2 : Nat → Int32) (f3 : Nat → Int32) (f4 : Nat → Int32) (post : (Int32 × (Nat → Int32) × (Nat → Int32) × (Nat → Int32) × (Nat → Int32)) → Prop) (hw : wpX3_copyFrom post g5_size f6 f7 f8 f9 g0_size f1 f2 f3 f4 ) : Met l yX3_copyFrom wsX3_copyFrom rmX3_copyFrom (va_Pc [.ref a0, .ref a5] (wPre dC dI cyI cyB cyJ cyZ sz (ceX3_copyFrom cyI cyB cyJ cyZ a0 a1 a2 a3 a4 a5 a6 a7 a8 a9 g5_size f6 f7 f8 f9 g0_size f1 f2 f3 f4))) (va_Qv post (fun u : Int32 × (Nat → Int32) × (Nat → Int32) × (Nat → Int32) × (Nat → Int32) => wAt dC dI cyI cyB cyJ cyZ (va_A (ceX3_copyFrom cyI cyB cyJ cyZ a0 a1 a2 a3 a4 a5 a6 a7 a8 a9 g5_size f6 f7 f8 f9 g0_size f1 f2 f3 f4) sz) (ceX3_copyFrom cyI cyB cyJ cyZ a0 a1 a2 a3 a4 a5 a6 a7 a8 a9 g5_size f6 f7 f8 f9 u.1 u.2.1 u.2.2.1 u.2.2.2.1 u.2.2.2.2)) (va_A (ceX3_copyFrom cyI cyB cyJ cyZ a0 a1 a2 a3 a4 a5 a6 a7 a8 a9 g5_size f6 f7 f8 f9 g0_size f1 f2 f3 f4) sz)) 0 0 (va_A (ceX3_copyFrom cyI cyB cyJ cyZ a0 a1 a2 a3 a4 a5 a6 a7 a8 a9 g5_size f6 f7 f8 f9 g0_size f1 f2 f3 f4) sz) := by
  refine Met.ofW (cc := cX3_copyFrom) (maxL := 2) (ret := none) (by decide) rfl ?_
  intro p e s m args below meth c s₁ B hml hv
  obtain ⟨rfl, hsz, hP, hK, hD0, hN⟩ := hv
  have hx := B.exec
  have hb := B.bytes
  have hr := B.returns
  have hts := atoms_spec (ws := wsX3_copyFrom) B.pre
  have hown : s.vm.findClass RX3 = some m.cls := findClass_of_methodNamed B.named
  have hlocks := B.notSynchronized
  subst hsz
  have hD := hD0.self (sz := s.heap.size)
  generalize hAe : va_A (ceX3_copyFrom cyI cyB cyJ cyZ a0 a1 a2 a3 a4 a5 a6 a7 a8 a9 g5_size f6 f7 f8 f9 g0_size f1 f2 f3 f4) s.heap.size = A at hD ⊢
  have hA : ∀ q : Nat, s.heap.size ≤ q → A q := fun q h => by rw [← hAe]; exact Or.inr h
  have hS : va_S A s.heap s.heap [] := va_S.rf
  have C0 : cxM p s m meth c _ wsX3_copyFrom RX3 cX3_copyFrom 2 none := ⟨hx, hb, hr, hml, hown, hts, hlocks⟩
  have hl := lv_entry ([.ref a0, .ref a5]) (n := 2) (Nat.le_of_ble_eq_true rfl)
  rw [lg_entry_eq]
  generalize (lg_sl ([.ref a0, .ref a5]) ++ List.replicate (2 - (lg_sl ([.ref a0, .ref a5])).length) Slot.unset).toArray = ls at hl ⊢
  have hl : lv_has ls 2 [(0, .ref a0), (1, .ref a5)] := hl
  show W p l e rmX3_copyFrom s m _ below meth c _ _ _ _ _ _
  refine wq (fun Q hQ => ?_)
  refine lv_aload_n hx hb dX3_copyFrom_0 rfl (lv_at hl 1 rfl) ?_
  refine va_get (D := (dC, dI)) (ci := 3) (v := .ref a6) (C := RX3) (T := TX3) (N := 5) hx hb hts inX3_copyFrom_X3 hown hK hP 5 rfl rfl 0 (by decide) (hts (.fieldLink RX3 9 "LeadPark$Marks" "minutes" "[I") (List.mem_of_getElem? (i := 1) rfl)) (fun _ h9 => h9) rfl dX3_copyFrom_1 ?_
  refine lv_iconst (v := 0) hx hb dX3_copyFrom_4 (by decide) ?_
  refine lv_aload_n hx hb dX3_copyFrom_5 rfl (lv_at hl 0 rfl) ?_
  refine va_get (D := (dC, dI)) (ci := 3) (v := .ref a1) (C := RX3) (T := TX3) (N := 5) hx hb hts inX3_copyFrom_X3 hown hK hP 0 rfl rfl 0 (by decide) (hts (.fieldLink RX3 9 "LeadPark$Marks" "minutes" "[I") (List.mem_of_getElem? (i := 1) rfl)) (fun _ h9 => h9) rfl dX3_copyFrom_6 ?_
  refine lv_iconst (v := 0) hx hb dX3_copyFrom_9 (by decide) ?_
  refine lv_aload_n hx hb dX3_copyFrom_10 rfl (lv_at hl 0 rfl) ?_
  refine va_get (D := (dC, dI)) (ci := 3) (v := .ref a1) (C := RX3) (T := TX3) (N := 5) hx hb hts inX3_copyFrom_X3 hown hK hP 0 rfl rfl 0 (by decide) (hts (.fieldLink RX3 9 "LeadPark$Marks" "minutes" "[I") (List.mem_of_getElem? (i := 1) rfl)) (fun _ h9 => h9) rfl dX3_copyFrom_11 ?_
  refine va_alen (v := 20) hx hb hK hP 1 0 rfl rfl rfl dX3_copyFrom_14 ?_
  refine va_copyi (ty := .int) hx hb (hml.trans hl.1.symm) hown (hts (.methodLink RX3 28 arraycopyName) (List.mem_of_getElem? (i := 2) rfl)) (hts (.native arraycopyName) (List.mem_of_getElem? (i := 3) rfl)) (hts (.static arraycopyName) (List.mem_of_getElem? (i := 4) rfl)) (hts (.initialized "java/lang/System") (List.mem_of_getElem? (i := 5) rfl)) hK hP hD hS 6 1 0 0 rfl rfl rfl rfl rfl (by decide) (by decide) (by decide) (by decide) (by decide) (fun _ _ => rfl) (Nat.le_of_ble_eq_true rfl) (Nat.le_of_ble_eq_true rfl) dX3_copyFrom_15 (fun H locs hP hD hS => ?_)
  have hP : va_P (dC, dI) vwCl (ceX3_copyFrom cyI cyB cyJ cyZ a0 a1 a2 a3 a4 a5 a6 a7 a8 a9 g5_size f6 f7 f8 f9 g0_size (va_cpy f6 f1 (0 : Int32).toNatClampNeg (0 : Int32).toNatClampNeg (20 : Int32).toNatClampNeg) f2 f3 f4) H := hP
  have hD : va_D A (ceX3_copyFrom cyI cyB cyJ cyZ a0 a1 a2 a3 a4 a5 a6 a7 a8 a9 g5_size f6 f7 f8 f9 g0_size (va_cpy f6 f1 (0 : Int32).toNatClampNeg (0 : Int32).toNatClampNeg (20 : Int32).toNatClampNeg) f2 f3 f4) := hD
  refine lv_aload_n hx hb dX3_copyFrom_18 rfl (lv_at hl 1 rfl) ?_
  refine va_get (D := (dC, dI)) (ci := 3) (v := .ref a7) (C := RX3) (T := TX3) (N := 5) hx hb hts inX3_copyFrom_X3 hown hK hP 5 rfl rfl 1 (by decide) (hts (.fieldLink RX3 15 "LeadPark$Marks" "xs" "[I") (List.mem_of_getElem? (i := 6) rfl)) (fun _ h9 => h9) rfl dX3_copyFrom_19 ?_
  refine lv_iconst (v := 0) hx hb dX3_copyFrom_22 (by decide) ?_
  refine lv_aload_n hx hb dX3_copyFrom_23 rfl (lv_at hl 0 rfl) ?_
  refine va_get (D := (dC, dI)) (ci := 3) (v := .ref a2) (C := RX3) (T := TX3) (N := 5) hx hb hts inX3_copyFrom_X3 hown hK hP 0 rfl rfl 1 (by decide) (hts (.fieldLink RX3 15 "LeadPark$Marks" "xs" "[I") (List.mem_of_getElem? (i := 6) rfl)) (fun _ h9 => h9) rfl dX3_copyFrom_24 ?_
  refine lv_iconst (v := 0) hx hb dX3_copyFrom_27 (by decide) ?_
  refine lv_aload_n hx hb dX3_copyFrom_28 rfl (lv_at hl 0 rfl) ?_
  refine va_get (D := (dC, dI)) (ci := 3) (v := .ref a2) (C := RX3) (T := TX3) (N := 5) hx hb hts inX3_copyFrom_X3 hown hK hP 0 rfl rfl 1 (by decide) (hts (.fieldLink RX3 15 "LeadPark$Marks" "xs" "[I") (List.mem_of_getElem? (i := 6) rfl)) (fun _ h9 => h9) rfl dX3_copyFrom_29 ?_
  refine va_alen (v := 20) hx hb hK hP 2 0 rfl rfl rfl dX3_copyFrom_32 ?_
  refine va_copyi (ty := .int) hx hb (hml.trans hl.1.symm) hown (hts (.methodLink RX3 28 arraycopyName) (List.mem_of_getElem? (i := 2) rfl)) (hts (.native arraycopyName) (List.mem_of_getElem? (i := 3) rfl)) (hts (.static arraycopyName) (List.mem_of_getElem? (i := 4) rfl)) (hts (.initialized "java/lang/System") (List.mem_of_getElem? (i := 5) rfl)) hK hP hD hS 7 2 0 0 rfl rfl rfl rfl rfl (by decide) (by decide) (by decide) (by decide) (by decide) (fun _ _ => rfl) (Nat.le_of_ble_eq_true rfl) (Nat.le_of_ble_eq_true rfl) dX3_copyFrom_33 (fun H locs hP hD hS => ?_)
  have hP : va_P (dC, dI) vwCl (ceX3_copyFrom cyI cyB cyJ cyZ a0 a1 a2 a3 a4 a5 a6 a7 a8 a9 g5_size f6 f7 f8 f9 g0_size (va_cpy f6 f1 (0 : Int32).toNatClampNeg (0 : Int32).toNatClampNeg (20 : Int32).toNatClampNeg) (va_cpy f7 f2 (0 : Int32).toNatClampNeg (0 : Int32).toNatClampNeg (20 : Int32).toNatClampNeg) f3 f4) H := hP
  have hD : va_D A (ceX3_copyFrom cyI cyB cyJ cyZ a0 a1 a2 a3 a4 a5 a6 a7 a8 a9 g5_size f6 f7 f8 f9 g0_size (va_cpy f6 f1 (0 : Int32).toNatClampNeg (0 : Int32).toNatClampNeg (20 : Int32).toNatClampNeg) (va_cpy f7 f2 (0 : Int32).toNatClampNeg (0 : Int32).toNatClampNeg (20 : Int32).toNatClampNeg) f3 f4) := hD
  refine lv_aload_n hx hb dX3_copyFrom_36 rfl (lv_at hl 1 rfl) ?_
  refine va_get (D := (dC, dI)) (ci := 3) (v := .ref a8) (C := RX3) (T := TX3) (N := 5) hx hb hts inX3_copyFrom_X3 hown hK hP 5 rfl rfl 2 (by decide) (hts (.fieldLink RX3 18 "LeadPark$Marks" "ys" "[I") (List.mem_of_getElem? (i := 7) rfl)) (fun _ h9 => h9) rfl dX3_copyFrom_37 ?_
  refine lv_iconst (v := 0) hx hb dX3_copyFrom_40 (by decide) ?_
  refine lv_aload_n hx hb dX3_copyFrom_41 rfl (lv_at hl 0 rfl) ?_
  refine va_get (D := (dC, dI)) (ci := 3) (v := .ref a3) (C := RX3) (T := TX3) (N := 5) hx hb hts inX3_copyFrom_X3 hown hK hP 0 rfl rfl 2 (by decide) (hts (.fieldLink RX3 18 "LeadPark$Marks" "ys" "[I") (List.mem_of_getElem? (i := 7) rfl)) (fun _ h9 => h9) rfl dX3_copyFrom_42 ?_
  refine lv_iconst (v := 0) hx hb dX3_copyFrom_45 (by decide) ?_
  refine lv_aload_n hx hb dX3_copyFrom_46 rfl (lv_at hl 0 rfl) ?_
  refine va_get (D := (dC, dI)) (ci := 3) (v := .ref a3) (C := RX3) (T := TX3) (N := 5) hx hb hts inX3_copyFrom_X3 hown hK hP 0 rfl rfl 2 (by decide) (hts (.fieldLink RX3 18 "LeadPark$Marks" "ys" "[I") (List.mem_of_getElem? (i := 7) rfl)) (fun _ h9 => h9) rfl dX3_copyFrom_47 ?_
  refine va_alen (v := 20) hx hb hK hP 3 0 rfl rfl rfl dX3_copyFrom_50 ?_
  refine va_copyi (ty := .int) hx hb (hml.trans hl.1.symm) hown (hts (.methodLink RX3 28 arraycopyName) (List.mem_of_getElem? (i := 2) rfl)) (hts (.native arraycopyName) (List.mem_of_getElem? (i := 3) rfl)) (hts (.static arraycopyName) (List.mem_of_getElem? (i := 4) rfl)) (hts (.initialized "java/lang/System") (List.mem_of_getElem? (i := 5) rfl)) hK hP hD hS 8 3 0 0 rfl rfl rfl rfl rfl (by decide) (by decide) (by decide) (by decide) (by decide) (fun _ _ => rfl) (Nat.le_of_ble_eq_true rfl) (Nat.le_of_ble_eq_true rfl) dX3_copyFrom_51 (fun H locs hP hD hS => ?_)
  have hP : va_P (dC, dI) vwCl (ceX3_copyFrom cyI cyB cyJ cyZ a0 a1 a2 a3 a4 a5 a6 a7 a8 a9 g5_size f6 f7 f8 f9 g0_size (va_cpy f6 f1 (0 : Int32).toNatClampNeg (0 : Int32).toNatClampNeg (20 : Int32).toNatClampNeg) (va_cpy f7 f2 (0 : Int32).toNatClampNeg (0 : Int32).toNatClampNeg (20 : Int32).toNatClampNeg) (va_cpy f8 f3 (0 : Int32).toNatClampNeg (0 : Int32).toNatClampNeg (20 : Int32).toNatClampNeg) f4) H := hP
  have hD : va_D A (ceX3_copyFrom cyI cyB cyJ cyZ a0 a1 a2 a3 a4 a5 a6 a7 a8 a9 g5_size f6 f7 f8 f9 g0_size (va_cpy f6 f1 (0 : Int32).toNatClampNeg (0 : Int32).toNatClampNeg (20 : Int32).toNatClampNeg) (va_cpy f7 f2 (0 : Int32).toNatClampNeg (0 : Int32).toNatClampNeg (20 : Int32).toNatClampNeg) (va_cpy f8 f3 (0 : Int32).toNatClampNeg (0 : Int32).toNatClampNeg (20 : Int32).toNatClampNeg) f4) := hD
  refine lv_aload_n hx hb dX3_copyFrom_54 rfl (lv_at hl 1 rfl) ?_
  refine va_get (D := (dC, dI)) (ci := 3) (v := .ref a9) (C := RX3) (T := TX3) (N := 5) hx hb hts inX3_copyFrom_X3 hown hK hP 5 rfl rfl 3 (by decide) (hts (.fieldLink RX3 21 "LeadPark$Marks" "whose" "[I") (List.mem_of_getElem? (i := 8) rfl)) (fun _ h9 => h9) rfl dX3_copyFrom_55 ?_
  refine lv_iconst (v := 0) hx hb dX3_copyFrom_58 (by decide) ?_
  refine lv_aload_n hx hb dX3_copyFrom_59 rfl (lv_at hl 0 rfl) ?_
  refine va_get (D := (dC, dI)) (ci := 3) (v := .ref a4) (C := RX3) (T := TX3) (N := 5) hx hb hts inX3_copyFrom_X3 hown hK hP 0 rfl rfl 3 (by decide) (hts (.fieldLink RX3 21 "LeadPark$Marks" "whose" "[I") (List.mem_of_getElem? (i := 8) rfl)) (fun _ h9 => h9) rfl dX3_copyFrom_60 ?_
  refine lv_iconst (v := 0) hx hb dX3_copyFrom_63 (by decide) ?_
  refine lv_aload_n hx hb dX3_copyFrom_64 rfl (lv_at hl 0 rfl) ?_
  refine va_get (D := (dC, dI)) (ci := 3) (v := .ref a4) (C := RX3) (T := TX3) (N := 5) hx hb hts inX3_copyFrom_X3 hown hK hP 0 rfl rfl 3 (by decide) (hts (.fieldLink RX3 21 "LeadPark$Marks" "whose" "[I") (List.mem_of_getElem? (i := 8) rfl)) (fun _ h9 => h9) rfl dX3_copyFrom_65 ?_
  refine va_alen (v := 20) hx hb hK hP 4 0 rfl rfl rfl dX3_copyFrom_68 ?_
  refine va_copyi (ty := .int) hx hb (hml.trans hl.1.symm) hown (hts (.methodLink RX3 28 arraycopyName) (List.mem_of_getElem? (i := 2) rfl)) (hts (.native arraycopyName) (List.mem_of_getElem? (i := 3) rfl)) (hts (.static arraycopyName) (List.mem_of_getElem? (i := 4) rfl)) (hts (.initialized "java/lang/System") (List.mem_of_getElem? (i := 5) rfl)) hK hP hD hS 9 4 0 0 rfl rfl rfl rfl rfl (by decide) (by decide) (by decide) (by decide) (by decide) (fun _ _ => rfl) (Nat.le_of_ble_eq_true rfl) (Nat.le_of_ble_eq_true rfl) dX3_copyFrom_69 (fun H locs hP hD hS => ?_)
  have hP : va_P (dC, dI) vwCl (ceX3_copyFrom cyI cyB cyJ cyZ a0 a1 a2 a3 a4 a5 a6 a7 a8 a9 g5_size f6 f7 f8 f9 g0_size (va_cpy f6 f1 (0 : Int32).toNatClampNeg (0 : Int32).toNatClampNeg (20 : Int32).toNatClampNeg) (va_cpy f7 f2 (0 : Int32).toNatClampNeg (0 : Int32).toNatClampNeg (20 : Int32).toNatClampNeg) (va_cpy f8 f3 (0 : Int32).toNatClampNeg (0 : Int32).toNatClampNeg (20 : Int32).toNatClampNeg) (va_cpy f9 f4 (0 : Int32).toNatClampNeg (0 : Int32).toNatClampNeg (20 : Int32).toNatClampNeg)) H := hP
  have hD : va_D A (ceX3_copyFrom cyI cyB cyJ cyZ a0 a1 a2 a3 a4 a5 a6 a7 a8 a9 g5_size f6 f7 f8 f9 g0_size (va_cpy f6 f1 (0 : Int32).toNatClampNeg (0 : Int32).toNatClampNeg (20 : Int32).toNatClampNeg) (va_cpy f7 f2 (0 : Int32).toNatClampNeg (0 : Int32).toNatClampNeg (20 : Int32).toNatClampNeg) (va_cpy f8 f3 (0 : Int32).toNatClampNeg (0 : Int32).toNatClampNeg (20 : Int32).toNatClampNeg) (va_cpy f9 f4 (0 : Int32).toNatClampNeg (0 : Int32).toNatClampNeg (20 : Int32).toNatClampNeg)) := hD
  refine lv_aload_n hx hb dX3_copyFrom_72 rfl (lv_at hl 0 rfl) ?_
  refine lv_aload_n hx hb dX3_copyFrom_73 rfl (lv_at hl 1 rfl) ?_
  refine va_get (D := (dC, dI)) (ci := 3) (v := .int g5_size) (C := RX3) (T := TX3) (N := 5) hx hb hts inX3_copyFrom_X3 hown hK hP 5 rfl rfl 4 (by decide) (hts (.fieldLink RX3 24 "LeadPark$Marks" "size" "I") (List.mem_of_getElem? (i := 9) rfl)) (fun _ h9 => h9) rfl dX3_copyFrom_74 ?_
  refine va_put (D := (dC, dI)) (ci := 3) (v := .int g5_size) (ty := .int) (C := RX3) (T := TX3) (N := 5) hx hb hts inX3_copyFrom_X3 tyX3 tyX3_ok nmX3 hown hK hP hD hS 0 rfl rfl 4 (by decide) (hts (.fieldLink RX3 24 "LeadPark$Marks" "size" "I") (List.mem_of_getElem? (i := 9) rfl)) (fun _ h9 => h9) rfl (by decide +kernel) rfl rfl (Nat.le_of_ble_eq_true rfl) dX3_copyFrom_77 (fun H locs hP hD hS => ?_)
  have hP : va_P (dC, dI) vwCl (ceX3_copyFrom cyI cyB cyJ cyZ a0 a1 a2 a3 a4 a5 a6 a7 a8 a9 g5_size f6 f7 f8 f9 g5_size (va_cpy f6 f1 (0 : Int32).toNatClampNeg (0 : Int32).toNatClampNeg (20 : Int32).toNatClampNeg) (va_cpy f7 f2 (0 : Int32).toNatClampNeg (0 : Int32).toNatClampNeg (20 : Int32).toNatClampNeg) (va_cpy f8 f3 (0 : Int32).toNatClampNeg (0 : Int32).toNatClampNeg (20 : Int32).toNatClampNeg) (va_cpy f9 f4 (0 : Int32).toNatClampNeg (0 : Int32).toNatClampNeg (20 : Int32).toNatClampNeg)) H := hP
  have hD : va_D A (ceX3_copyFrom cyI cyB cyJ cyZ a0 a1 a2 a3 a4 a5 a6 a7 a8 a9 g5_size f6 f7 f8 f9 g5_size (va_cpy f6 f1 (0 : Int32).toNatClampNeg (0 : Int32).toNatClampNeg (20 : Int32).toNatClampNeg) (va_cpy f7 f2 (0 : Int32).toNatClampNeg (0 : Int32).toNatClampNeg (20 : Int32).toNatClampNeg) (va_cpy f8 f3 (0 : Int32).toNatClampNeg (0 : Int32).toNatClampNeg (20 : Int32).toNatClampNeg) (va_cpy f9 f4 (0 : Int32).toNatClampNeg (0 : Int32).toNatClampNeg (20 : Int32).toNatClampNeg)) := hD
  rw [hQ]
  exact W.vret hx hb hr (fun t ht hW => ⟨⟨(g5_size, (va_cpy f6 f1 (0 : Int32).toNatClampNeg (0 : Int32).toNatClampNeg (20 : Int32).toNatClampNeg), (va_cpy f7 f2 (0 : Int32).toNatClampNeg (0 : Int32).toNatClampNeg (20 : Int32).toNatClampNeg), (va_cpy f8 f3 (0 : Int32).toNatClampNeg (0 : Int32).toNatClampNeg (20 : Int32).toNatClampNeg), (va_cpy f9 f4 (0 : Int32).toNatClampNeg (0 : Int32).toNatClampNeg (20 : Int32).toNatClampNeg)), rfl, hw, by rw [ht]; exact hP, va_K.moved hW.alike hK, hD⟩, hS.F ht⟩) hS.2.2 dX3_copyFrom_80
/-! LeadPark$Marks.add (ZIII)I -/
abbrev ceX3_add (cyI cyB cyJ cyZ : ClassId) (a0 a1 a2 a3 a4 : Nat) (g0_size : Int32) (f1 : Nat → Int32) (f2 : Nat → Int32) (f3 : Nat → Int32) (f4 : Nat → Int32) : va_W := [(a0, .inr (3, [.ref a1, .ref a2, .ref a3, .ref a4, .int g0_size])), (a1, .inl (cyI, 20, .inl f1)), (a2, .inl (cyI, 20, .inl f2)), (a3, .inl (cyI, 20, .inl f3)), (a4, .inl (cyI, 20, .inl f4))]

theorem inX3_add_X3 : ∀ w ∈ wsX30, w ∈ wsX3_add := fun _ h => List.mem_cons_of_mem _ (List.mem_append_right _ h)
abbrev rmX3_add : Room := { frames := 0, cells := 0, slots := 0, locals := 0 }
set_option maxRecDepth 100000 in
set_option maxHeartbeats 4000000 in
theorem bX3_add_46 {p : Program} {l : Launch} {e : Env} {s : State} {m : MethodId} {args : Array Value} {below : List Frame} {meth : Method} {c : Code} {dC : Nat → ClassId} {dI : Nat → Nat → Nat} {cyI cyB cyJ cyZ : ClassId} {A : Nat → Prop} {a0 a1 a2 a3 a4 : Nat} (C0 : cxM p s m meth c args wsX3_add RX3 cX3_add 6 (some .int)) (hK : va_K (dC, dI) vwCl (tyA cyI cyB cyJ cyZ) s) (hN : nwA s) (hA : ∀ q : Nat, s.heap.size ≤ q → A q) {post : Int32 → (Int32 × (Nat → Int32) × (Nat → Int32) × (Nat → Int32) × (Nat → Int32)) → Prop} {Q : State → Prop} (hQ : Q = MQ below (va_Qi post (fun u : Int32 × (Nat → Int32) × (Nat → Int32) × (Nat → Int32) × (Nat → Int32) => wAt dC dI cyI cyB cyJ cyZ A (ceX3_add cyI cyB cyJ cyZ a0 a1 a2 a3 a4 u.1 u.2.1 u.2.2.1 u.2.2.2.1 u.2.2.2.2)) A) args s 0 0 A) : ∀ (g0_size : Int32) (f1 : Nat → Int32) (f2 : Nat → Int32) (f3 : Nat → Int32) (f4 : Nat → Int32) (x5 : Int32) (s1 : Int32) (s2 : Int32), wpX3_add_46 post g0_size f1 f2 f3 f4 x5 s1 s2 → AtW p l e rmX3_add s m args below meth c dC dI A Q 6 0 0 (ceX3_add cyI cyB cyJ cyZ a0 a1 a2 a3 a4 g0_size f1 f2 f3 f4) [(0, .ref a0), (5, .int x5)] 46 [.int s2, .int s1, .ref a4] := by
  intro g0_size f1 f2 f3 f4 x5 s1 s2 hw H locs hP hD hS ls hl
  have C1 := C0
  obtain ⟨hx, hb, hr, hml, hown, hts, hlocks⟩ := C1
  obtain ⟨hi, hw⟩ := hw
  refine va_iast hx hb hK hP hD hS 4 0 rfl rfl hi dX3_add_46 (fun H locs hP hD hS => ?_)
  have hP : va_P (dC, dI) vwCl (ceX3_add cyI cyB cyJ cyZ a0 a1 a2 a3 a4 g0_size f1 f2 f3 (upd f4 s1.toNatClampNeg s2)) H := hP
  have hD : va_D A (ceX3_add cyI cyB cyJ cyZ a0 a1 a2 a3 a4 g0_size f1 f2 f3 (upd f4 s1.toNatClampNeg s2)) := hD
  refine lv_aload_n hx hb dX3_add_47 rfl (lv_at hl 0 rfl) ?_
  refine lv_dup hx hb dX3_add_48 rfl ?_
  refine va_get (D := (dC, dI)) (ci := 3) (v := .int g0_size) (C := RX3) (T := TX3) (N := 5) hx hb hts inX3_add_X3 hown hK hP 0 rfl rfl 4 (by decide) (hts (.fieldLink RX3 24 "LeadPark$Marks" "size" "I") (List.mem_of_getElem? (i := 1) rfl)) (fun _ h9 => h9) rfl dX3_add_49 ?_
  refine lv_iconst (v := 1) hx hb dX3_add_52 (by decide) ?_
  refine lv_iadd hx hb dX3_add_53 ?_
  refine lv_topi (fun v1 ev1 => ?_)
  have hw := hw v1 ev1
  refine va_put (D := (dC, dI)) (ci := 3) (v := .int v1) (ty := .int) (C := RX3) (T := TX3) (N := 5) hx hb hts inX3_add_X3 tyX3 tyX3_ok nmX3 hown hK hP hD hS 0 rfl rfl 4 (by decide) (hts (.fieldLink RX3 24 "LeadPark$Marks" "size" "I") (List.mem_of_getElem? (i := 1) rfl)) (fun _ h9 => h9) rfl (by decide +kernel) rfl rfl (Nat.le_of_ble_eq_true rfl) dX3_add_54 (fun H locs hP hD hS => ?_)
  have hP : va_P (dC, dI) vwCl (ceX3_add cyI cyB cyJ cyZ a0 a1 a2 a3 a4 v1 f1 f2 f3 (upd f4 s1.toNatClampNeg s2)) H := hP
  have hD : va_D A (ceX3_add cyI cyB cyJ cyZ a0 a1 a2 a3 a4 v1 f1 f2 f3 (upd f4 s1.toNatClampNeg s2)) := hD
  refine lv_iload hx hb dX3_add_57 (lv_at hl 1 rfl) ?_
  rw [hQ]
  exact W.iret (v := x5) hx hb hr (fun t ht hW => ⟨⟨x5, (v1, f1, f2, f3, (upd f4 s1.toNatClampNeg s2)), rfl, hw, by rw [ht]; exact hP, va_K.moved hW.alike hK, hD⟩, hS.F ht⟩) hS.2.2 dX3_add_59
set_option maxRecDepth 100000 in
set_option maxHeartbeats 4000000 in
theorem ctX3_add (l : Launch) (dC : Nat → ClassId) (dI : Nat → Nat → Nat) (cyI cyB cyJ cyZ : ClassId) (sz : Nat) (a0 a1 a2 a3 a4 : Nat) (g0_size : Int32) (f1 : Nat → Int32) (f2 : Nat → Int32) (f3 : Nat → Int32) (f4 : Nat → Int32) (p0 : Int32) (p1 : Int32) (p2 : Int32) (p3 : Int32) (post : Int32 → (Int32 × (Nat → Int32) × (Nat → Int32) × (Nat → Int32) × (Nat → Int32)) → Prop) (hw : wpX3_add post g0_size f1 f2 f3 f4 p0 p1 p2 p3) : Met l yX3_add wsX3_add rmX3_add (va_Pc [.ref a0, .int p0, .int p1, .int p2, .int p3] (wPre dC dI cyI cyB cyJ cyZ sz (ceX3_add cyI cyB cyJ cyZ a0 a1 a2 a3 a4 g0_size f1 f2 f3 f4))) (va_Qi post (fun u : Int32 × (Nat → Int32) × (Nat → Int32) × (Nat → Int32) × (Nat → Int32) => wAt dC dI cyI cyB cyJ cyZ (va_A (ceX3_add cyI cyB cyJ cyZ a0 a1 a2 a3 a4 g0_size f1 f2 f3 f4) sz) (ceX3_add cyI cyB cyJ cyZ a0 a1 a2 a3 a4 u.1 u.2.1 u.2.2.1 u.2.2.2.1 u.2.2.2.2)) (va_A (ceX3_add cyI cyB cyJ cyZ a0 a1 a2 a3 a4 g0_size f1 f2 f3 f4) sz)) 0 0 (va_A (ceX3_add cyI cyB cyJ cyZ a0 a1 a2 a3 a4 g0_size f1 f2 f3 f4) sz) := by
  refine Met.ofW (cc := cX3_add) (maxL := 6) (ret := (some .int)) (by decide) rfl ?_
  intro p e s m args below meth c s₁ B hml hv
  obtain ⟨rfl, hsz, hP, hK, hD0, hN⟩ := hv
  have hx := B.exec
  have hb := B.bytes
  have hr := B.returns
  have hts := atoms_spec (ws := wsX3_add) B.pre
  have hown : s.vm.findClass RX3 = some m.cls := findClass_of_methodNamed B.named
  have hlocks := B.notSynchronized
  subst hsz
  have hD := hD0.self (sz := s.heap.size)
  generalize hAe : va_A (ceX3_add cyI cyB cyJ cyZ a0 a1 a2 a3 a4 g0_size f1 f2 f3 f4) s.heap.size = A at hD ⊢
  have hA : ∀ q : Nat, s.heap.size ≤ q → A q := fun q h => by rw [← hAe]; exact Or.inr h
  have hS : va_S A s.heap s.heap [] := va_S.rf
  have C0 : cxM p s m meth c _ wsX3_add RX3 cX3_add 6 (some .int) := ⟨hx, hb, hr, hml, hown, hts, hlocks⟩
  have hl := lv_entry ([.ref a0, .int p0, .int p1, .int p2, .int p3]) (n := 6) (Nat.le_of_ble_eq_true rfl)
  rw [lg_entry_eq]
  generalize (lg_sl ([.ref a0, .int p0, .int p1, .int p2, .int p3]) ++ List.replicate (6 - (lg_sl ([.ref a0, .int p0, .int p1, .int p2, .int p3])).length) Slot.unset).toArray = ls at hl ⊢
  have hl : lv_has ls 6 [(0, .ref a0), (1, .int p0), (2, .int p1), (3, .int p2), (4, .int p3)] := hl
  show W p l e rmX3_add s m _ below meth c _ _ _ _ _ _
  refine wq (fun Q hQ => ?_)
  refine lv_aload_n hx hb dX3_add_0 rfl (lv_at hl 0 rfl) ?_
  refine va_get (D := (dC, dI)) (ci := 3) (v := .int g0_size) (C := RX3) (T := TX3) (N := 5) hx hb hts inX3_add_X3 hown hK hP 0 rfl rfl 4 (by decide) (hts (.fieldLink RX3 24 "LeadPark$Marks" "size" "I") (List.mem_of_getElem? (i := 1) rfl)) (fun _ h9 => h9) rfl dX3_add_1 ?_
  refine lv_istore (lv' := [(5, .int g0_size), (0, .ref a0), (1, .int p0), (2, .int p1), (3, .int p2), (4, .int p3)]) hx hb dX3_add_4 hl (by decide) rfl (fun ls hl => ?_)
  refine lv_aload_n hx hb dX3_add_6 rfl (lv_at hl 1 rfl) ?_
  refine va_get (D := (dC, dI)) (ci := 3) (v := .ref a1) (C := RX3) (T := TX3) (N := 5) hx hb hts inX3_add_X3 hown hK hP 0 rfl rfl 0 (by decide) (hts (.fieldLink RX3 9 "LeadPark$Marks" "minutes" "[I") (List.mem_of_getElem? (i := 2) rfl)) (fun _ h9 => h9) rfl dX3_add_7 ?_
  refine lv_iload hx hb dX3_add_10 (lv_at hl 0 rfl) ?_
  refine lv_iload_n hx hb dX3_add_12 rfl (lv_at hl 3 rfl) ?_
  obtain ⟨hi, hw⟩ := hw
  refine va_iast hx hb hK hP hD hS 1 0 rfl rfl hi dX3_add_13 (fun H locs hP hD hS => ?_)
  have hP : va_P (dC, dI) vwCl (ceX3_add cyI cyB cyJ cyZ a0 a1 a2 a3 a4 g0_size (upd f1 g0_size.toNatClampNeg p1) f2 f3 f4) H := hP
  have hD : va_D A (ceX3_add cyI cyB cyJ cyZ a0 a1 a2 a3 a4 g0_size (upd f1 g0_size.toNatClampNeg p1) f2 f3 f4) := hD
  refine lv_aload_n hx hb dX3_add_14 rfl (lv_at hl 1 rfl) ?_
  refine va_get (D := (dC, dI)) (ci := 3) (v := .ref a2) (C := RX3) (T := TX3) (N := 5) hx hb hts inX3_add_X3 hown hK hP 0 rfl rfl 1 (by decide) (hts (.fieldLink RX3 15 "LeadPark$Marks" "xs" "[I") (List.mem_of_getElem? (i := 3) rfl)) (fun _ h9 => h9) rfl dX3_add_15 ?_
  refine lv_iload hx hb dX3_add_18 (lv_at hl 0 rfl) ?_
  refine lv_iload_n hx hb dX3_add_20 rfl (lv_at hl 4 rfl) ?_
  obtain ⟨hi, hw⟩ := hw
  refine va_iast hx hb hK hP hD hS 2 0 rfl rfl hi dX3_add_21 (fun H locs hP hD hS => ?_)
  have hP : va_P (dC, dI) vwCl (ceX3_add cyI cyB cyJ cyZ a0 a1 a2 a3 a4 g0_size (upd f1 g0_size.toNatClampNeg p1) (upd f2 g0_size.toNatClampNeg p2) f3 f4) H := hP
  have hD : va_D A (ceX3_add cyI cyB cyJ cyZ a0 a1 a2 a3 a4 g0_size (upd f1 g0_size.toNatClampNeg p1) (upd f2 g0_size.toNatClampNeg p2) f3 f4) := hD
  refine lv_aload_n hx hb dX3_add_22 rfl (lv_at hl 1 rfl) ?_
  refine va_get (D := (dC, dI)) (ci := 3) (v := .ref a3) (C := RX3) (T := TX3) (N := 5) hx hb hts inX3_add_X3 hown hK hP 0 rfl rfl 2 (by decide) (hts (.fieldLink RX3 18 "LeadPark$Marks" "ys" "[I") (List.mem_of_getElem? (i := 4) rfl)) (fun _ h9 => h9) rfl dX3_add_23 ?_
  refine lv_iload hx hb dX3_add_26 (lv_at hl 0 rfl) ?_
  refine lv_iload hx hb dX3_add_28 (lv_at hl 5 rfl) ?_
  obtain ⟨hi, hw⟩ := hw
  refine va_iast hx hb hK hP hD hS 3 0 rfl rfl hi dX3_add_30 (fun H locs hP hD hS => ?_)
  have hP : va_P (dC, dI) vwCl (ceX3_add cyI cyB cyJ cyZ a0 a1 a2 a3 a4 g0_size (upd f1 g0_size.toNatClampNeg p1) (upd f2 g0_size.toNatClampNeg p2) (upd f3 g0_size.toNatClampNeg p3) f4) H := hP
  have hD : va_D A (ceX3_add cyI cyB cyJ cyZ a0 a1 a2 a3 a4 g0_size (upd f1 g0_size.toNatClampNeg p1) (upd f2 g0_size.toNatClampNeg p2) (upd f3 g0_size.toNatClampNeg p3) f4) := hD
  refine lv_aload_n hx hb dX3_add_31 rfl (lv_at hl 1 rfl) ?_
  refine va_get (D := (dC, dI)) (ci := 3) (v := .ref a4) (C := RX3) (T := TX3) (N := 5) hx hb hts inX3_add_X3 hown hK hP 0 rfl rfl 3 (by decide) (hts (.fieldLink RX3 21 "LeadPark$Marks" "whose" "[I") (List.mem_of_getElem? (i := 5) rfl)) (fun _ h9 => h9) rfl dX3_add_32 ?_
  refine lv_iload hx hb dX3_add_35 (lv_at hl 0 rfl) ?_
  refine lv_iload_n hx hb dX3_add_37 rfl (lv_at hl 2 rfl) ?_
  refine lv_if_eq (tgt := 45) hx hb dX3_add_38 (by decide) (fun hc => ?_) (fun hc => ?_)
  · have hw := hw.1 hc
    refine lv_iconst (v := 0) hx hb dX3_add_45 (by decide) ?_
    exact bX3_add_46 C0 hK hN hA hQ g0_size (upd f1 g0_size.toNatClampNeg p1) (upd f2 g0_size.toNatClampNeg p2) (upd f3 g0_size.toNatClampNeg p3) f4 g0_size g0_size 0 hw _ _ hP hD hS ls (lv_sub hl [1, 0] rfl)
  · have hw := hw.2 hc
    refine lv_iconst (v := 1) hx hb dX3_add_41 (by decide) ?_
    refine lv_goto (tgt := 46) hx hb dX3_add_42 (by decide) ?_
    exact bX3_add_46 C0 hK hN hA hQ g0_size (upd f1 g0_size.toNatClampNeg p1) (upd f2 g0_size.toNatClampNeg p2) (upd f3 g0_size.toNatClampNeg p3) f4 g0_size g0_size 1 hw _ _ hP hD hS ls (lv_sub hl [1, 0] rfl)
/-! LeadPark$Marks.distance (II)I -/
abbrev ceX3_distance (cyI cyB cyJ cyZ : ClassId) (a0 a1 a2 b0_minutes b0_whose : Nat) (g0_size : Int32) (f1 : Nat → Int32) (f2 : Nat → Int32) : va_W := [(a0, .inr (3, [.ref b0_minutes, .ref a1, .ref a2, .ref b0_whose, .int g0_size])), (a1, .inl (cyI, 20, .inl f1)), (a2, .inl (cyI, 20, .inl f2))]

theorem inX3_distance_X3 : ∀ w ∈ wsX30, w ∈ wsX3_distance := fun _ h => List.mem_cons_of_mem _ (List.mem_append_right _ h)
abbrev rmX3_distance : Room := { frames := 0, cells := 0, slots := 0, locals := 0 }
set_option maxRecDepth 100000 in
set_option maxHeartbeats 4000000 in
theorem ctX3_distance (l : Launch) (dC : Nat → ClassId) (dI : Nat → Nat → Nat) (cyI cyB cyJ cyZ : ClassId) (sz : Nat) (a0 a1 a2 b0_minutes b0_whose : Nat) (g0_size : Int32) (f1 : Nat → Int32) (f2 : Nat → Int32) (p0 : Int32) (p1 : Int32) (post : Int32 → Unit → Prop) (hw : wpX3_distance post f1 f2 p0 p1) : Met l yX3_distance wsX3_distance rmX3_distance (va_Pc [.ref a0, .int p0, .int p1] (wPre dC dI cyI cyB cyJ cyZ sz (ceX3_distance cyI cyB cyJ cyZ a0 a1 a2 b0_minutes b0_whose g0_size f1 f2))) (va_Qi post (fun u : Unit => wAt dC dI cyI cyB cyJ cyZ (va_A (ceX3_distance cyI cyB cyJ cyZ a0 a1 a2 b0_minutes b0_whose g0_size f1 f2) sz) (ceX3_distance cyI cyB cyJ cyZ a0 a1 a2 b0_minutes b0_whose g0_size f1 f2)) (va_A (ceX3_distance cyI cyB cyJ cyZ a0 a1 a2 b0_minutes b0_whose g0_size f1 f2) sz)) 0 0 (va_A (ceX3_distance cyI cyB cyJ cyZ a0 a1 a2 b0_minutes b0_whose g0_size f1 f2) sz) := by
  refine Met.ofW (cc := cX3_distance) (maxL := 5) (ret := (some .int)) (by decide) rfl ?_
  intro p e s m args below meth c s₁ B hml hv
  obtain ⟨rfl, hsz, hP, hK, hD0, hN⟩ := hv
  have hx := B.exec
  have hb := B.bytes
  have hr := B.returns
  have hts := atoms_spec (ws := wsX3_distance) B.pre
  have hown : s.vm.findClass RX3 = some m.cls := findClass_of_methodNamed B.named
  have hlocks := B.notSynchronized
  subst hsz
  have hD := hD0.self (sz := s.heap.size)
  generalize hAe : va_A (ceX3_distance cyI cyB cyJ cyZ a0 a1 a2 b0_minutes b0_whose g0_size f1 f2) s.heap.size = A at hD ⊢
  have hA : ∀ q : Nat, s.heap.size ≤ q → A q := fun q h => by rw [← hAe]; exact Or.inr h
  have hS : va_S A s.heap s.heap [] := va_S.rf
  have C0 : cxM p s m meth c _ wsX3_distance RX3 cX3_distance 5 (some .int) := ⟨hx, hb, hr, hml, hown, hts, hlocks⟩
  have hl := lv_entry ([.ref a0, .int p0, .int p1]) (n := 5) (Nat.le_of_ble_eq_true rfl)
  rw [lg_entry_eq]
  generalize (lg_sl ([.ref a0, .int p0, .int p1]) ++ List.replicate (5 - (lg_sl ([.ref a0, .int p0, .int p1])).length) Slot.unset).toArray = ls at hl ⊢
  have hl : lv_has ls 5 [(0, .ref a0), (1, .int p0), (2, .int p1)] := hl
  show W p l e rmX3_distance s m _ below meth c _ _ _ _ _ _
  refine wq (fun Q hQ => ?_)
  refine lv_aload_n hx hb dX3_distance_0 rfl (lv_at hl 0 rfl) ?_
  refine va_get (D := (dC, dI)) (ci := 3) (v := .ref a1) (C := RX3) (T := TX3) (N := 5) hx hb hts inX3_distance_X3 hown hK hP 0 rfl rfl 1 (by decide) (hts (.fieldLink RX3 15 "LeadPark$Marks" "xs" "[I") (List.mem_of_getElem? (i := 1) rfl)) (fun _ h9 => h9) rfl dX3_distance_1 ?_
  refine lv_iload_n hx hb dX3_distance_4 rfl (lv_at hl 1 rfl) ?_
  obtain ⟨hi, hw⟩ := hw
  refine va_iald hx hb hK hP 1 0 rfl rfl hi dX3_distance_5 ?_
  refine lv_aload_n hx hb dX3_distance_6 rfl (lv_at hl 0 rfl) ?_
  refine va_get (D := (dC, dI)) (ci := 3) (v := .ref a1) (C := RX3) (T := TX3) (N := 5) hx hb hts inX3_distance_X3 hown hK hP 0 rfl rfl 1 (by decide) (hts (.fieldLink RX3 15 "LeadPark$Marks" "xs" "[I") (List.mem_of_getElem? (i := 1) rfl)) (fun _ h9 => h9) rfl dX3_distance_7 ?_
  refine lv_iload_n hx hb dX3_distance_10 rfl (lv_at hl 2 rfl) ?_
  obtain ⟨hi, hw⟩ := hw
  refine va_iald hx hb hK hP 1 0 rfl rfl hi dX3_distance_11 ?_
  refine lv_isub hx hb dX3_distance_12 ?_
  refine lv_topi (fun v1 ev1 => ?_)
  have hw := hw v1 ev1
  refine lv_istore_n (lv' := [(3, .int v1), (0, .ref a0), (1, .int p0), (2, .int p1)]) hx hb dX3_distance_13 rfl hl (by decide) rfl (fun ls hl => ?_)
  refine lv_aload_n hx hb dX3_distance_14 rfl (lv_at hl 1 rfl) ?_
  refine va_get (D := (dC, dI)) (ci := 3) (v := .ref a2) (C := RX3) (T := TX3) (N := 5) hx hb hts inX3_distance_X3 hown hK hP 0 rfl rfl 2 (by decide) (hts (.fieldLink RX3 18 "LeadPark$Marks" "ys" "[I") (List.mem_of_getElem? (i := 2) rfl)) (fun _ h9 => h9) rfl dX3_distance_15 ?_
  refine lv_iload_n hx hb dX3_distance_18 rfl (lv_at hl 2 rfl) ?_
  obtain ⟨hi, hw⟩ := hw
  refine va_iald hx hb hK hP 2 0 rfl rfl hi dX3_distance_19 ?_
  refine lv_aload_n hx hb dX3_distance_20 rfl (lv_at hl 1 rfl) ?_
  refine va_get (D := (dC, dI)) (ci := 3) (v := .ref a2) (C := RX3) (T := TX3) (N := 5) hx hb hts inX3_distance_X3 hown hK hP 0 rfl rfl 2 (by decide) (hts (.fieldLink RX3 18 "LeadPark$Marks" "ys" "[I") (List.mem_of_getElem? (i := 2) rfl)) (fun _ h9 => h9) rfl dX3_distance_21 ?_
  refine lv_iload_n hx hb dX3_distance_24 rfl (lv_at hl 3 rfl) ?_
  obtain ⟨hi, hw⟩ := hw
  refine va_iald hx hb hK hP 2 0 rfl rfl hi dX3_distance_25 ?_
  refine lv_isub hx hb dX3_distance_26 ?_
  refine lv_topi (fun v2 ev2 => ?_)
  have hw := hw v2 ev2
  refine lv_istore (lv' := [(4, .int v2), (3, .int v1), (0, .ref a0), (1, .int p0), (2, .int p1)]) hx hb dX3_distance_27 hl (by decide) rfl (fun ls hl => ?_)
  refine lv_iload_n hx hb dX3_distance_29 rfl (lv_at hl 1 rfl) ?_
  refine lv_iload_n hx hb dX3_distance_30 rfl (lv_at hl 1 rfl) ?_
  refine lv_imul hx hb dX3_distance_31 ?_
  refine lv_iload hx hb dX3_distance_32 (lv_at hl 0 rfl) ?_
  refine lv_iload hx hb dX3_distance_34 (lv_at hl 0 rfl) ?_
  refine lv_imul hx hb dX3_distance_36 ?_
  refine lv_iadd hx hb dX3_distance_37 ?_
  rw [hQ]
  exact W.iret (v := (v1 * v1) + (v2 * v2)) hx hb hr (fun t ht hW => ⟨⟨(v1 * v1) + (v2 * v2), (), rfl, hw, by rw [ht]; exact hP, va_K.moved hW.alike hK, hD⟩, hS.F ht⟩) hS.2.2 dX3_distance_38
/-! LeadPark$Marks.greatestOfOneMinute ()I -/
abbrev ceX3_greatestOfOneMinute (cyI cyB cyJ cyZ : ClassId) (a0 a1 a2 a3 a4 : Nat) (g0_size : Int32) (f1 : Nat → Int32) (f2 : Nat → Int32) (f3 : Nat → Int32) (f4 : Nat → Int32) : va_W := [(a0, .inr (3, [.ref a2, .ref a3, .ref a4, .ref a1, .int g0_size])), (a1, .inl (cyI, 20, .inl f1)), (a2, .inl (cyI, 20, .inl f2)), (a3, .inl (cyI, 20, .inl f3)), (a4, .inl (cyI, 20, .inl f4))]

theorem inX3_greatestOfOneMinute_X3 : ∀ w ∈ wsX30, w ∈ wsX3_greatestOfOneMinute := fun _ h => List.mem_cons_of_mem _ (List.mem_append_right _ h)
abbrev rmX3_greatestOfOneMinute : Room := { frames := 1, cells := 0, slots := 0, locals := 40 }
set_option maxRecDepth 100000 in
set_option maxHeartbeats 4000000 in
theorem bX3_greatestOfOneMinute_65 {p : Program} {l : Launch} {e : Env} {s : State} {m : MethodId} {args : Array Value} {below : List Frame} {meth : Method} {c : Code} {dC : Nat → ClassId} {dI : Nat → Nat → Nat} {cyI cyB cyJ cyZ : ClassId} {A : Nat → Prop} {a0 a1 a2 a3 a4 : Nat} (C0 : cxM p s m meth c args wsX3_greatestOfOneMinute RX3 cX3_greatestOfOneMinute 4 (some .int)) (hK : va_K (dC, dI) vwCl (tyA cyI cyB cyJ cyZ) s) (hN : nwA s) (hA : ∀ q : Nat, s.heap.size ≤ q → A q) {post : Int32 → Unit → Prop} {g0_size : Int32} {f1 : Nat → Int32} {f2 : Nat → Int32} {f3 : Nat → Int32} {f4 : Nat → Int32} {k16 : Int32 → Int32 → Int32 → Prop} {k4 : Int32 → Int32 → Prop} {Q : State → Prop} (hQ : Q = MQ below (va_Qi post (fun u : Unit => wAt dC dI cyI cyB cyJ cyZ A (ceX3_greatestOfOneMinute cyI cyB cyJ cyZ a0 a1 a2 a3 a4 g0_size f1 f2 f3 f4)) A) args s 0 0 A) (hk16 : ∀ (x1 : Int32) (x2 : Int32) (x3 : Int32), k16 x1 x2 x3 → AtW p l e rmX3_greatestOfOneMinute s m args below meth c dC dI A Q 4 0 0 (ceX3_greatestOfOneMinute cyI cyB cyJ cyZ a0 a1 a2 a3 a4 g0_size f1 f2 f3 f4) [(0, .ref a0), (1, .int x1), (2, .int x2), (3, .int x3)] 16 []) (hk4 : ∀ (x1 : Int32) (x2 : Int32), k4 x1 x2 → AtW p l e rmX3_greatestOfOneMinute s m args below meth c dC dI A Q 4 0 0 (ceX3_greatestOfOneMinute cyI cyB cyJ cyZ a0 a1 a2 a3 a4 g0_size f1 f2 f3 f4) [(0, .ref a0), (1, .int x1), (2, .int x2)] 4 []) : ∀ (x1 : Int32) (x2 : Int32) (x3 : Int32), wpX3_greatestOfOneMinute_65 k16 k4 post g0_size f1 f2 f3 f4 x1 x2 x3 → AtW p l e rmX3_greatestOfOneMinute s m args below meth c dC dI A Q 4 0 0 (ceX3_greatestOfOneMinute cyI cyB cyJ cyZ a0 a1 a2 a3 a4 g0_size f1 f2 f3 f4) [(0, .ref a0), (1, .int x1), (2, .int x2), (3, .int x3)] 65 [] := by
  intro x1 x2 x3 hw H locs hP hD hS ls hl
  have C1 := C0
  obtain ⟨hx, hb, hr, hml, hown, hts, hlocks⟩ := C1
  obtain ⟨v1, ev1⟩ : ∃ y : Int32, y = x3 + 1 := ⟨_, rfl⟩
  have hw := hw v1 ev1
  refine lv_iinc (v := v1) (lv' := [(3, .int v1), (0, .ref a0), (1, .int x1), (2, .int x2)]) hx hb dX3_greatestOfOneMinute_65 hl (k := 3) rfl (by rw [ev1]; rfl) (by decide) rfl (fun ls hl => ?_)
  refine lv_goto (tgt := 16) hx hb dX3_greatestOfOneMinute_68 (by decide) ?_
  exact hk16 x1 x2 v1 hw H locs hP hD hS ls (lv_sub hl [1, 2, 3, 0] rfl)
set_option maxRecDepth 100000 in
set_option maxHeartbeats 4000000 in
theorem bX3_greatestOfOneMinute_16 {p : Program} {l : Launch} {e : Env} {s : State} {m : MethodId} {args : Array Value} {below : List Frame} {meth : Method} {c : Code} {dC : Nat → ClassId} {dI : Nat → Nat → Nat} {cyI cyB cyJ cyZ : ClassId} {A : Nat → Prop} {a0 a1 a2 a3 a4 : Nat} (C0 : cxM p s m meth c args wsX3_greatestOfOneMinute RX3 cX3_greatestOfOneMinute 4 (some .int)) (hK : va_K (dC, dI) vwCl (tyA cyI cyB cyJ cyZ) s) (hN : nwA s) (hA : ∀ q : Nat, s.heap.size ≤ q → A q) {post : Int32 → Unit → Prop} {g0_size : Int32} {f1 : Nat → Int32} {f2 : Nat → Int32} {f3 : Nat → Int32} {f4 : Nat → Int32} {k4 : Int32 → Int32 → Prop} {Q : State → Prop} (hQ : Q = MQ below (va_Qi post (fun u : Unit => wAt dC dI cyI cyB cyJ cyZ A (ceX3_greatestOfOneMinute cyI cyB cyJ cyZ a0 a1 a2 a3 a4 g0_size f1 f2 f3 f4)) A) args s 0 0 A) (hk4 : ∀ (x1 : Int32) (x2 : Int32), k4 x1 x2 → AtW p l e rmX3_greatestOfOneMinute s m args below meth c dC dI A Q 4 0 0 (ceX3_greatestOfOneMinute cyI cyB cyJ cyZ a0 a1 a2 a3 a4 g0_size f1 f2 f3 f4) [(0, .ref a0), (1, .int x1), (2, .int x2)] 4 []) : ∀ (n : Nat) (x1 : Int32) (x2 : Int32) (x3 : Int32), wpX3_greatestOfOneMinute_16 k4 post g0_size f1 f2 f3 f4 n x1 x2 x3 → AtW p l e rmX3_greatestOfOneMinute s m args below meth c dC dI A Q 4 0 0 (ceX3_greatestOfOneMinute cyI cyB cyJ cyZ a0 a1 a2 a3 a4 g0_size f1 f2 f3 f4) [(0, .ref a0), (1, .int x1), (2, .int x2), (3, .int x3)] 16 [] := by
  intro n
  induction n with
  | zero => intro x1 x2 x3 hw; exact False.elim hw
  | succ n ih =>
    intro x1 x2 x3 hw H locs hP hD hS ls hl
    have C1 := C0
    obtain ⟨hx, hb, hr, hml, hown, hts, hlocks⟩ := C1
    refine lv_iload_n hx hb dX3_greatestOfOneMinute_16 rfl (lv_at hl 3 rfl) ?_
    refine lv_aload_n hx hb dX3_greatestOfOneMinute_17 rfl (lv_at hl 0 rfl) ?_
    refine va_get (D := (dC, dI)) (ci := 3) (v := .int g0_size) (C := RX3) (T := TX3) (N := 5) hx hb hts inX3_greatestOfOneMinute_X3 hown hK hP 0 rfl rfl 4 (by decide) (hts (.fieldLink RX3 24 "LeadPark$Marks" "size" "I") (List.mem_of_getElem? (i := 1) rfl)) (fun _ h9 => h9) rfl dX3_greatestOfOneMinute_18 ?_
    refine lv_icmp_ge (tgt := 71) hx hb dX3_greatestOfOneMinute_21 (by decide) (fun hc => ?_) (fun hc => ?_)
    · have hw := hw.1 hc
      obtain ⟨v1, ev1⟩ : ∃ y : Int32, y = x2 + 1 := ⟨_, rfl⟩
      have hw := hw v1 ev1
      refine lv_iinc (v := v1) (lv' := [(2, .int v1), (0, .ref a0), (1, .int x1), (3, .int x3)]) hx hb dX3_greatestOfOneMinute_71 hl (k := 2) rfl (by rw [ev1]; rfl) (by decide) rfl (fun ls hl => ?_)
      refine lv_goto (tgt := 4) hx hb dX3_greatestOfOneMinute_74 (by decide) ?_
      exact hk4 x1 v1 hw H locs hP hD hS ls (lv_sub hl [1, 2, 0] rfl)
    · have hw := hw.2 hc
      refine lv_aload_n hx hb dX3_greatestOfOneMinute_24 rfl (lv_at hl 0 rfl) ?_
      refine va_get (D := (dC, dI)) (ci := 3) (v := .ref a1) (C := RX3) (T := TX3) (N := 5) hx hb hts inX3_greatestOfOneMinute_X3 hown hK hP 0 rfl rfl 3 (by decide) (hts (.fieldLink RX3 21 "LeadPark$Marks" "whose" "[I") (List.mem_of_getElem? (i := 2) rfl)) (fun _ h9 => h9) rfl dX3_greatestOfOneMinute_25 ?_
      refine lv_iload_n hx hb dX3_greatestOfOneMinute_28 rfl (lv_at hl 2 rfl) ?_
      obtain ⟨hi, hw⟩ := hw
      refine va_iald hx hb hK hP 1 0 rfl rfl hi dX3_greatestOfOneMinute_29 ?_
      refine lv_aload_n hx hb dX3_greatestOfOneMinute_30 rfl (lv_at hl 0 rfl) ?_
      refine va_get (D := (dC, dI)) (ci := 3) (v := .ref a1) (C := RX3) (T := TX3) (N := 5) hx hb hts inX3_greatestOfOneMinute_X3 hown hK hP 0 rfl rfl 3 (by decide) (hts (.fieldLink RX3 21 "LeadPark$Marks" "whose" "[I") (List.mem_of_getElem? (i := 2) rfl)) (fun _ h9 => h9) rfl dX3_greatestOfOneMinute_31 ?_
      refine lv_iload_n hx hb dX3_greatestOfOneMinute_34 rfl (lv_at hl 3 rfl) ?_
      obtain ⟨hi, hw⟩ := hw
      refine va_iald hx hb hK hP 1 0 rfl rfl hi dX3_greatestOfOneMinute_35 ?_
      refine lv_icmp_eq (tgt := 65) hx hb dX3_greatestOfOneMinute_36 (by decide) (fun hc => ?_) (fun hc => ?_)
      · have hw := hw.1 hc
        exact bX3_greatestOfOneMinute_65 C0 hK hN hA hQ ih hk4 x1 x2 x3 hw _ _ hP hD hS ls (lv_sub hl [0, 1, 2, 3] rfl)
      · have hw := hw.2 hc
        refine lv_aload_n hx hb dX3_greatestOfOneMinute_39 rfl (lv_at hl 0 rfl) ?_
        refine va_get (D := (dC, dI)) (ci := 3) (v := .ref a2) (C := RX3) (T := TX3) (N := 5) hx hb hts inX3_greatestOfOneMinute_X3 hown hK hP 0 rfl rfl 0 (by decide) (hts (.fieldLink RX3 9 "LeadPark$Marks" "minutes" "[I") (List.mem_of_getElem? (i := 3) rfl)) (fun _ h9 => h9) rfl dX3_greatestOfOneMinute_40 ?_
        refine lv_iload_n hx hb dX3_greatestOfOneMinute_43 rfl (lv_at hl 2 rfl) ?_
        obtain ⟨hi, hw⟩ := hw
        refine va_iald hx hb hK hP 2 0 rfl rfl hi dX3_greatestOfOneMinute_44 ?_
        refine lv_aload_n hx hb dX3_greatestOfOneMinute_45 rfl (lv_at hl 0 rfl) ?_
        refine va_get (D := (dC, dI)) (ci := 3) (v := .ref a2) (C := RX3) (T := TX3) (N := 5) hx hb hts inX3_greatestOfOneMinute_X3 hown hK hP 0 rfl rfl 0 (by decide) (hts (.fieldLink RX3 9 "LeadPark$Marks" "minutes" "[I") (List.mem_of_getElem? (i := 3) rfl)) (fun _ h9 => h9) rfl dX3_greatestOfOneMinute_46 ?_
        refine lv_iload_n hx hb dX3_greatestOfOneMinute_49 rfl (lv_at hl 3 rfl) ?_
        obtain ⟨hi, hw⟩ := hw
        refine va_iald hx hb hK hP 2 0 rfl rfl hi dX3_greatestOfOneMinute_50 ?_
        refine lv_icmp_ne (tgt := 65) hx hb dX3_greatestOfOneMinute_51 (by decide) (fun hc => ?_) (fun hc => ?_)
        · have hw := hw.1 hc
          exact bX3_greatestOfOneMinute_65 C0 hK hN hA hQ ih hk4 x1 x2 x3 hw _ _ hP hD hS ls (lv_sub hl [0, 1, 2, 3] rfl)
        · have hw := hw.2 hc
          refine lv_iload_n hx hb dX3_greatestOfOneMinute_54 rfl (lv_at hl 1 rfl) ?_
          refine lv_aload_n hx hb dX3_greatestOfOneMinute_55 rfl (lv_at hl 0 rfl) ?_
          refine lv_iload_n hx hb dX3_greatestOfOneMinute_56 rfl (lv_at hl 2 rfl) ?_
          refine lv_iload_n hx hb dX3_greatestOfOneMinute_57 rfl (lv_at hl 3 rfl) ?_
          have hPc := hP.sub (ws' := (ceX3_distance cyI cyB cyJ cyZ a0 a3 a4 a2 a1 g0_size f3 f4)) [0, 3, 4] rfl
          have hDc := hD.sub (ws' := (ceX3_distance cyI cyB cyJ cyZ a0 a3 a4 a2 a1 g0_size f3 f4)) [0, 3, 4] (by decide) rfl
          have hFc := va_free (wc := (ceX3_distance cyI cyB cyJ cyZ a0 a3 a4 a2 a1 g0_size f3 f4)) hD hS hA [0, 3, 4] rfl
          refine va_calli (va_runV (As := [.int x2, .int x3]) (rest := [.int x1]) ⟨hx, hb, hml, hown, hts⟩ (ctX3_distance l dC dI cyI cyB cyJ cyZ _ a0 a3 a4 a2 a1 g0_size f3 f4 x2 x3 _ hw) (cwV 2 hts gX3_greatestOfOneMinute_X3_distance rfl rfl rfl (by decide +kernel) ⟨Nat.le_of_ble_eq_true rfl, Nat.le_of_ble_eq_true rfl⟩) ⟨wPre_blind, va_recv hK hPc (ci := 3) (q0 := 0) rfl rfl, fun U hU hW => wPre_of hPc hK hDc hN hU hW⟩ rfl rfl hl.1 rfl (lv_room (Nat.le_of_ble_eq_true rfl)) dX3_greatestOfOneMinute_58 ⟨(Nat.zero_le _), (Nat.zero_le _)⟩) hS (fun q _ h => hFc q h) hFc (fun r3 u2 t H1 locs ht hvm hw hB hz1 hk1 hS => ?_)
          obtain ⟨hP1, hK1, hD1⟩ := hB
          rw [ht] at hP1
          obtain ⟨hP, hD⟩ := va_join (wr := pickW (ceX3_greatestOfOneMinute cyI cyB cyJ cyZ a0 a1 a2 a3 a4 g0_size f1 f2 f3 f4) [1, 2]) (w1 := (ceX3_distance cyI cyB cyJ cyZ a0 a3 a4 a2 a1 g0_size f3 f4)) hP hD [0, 3, 4] [1, 2] rfl rfl (by decide) (by decide) hk1 hFc hP1 hD1
          have hP := hP.sub (ws' := (ceX3_greatestOfOneMinute cyI cyB cyJ cyZ a0 a1 a2 a3 a4 g0_size f1 f2 f3 f4)) [2, 0, 1, 3, 4] rfl
          have hD := hD.sub (ws' := (ceX3_greatestOfOneMinute cyI cyB cyJ cyZ a0 a1 a2 a3 a4 g0_size f1 f2 f3 f4)) [2, 0, 1, 3, 4] (by decide) rfl
          generalize H1 = H at hP hS ⊢
          refine va_mmax hx hb (hml.trans hl.1.symm) hown (hts (.methodLink RX3 38 Lib.Math.max.name) (List.mem_of_getElem? (i := 4) rfl)) (hts (.static Lib.Math.max.name) (List.mem_of_getElem? (i := 5) rfl)) (hts (.initialized "java/lang/Math") (List.mem_of_getElem? (i := 6) rfl)) (hts (.code Lib.Math.max.name Lib.Math.max.code 2 (some .int)) (List.mem_of_getElem? (i := 7) rfl)) (Nat.le_of_ble_eq_true rfl) (Nat.le_of_ble_eq_true rfl) (by decide) (by decide) dX3_greatestOfOneMinute_61 ?_
          refine lv_topi (fun v4 ev4 => ?_)
          have hw := hw v4 ev4
          refine lv_istore_n (lv' := [(1, .int v4), (0, .ref a0), (2, .int x2), (3, .int x3)]) hx hb dX3_greatestOfOneMinute_64 rfl hl (by decide) rfl (fun ls hl => ?_)
          exact bX3_greatestOfOneMinute_65 C0 hK hN hA hQ ih hk4 v4 x2 x3 hw _ _ hP hD hS ls (lv_sub hl [1, 0, 2, 3] rfl)
set_option maxRecDepth 100000 in
set_option maxHeartbeats 4000000 in
theorem bX3_greatestOfOneMinute_4 {p : Program} {l : Launch} {e : Env} {s : State} {m : MethodId} {args : Array Value} {below : List Frame} {meth : Method} {c : Code} {dC : Nat → ClassId} {dI : Nat → Nat → Nat} {cyI cyB cyJ cyZ : ClassId} {A : Nat → Prop} {a0 a1 a2 a3 a4 : Nat} (C0 : cxM p s m meth c args wsX3_greatestOfOneMinute RX3 cX3_greatestOfOneMinute 4 (some .int)) (hK : va_K (dC, dI) vwCl (tyA cyI cyB cyJ cyZ) s) (hN : nwA s) (hA : ∀ q : Nat, s.heap.size ≤ q → A q) {post : Int32 → Unit → Prop} {g0_size : Int32} {f1 : Nat → Int32} {f2 : Nat → Int32} {f3 : Nat → Int32} {f4 : Nat → Int32} {Q : State → Prop} (hQ : Q = MQ below (va_Qi post (fun u : Unit => wAt dC dI cyI cyB cyJ cyZ A (ceX3_greatestOfOneMinute cyI cyB cyJ cyZ a0 a1 a2 a3 a4 g0_size f1 f2 f3 f4)) A) args s 0 0 A) : ∀ (n : Nat) (x1 : Int32) (x2 : Int32), wpX3_greatestOfOneMinute_4 post g0_size f1 f2 f3 f4 n x1 x2 → AtW p l e rmX3_greatestOfOneMinute s m args below meth c dC dI A Q 4 0 0 (ceX3_greatestOfOneMinute cyI cyB cyJ cyZ a0 a1 a2 a3 a4 g0_size f1 f2 f3 f4) [(0, .ref a0), (1, .int x1), (2, .int x2)] 4 [] := by
  intro n
  induction n with
  | zero => intro x1 x2 hw; exact False.elim hw
  | succ n ih =>
    intro x1 x2 hw H locs hP hD hS ls hl
    have C1 := C0
    obtain ⟨hx, hb, hr, hml, hown, hts, hlocks⟩ := C1
    refine lv_iload_n hx hb dX3_greatestOfOneMinute_4 rfl (lv_at hl 2 rfl) ?_
    refine lv_aload_n hx hb dX3_greatestOfOneMinute_5 rfl (lv_at hl 0 rfl) ?_
    refine va_get (D := (dC, dI)) (ci := 3) (v := .int g0_size) (C := RX3) (T := TX3) (N := 5) hx hb hts inX3_greatestOfOneMinute_X3 hown hK hP 0 rfl rfl 4 (by decide) (hts (.fieldLink RX3 24 "LeadPark$Marks" "size" "I") (List.mem_of_getElem? (i := 1) rfl)) (fun _ h9 => h9) rfl dX3_greatestOfOneMinute_6 ?_
    refine lv_icmp_ge (tgt := 77) hx hb dX3_greatestOfOneMinute_9 (by decide) (fun hc => ?_) (fun hc => ?_)
    · have hw := hw.1 hc
      refine lv_iload_n hx hb dX3_greatestOfOneMinute_77 rfl (lv_at hl 1 rfl) ?_
      rw [hQ]
      exact W.iret (v := x1) hx hb hr (fun t ht hW => ⟨⟨x1, (), rfl, hw, by rw [ht]; exact hP, va_K.moved hW.alike hK, hD⟩, hS.F ht⟩) hS.2.2 dX3_greatestOfOneMinute_78
    · have hw := hw.2 hc
      refine lv_iload_n hx hb dX3_greatestOfOneMinute_12 rfl (lv_at hl 2 rfl) ?_
      refine lv_iconst (v := 1) hx hb dX3_greatestOfOneMinute_13 (by decide) ?_
      refine lv_iadd hx hb dX3_greatestOfOneMinute_14 ?_
      refine lv_topi (fun v1 ev1 => ?_)
      have hw := hw v1 ev1
      refine lv_istore_n (lv' := [(3, .int v1), (0, .ref a0), (1, .int x1), (2, .int x2)]) hx hb dX3_greatestOfOneMinute_15 rfl hl (by decide) rfl (fun ls hl => ?_)
      obtain ⟨nn, hw⟩ := hw
      exact bX3_greatestOfOneMinute_16 C0 hK hN hA hQ ih nn x1 x2 v1 hw _ _ hP hD hS ls (lv_sub hl [1, 2, 3, 0] rfl)
set_option maxRecDepth 100000 in
set_option maxHeartbeats 4000000 in
theorem ctX3_greatestOfOneMinute (l : Launch) (dC : Nat → ClassId) (dI : Nat → Nat → Nat) (cyI cyB cyJ cyZ : ClassId) (sz : Nat) (a0 a1 a2 a3 a4 : Nat) (g0_size : Int32) (f1 : Nat → Int32) (f2 : Nat → Int32) (f3 : Nat → Int32) (f4 : Nat → Int32) (post : Int32 → Unit → Prop) (hw : wpX3_greatestOfOneMinute post g0_size f1 f2 f3 f4 ) : Met l yX3_greatestOfOneMinute wsX3_greatestOfOneMinute rmX3_greatestOfOneMinute (va_Pc [.ref a0] (wPre dC dI cyI cyB cyJ cyZ sz (ceX3_greatestOfOneMinute cyI cyB cyJ cyZ a0 a1 a2 a3 a4 g0_size f1 f2 f3 f4))) (va_Qi post (fun u : Unit => wAt dC dI cyI cyB cyJ cyZ (va_A (ceX3_greatestOfOneMinute cyI cyB cyJ cyZ a0 a1 a2 a3 a4 g0_size f1 f2 f3 f4) sz) (ceX3_greatestOfOneMinute cyI cyB cyJ cyZ a0 a1 a2 a3 a4 g0_size f1 f2 f3 f4)) (va_A (ceX3_greatestOfOneMinute cyI cyB cyJ cyZ a0 a1 a2 a3 a4 g0_size f1 f2 f3 f4) sz)) 0 0 (va_A (ceX3_greatestOfOneMinute cyI cyB cyJ cyZ a0 a1 a2 a3 a4 g0_size f1 f2 f3 f4) sz) := by
  refine Met.ofW (cc := cX3_greatestOfOneMinute) (maxL := 4) (ret := (some .int)) (by decide) rfl ?_
  intro p e s m args below meth c s₁ B hml hv
  obtain ⟨rfl, hsz, hP, hK, hD0, hN⟩ := hv
  have hx := B.exec
  have hb := B.bytes
  have hr := B.returns
  have hts := atoms_spec (ws := wsX3_greatestOfOneMinute) B.pre
  have hown : s.vm.findClass RX3 = some m.cls := findClass_of_methodNamed B.named
  have hlocks := B.notSynchronized
  subst hsz
  have hD := hD0.self (sz := s.heap.size)
  generalize hAe : va_A (ceX3_greatestOfOneMinute cyI cyB cyJ cyZ a0 a1 a2 a3 a4 g0_size f1 f2 f3 f4) s.heap.size = A at hD ⊢
  have hA : ∀ q : Nat, s.heap.size ≤ q → A q := fun q h => by rw [← hAe]; exact Or.inr h
  have hS : va_S A s.heap s.heap [] := va_S.rf
  have C0 : cxM p s m meth c _ wsX3_greatestOfOneMinute RX3 cX3_greatestOfOneMinute 4 (some .int) := ⟨hx, hb, hr, hml, hown, hts, hlocks⟩
  have hl := lv_entry ([.ref a0]) (n := 4) (Nat.le_of_ble_eq_true rfl)
  rw [lg_entry_eq]
  generalize (lg_sl ([.ref a0]) ++ List.replicate (4 - (lg_sl ([.ref a0])).length) Slot.unset).toArray = ls at hl ⊢
  have hl : lv_has ls 4 [(0, .ref a0)] := hl
  show W p l e rmX3_greatestOfOneMinute s m _ below meth c _ _ _ _ _ _
  refine wq (fun Q hQ => ?_)
  refine lv_iconst (v := (-1)) hx hb dX3_greatestOfOneMinute_0 (by decide) ?_
  refine lv_istore_n (lv' := [(1, .int (-1)), (0, .ref a0)]) hx hb dX3_greatestOfOneMinute_1 rfl hl (by decide) rfl (fun ls hl => ?_)
  refine lv_iconst (v := 0) hx hb dX3_greatestOfOneMinute_2 (by decide) ?_
  refine lv_istore_n (lv' := [(2, .int 0), (1, .int (-1)), (0, .ref a0)]) hx hb dX3_greatestOfOneMinute_3 rfl hl (by decide) rfl (fun ls hl => ?_)
  obtain ⟨nn, hw⟩ := hw
  exact bX3_greatestOfOneMinute_4 C0 hK hN hA hQ nn (-1) 0 hw _ _ hP hD hS ls (lv_sub hl [2, 1, 0] rfl)
/-! LeadPark$Marks.isFit (IIII)Z -/
abbrev ceX3_isFit (cyI cyB cyJ cyZ : ClassId) (a0 a1 a2 a3 a4 : Nat) (g0_size : Int32) (f1 : Nat → Int32) (f2 : Nat → Int32) (f3 : Nat → Int32) (f4 : Nat → Int32) : va_W := [(a0, .inr (3, [.ref a1, .ref a3, .ref a4, .ref a2, .int g0_size])), (a1, .inl (cyI, 20, .inl f1)), (a2, .inl (cyI, 20, .inl f2)), (a3, .inl (cyI, 20, .inl f3)), (a4, .inl (cyI, 20, .inl f4))]

theorem inX3_isFit_X3 : ∀ w ∈ wsX30, w ∈ wsX3_isFit := fun _ h => List.mem_cons_of_mem _ (List.mem_append_right _ h)
abbrev rmX3_isFit : Room := { frames := 1, cells := 0, slots := 0, locals := 40 }
set_option maxRecDepth 100000 in
set_option maxHeartbeats 4000000 in
theorem bX3_isFit_44 {p : Program} {l : Launch} {e : Env} {s : State} {m : MethodId} {args : Array Value} {below : List Frame} {meth : Method} {c : Code} {dC : Nat → ClassId} {dI : Nat → Nat → Nat} {cyI cyB cyJ cyZ : ClassId} {A : Nat → Prop} {a0 a1 a2 a3 a4 : Nat} {g0_size : Int32} (C0 : cxM p s m meth c args wsX3_isFit RX3 cX3_isFit 7 (some .boolean)) (hK : va_K (dC, dI) vwCl (tyA cyI cyB cyJ cyZ) s) (hN : nwA s) (hA : ∀ q : Nat, s.heap.size ≤ q → A q) {post : Int32 → Unit → Prop} {f1 : Nat → Int32} {f2 : Nat → Int32} {f3 : Nat → Int32} {f4 : Nat → Int32} {Q : State → Prop} (hQ : Q = MQ below (va_Qi post (fun u : Unit => wAt dC dI cyI cyB cyJ cyZ A (ceX3_isFit cyI cyB cyJ cyZ a0 a1 a2 a3 a4 g0_size f1 f2 f3 f4)) A) args s 0 0 A) : ∀ (x1 : Int32) (x2 : Int32) (x5 : Int64), wpX3_isFit_44 post f1 f2 f3 f4 x1 x2 x5 → AtW p l e rmX3_isFit s m args below meth c dC dI A Q 7 0 0 (ceX3_isFit cyI cyB cyJ cyZ a0 a1 a2 a3 a4 g0_size f1 f2 f3 f4) [(0, .ref a0), (1, .int x1), (2, .int x2), (5, .long x5)] 44 [] := by
  intro x1 x2 x5 hw H locs hP hD hS ls hl
  have C1 := C0
  obtain ⟨hx, hb, hr, hml, hown, hts, hlocks⟩ := C1
  refine lv_aload_n hx hb dX3_isFit_44 rfl (lv_at hl 0 rfl) ?_
  refine lv_iload_n hx hb dX3_isFit_45 rfl (lv_at hl 1 rfl) ?_
  refine lv_iload_n hx hb dX3_isFit_46 rfl (lv_at hl 2 rfl) ?_
  have hPc := hP.sub (ws' := (ceX3_distance cyI cyB cyJ cyZ a0 a3 a4 a1 a2 g0_size f3 f4)) [0, 3, 4] rfl
  have hDc := hD.sub (ws' := (ceX3_distance cyI cyB cyJ cyZ a0 a3 a4 a1 a2 g0_size f3 f4)) [0, 3, 4] (by decide) rfl
  have hFc := va_free (wc := (ceX3_distance cyI cyB cyJ cyZ a0 a3 a4 a1 a2 g0_size f3 f4)) hD hS hA [0, 3, 4] rfl
  refine va_calli (va_runV (As := [.int x1, .int x2]) (rest := []) ⟨hx, hb, hml, hown, hts⟩ (ctX3_distance l dC dI cyI cyB cyJ cyZ _ a0 a3 a4 a1 a2 g0_size f3 f4 x1 x2 _ hw) (cwV 2 hts gX3_isFit_X3_distance rfl rfl rfl (by decide +kernel) ⟨Nat.le_of_ble_eq_true rfl, Nat.le_of_ble_eq_true rfl⟩) ⟨wPre_blind, va_recv hK hPc (ci := 3) (q0 := 0) rfl rfl, fun U hU hW => wPre_of hPc hK hDc hN hU hW⟩ rfl rfl hl.1 rfl (lv_room (Nat.le_of_ble_eq_true rfl)) dX3_isFit_47 ⟨(Nat.zero_le _), (Nat.zero_le _)⟩) hS (fun q _ h => hFc q h) hFc (fun r2 u1 t H1 locs ht hvm hw hB hz1 hk1 hS => ?_)
  obtain ⟨hP1, hK1, hD1⟩ := hB
  rw [ht] at hP1
  obtain ⟨hP, hD⟩ := va_join (wr := pickW (ceX3_isFit cyI cyB cyJ cyZ a0 a1 a2 a3 a4 g0_size f1 f2 f3 f4) [1, 2]) (w1 := (ceX3_distance cyI cyB cyJ cyZ a0 a3 a4 a1 a2 g0_size f3 f4)) hP hD [0, 3, 4] [1, 2] rfl rfl (by decide) (by decide) hk1 hFc hP1 hD1
  have hP := hP.sub (ws' := (ceX3_isFit cyI cyB cyJ cyZ a0 a1 a2 a3 a4 g0_size f1 f2 f3 f4)) [2, 0, 1, 3, 4] rfl
  have hD := hD.sub (ws' := (ceX3_isFit cyI cyB cyJ cyZ a0 a1 a2 a3 a4 g0_size f1 f2 f3 f4)) [2, 0, 1, 3, 4] (by decide) rfl
  generalize H1 = H at hP hS ⊢
  refine lv_i2l hx hb dX3_isFit_50 rfl ?_
  refine lv_lload hx hb dX3_isFit_51 (lv_at hl 3 rfl) ?_
  refine lv_lload hx hb dX3_isFit_53 (lv_at hl 3 rfl) ?_
  refine lv_lmul hx hb dX3_isFit_55 ?_
  refine W.lcmp hx hb dX3_isFit_56 ?_
  refine lv_if_gt (tgt := 64) hx hb dX3_isFit_57 (by decide) (fun hc => ?_) (fun hc => ?_)
  · have hw := hw.1 hc
    refine lv_iconst (v := 0) hx hb dX3_isFit_64 (by decide) ?_
    rw [hQ]
    exact W.zret (v := 0) (ty := .boolean) hx hb hr rfl (fun t ht hW => ⟨⟨0, (), rfl, hw, by rw [ht]; exact hP, va_K.moved hW.alike hK, hD⟩, hS.F ht⟩) hS.2.2 dX3_isFit_65
  · have hw := hw.2 hc
    refine lv_iconst (v := 1) hx hb dX3_isFit_60 (by decide) ?_
    refine lv_goto (tgt := 65) hx hb dX3_isFit_61 (by decide) ?_
    rw [hQ]
    exact W.zret (v := 1) (ty := .boolean) hx hb hr rfl (fun t ht hW => ⟨⟨1, (), rfl, hw, by rw [ht]; exact hP, va_K.moved hW.alike hK, hD⟩, hS.F ht⟩) hS.2.2 dX3_isFit_65
set_option maxRecDepth 100000 in
set_option maxHeartbeats 4000000 in
theorem ctX3_isFit (l : Launch) (dC : Nat → ClassId) (dI : Nat → Nat → Nat) (cyI cyB cyJ cyZ : ClassId) (sz : Nat) (a0 a1 a2 a3 a4 : Nat) (g0_size : Int32) (f1 : Nat → Int32) (f2 : Nat → Int32) (f3 : Nat → Int32) (f4 : Nat → Int32) (p0 : Int32) (p1 : Int32) (p2 : Int32) (p3 : Int32) (post : Int32 → Unit → Prop) (hw : wpX3_isFit post f1 f2 f3 f4 p0 p1 p2 p3) : Met l yX3_isFit wsX3_isFit rmX3_isFit (va_Pc [.ref a0, .int p0, .int p1, .int p2, .int p3] (wPre dC dI cyI cyB cyJ cyZ sz (ceX3_isFit cyI cyB cyJ cyZ a0 a1 a2 a3 a4 g0_size f1 f2 f3 f4))) (va_Qi post (fun u : Unit => wAt dC dI cyI cyB cyJ cyZ (va_A (ceX3_isFit cyI cyB cyJ cyZ a0 a1 a2 a3 a4 g0_size f1 f2 f3 f4) sz) (ceX3_isFit cyI cyB cyJ cyZ a0 a1 a2 a3 a4 g0_size f1 f2 f3 f4)) (va_A (ceX3_isFit cyI cyB cyJ cyZ a0 a1 a2 a3 a4 g0_size f1 f2 f3 f4) sz)) 0 0 (va_A (ceX3_isFit cyI cyB cyJ cyZ a0 a1 a2 a3 a4 g0_size f1 f2 f3 f4) sz) := by
  refine Met.ofW (cc := cX3_isFit) (maxL := 7) (ret := (some .boolean)) (by decide) rfl ?_
  intro p e s m args below meth c s₁ B hml hv
  obtain ⟨rfl, hsz, hP, hK, hD0, hN⟩ := hv
  have hx := B.exec
  have hb := B.bytes
  have hr := B.returns
  have hts := atoms_spec (ws := wsX3_isFit) B.pre
  have hown : s.vm.findClass RX3 = some m.cls := findClass_of_methodNamed B.named
  have hlocks := B.notSynchronized
  subst hsz
  have hD := hD0.self (sz := s.heap.size)
  generalize hAe : va_A (ceX3_isFit cyI cyB cyJ cyZ a0 a1 a2 a3 a4 g0_size f1 f2 f3 f4) s.heap.size = A at hD ⊢
  have hA : ∀ q : Nat, s.heap.size ≤ q → A q := fun q h => by rw [← hAe]; exact Or.inr h
  have hS : va_S A s.heap s.heap [] := va_S.rf
  have C0 : cxM p s m meth c _ wsX3_isFit RX3 cX3_isFit 7 (some .boolean) := ⟨hx, hb, hr, hml, hown, hts, hlocks⟩
  have hl := lv_entry ([.ref a0, .int p0, .int p1, .int p2, .int p3]) (n := 7) (Nat.le_of_ble_eq_true rfl)
  rw [lg_entry_eq]
  generalize (lg_sl ([.ref a0, .int p0, .int p1, .int p2, .int p3]) ++ List.replicate (7 - (lg_sl ([.ref a0, .int p0, .int p1, .int p2, .int p3])).length) Slot.unset).toArray = ls at hl ⊢
  have hl : lv_has ls 7 [(0, .ref a0), (1, .int p0), (2, .int p1), (3, .int p2), (4, .int p3)] := hl
  show W p l e rmX3_isFit s m _ below meth c _ _ _ _ _ _
  refine wq (fun Q hQ => ?_)
  refine lv_iload hx hb dX3_isFit_0 (lv_at hl 4 rfl) ?_
  refine lv_aload_n hx hb dX3_isFit_2 rfl (lv_at hl 0 rfl) ?_
  refine va_get (D := (dC, dI)) (ci := 3) (v := .ref a1) (C := RX3) (T := TX3) (N := 5) hx hb hts inX3_isFit_X3 hown hK hP 0 rfl rfl 0 (by decide) (hts (.fieldLink RX3 9 "LeadPark$Marks" "minutes" "[I") (List.mem_of_getElem? (i := 1) rfl)) (fun _ h9 => h9) rfl dX3_isFit_3 ?_
  refine lv_iload_n hx hb dX3_isFit_6 rfl (lv_at hl 1 rfl) ?_
  obtain ⟨hi, hw⟩ := hw
  refine va_iald hx hb hK hP 1 0 rfl rfl hi dX3_isFit_7 ?_
  refine lv_aload_n hx hb dX3_isFit_8 rfl (lv_at hl 0 rfl) ?_
  refine va_get (D := (dC, dI)) (ci := 3) (v := .ref a1) (C := RX3) (T := TX3) (N := 5) hx hb hts inX3_isFit_X3 hown hK hP 0 rfl rfl 0 (by decide) (hts (.fieldLink RX3 9 "LeadPark$Marks" "minutes" "[I") (List.mem_of_getElem? (i := 1) rfl)) (fun _ h9 => h9) rfl dX3_isFit_9 ?_
  refine lv_iload_n hx hb dX3_isFit_12 rfl (lv_at hl 2 rfl) ?_
  obtain ⟨hi, hw⟩ := hw
  refine va_iald hx hb hK hP 1 0 rfl rfl hi dX3_isFit_13 ?_
  refine lv_isub hx hb dX3_isFit_14 ?_
  refine va_mabs hx hb (hml.trans hl.1.symm) hown (hts (.methodLink RX3 43 Lib.Math.abs.name) (List.mem_of_getElem? (i := 2) rfl)) (hts (.static Lib.Math.abs.name) (List.mem_of_getElem? (i := 3) rfl)) (hts (.initialized "java/lang/Math") (List.mem_of_getElem? (i := 4) rfl)) (hts (.code Lib.Math.abs.name Lib.Math.abs.code 1 (some .int)) (List.mem_of_getElem? (i := 5) rfl)) (Nat.le_of_ble_eq_true rfl) (Nat.le_of_ble_eq_true rfl) (by decide) (by decide) dX3_isFit_15 ?_
  refine lv_imul hx hb dX3_isFit_18 ?_
  refine lv_i2l hx hb dX3_isFit_19 rfl ?_
  refine lv_topl (fun v1 ev1 => ?_)
  have hw := hw v1 ev1
  refine lv_lstore (lv' := [(5, .long v1), (0, .ref a0), (1, .int p0), (2, .int p1), (3, .int p2), (4, .int p3)]) hx hb dX3_isFit_20 hl (by decide) rfl (fun ls hl => ?_)
  refine lv_aload_n hx hb dX3_isFit_22 rfl (lv_at hl 1 rfl) ?_
  refine va_get (D := (dC, dI)) (ci := 3) (v := .ref a2) (C := RX3) (T := TX3) (N := 5) hx hb hts inX3_isFit_X3 hown hK hP 0 rfl rfl 3 (by decide) (hts (.fieldLink RX3 21 "LeadPark$Marks" "whose" "[I") (List.mem_of_getElem? (i := 6) rfl)) (fun _ h9 => h9) rfl dX3_isFit_23 ?_
  refine lv_iload_n hx hb dX3_isFit_26 rfl (lv_at hl 2 rfl) ?_
  obtain ⟨hi, hw⟩ := hw
  refine va_iald hx hb hK hP 2 0 rfl rfl hi dX3_isFit_27 ?_
  refine lv_aload_n hx hb dX3_isFit_28 rfl (lv_at hl 1 rfl) ?_
  refine va_get (D := (dC, dI)) (ci := 3) (v := .ref a2) (C := RX3) (T := TX3) (N := 5) hx hb hts inX3_isFit_X3 hown hK hP 0 rfl rfl 3 (by decide) (hts (.fieldLink RX3 21 "LeadPark$Marks" "whose" "[I") (List.mem_of_getElem? (i := 6) rfl)) (fun _ h9 => h9) rfl dX3_isFit_29 ?_
  refine lv_iload_n hx hb dX3_isFit_32 rfl (lv_at hl 3 rfl) ?_
  obtain ⟨hi, hw⟩ := hw
  refine va_iald hx hb hK hP 2 0 rfl rfl hi dX3_isFit_33 ?_
  refine lv_icmp_eq (tgt := 44) hx hb dX3_isFit_34 (by decide) (fun hc => ?_) (fun hc => ?_)
  · have hw := hw.1 hc
    exact bX3_isFit_44 C0 hK hN hA hQ p0 p1 v1 hw _ _ hP hD hS ls (lv_sub hl [1, 2, 3, 0] rfl)
  · have hw := hw.2 hc
    refine lv_lload hx hb dX3_isFit_37 (lv_at hl 0 rfl) ?_
    refine lv_iload_n hx hb dX3_isFit_39 rfl (lv_at hl 4 rfl) ?_
    refine lv_i2l hx hb dX3_isFit_40 rfl ?_
    refine lv_ladd hx hb dX3_isFit_41 ?_
    refine lv_topl (fun v2 ev2 => ?_)
    have hw := hw v2 ev2
    refine lv_lstore (lv' := [(5, .long v2), (0, .ref a0), (1, .int p0), (2, .int p1), (3, .int p2), (4, .int p3)]) hx hb dX3_isFit_42 hl (by decide) rfl (fun ls hl => ?_)
    exact bX3_isFit_44 C0 hK hN hA hQ p0 p1 v2 hw _ _ hP hD hS ls (lv_sub hl [1, 2, 3, 0] rfl)
/-! LeadPark$Marks.countMisfits (II)I -/
abbrev ceX3_countMisfits (cyI cyB cyJ cyZ : ClassId) (a0 a1 a2 a3 a4 : Nat) (g0_size : Int32) (f1 : Nat → Int32) (f2 : Nat → Int32) (f3 : Nat → Int32) (f4 : Nat → Int32) : va_W := [(a0, .inr (3, [.ref a1, .ref a3, .ref a4, .ref a2, .int g0_size])), (a1, .inl (cyI, 20, .inl f1)), (a2, .inl (cyI, 20, .inl f2)), (a3, .inl (cyI, 20, .inl f3)), (a4, .inl (cyI, 20, .inl f4))]

theorem inX3_countMisfits_X3 : ∀ w ∈ wsX30, w ∈ wsX3_countMisfits := fun _ h => List.mem_cons_of_mem _ (List.mem_append_right _ h)
abbrev rmX3_countMisfits : Room := { frames := 2, cells := 0, slots := 0, locals := 66 }
set_option maxRecDepth 100000 in
set_option maxHeartbeats 4000000 in
theorem bX3_countMisfits_45 {p : Program} {l : Launch} {e : Env} {s : State} {m : MethodId} {args : Array Value} {below : List Frame} {meth : Method} {c : Code} {dC : Nat → ClassId} {dI : Nat → Nat → Nat} {cyI cyB cyJ cyZ : ClassId} {A : Nat → Prop} {a0 a1 a2 a3 a4 : Nat} (C0 : cxM p s m meth c args wsX3_countMisfits RX3 cX3_countMisfits 6 (some .int)) (hK : va_K (dC, dI) vwCl (tyA cyI cyB cyJ cyZ) s) (hN : nwA s) (hA : ∀ q : Nat, s.heap.size ≤ q → A q) {post : Int32 → Unit → Prop} {g0_size : Int32} {f1 : Nat → Int32} {f2 : Nat → Int32} {f3 : Nat → Int32} {f4 : Nat → Int32} {k20 : Int32 → Int32 → Int32 → Int32 → Int32 → Prop} {k5 : Int32 → Int32 → Int32 → Int32 → Prop} {Q : State → Prop} (hQ : Q = MQ below (va_Qi post (fun u : Unit => wAt dC dI cyI cyB cyJ cyZ A (ceX3_countMisfits cyI cyB cyJ cyZ a0 a1 a2 a3 a4 g0_size f1 f2 f3 f4)) A) args s 0 0 A) (hk20 : ∀ (x1 : Int32) (x2 : Int32) (x3 : Int32) (x4 : Int32) (x5 : Int32), k20 x1 x2 x3 x4 x5 → AtW p l e rmX3_countMisfits s m args below meth c dC dI A Q 6 0 0 (ceX3_countMisfits cyI cyB cyJ cyZ a0 a1 a2 a3 a4 g0_size f1 f2 f3 f4) [(0, .ref a0), (1, .int x1), (2, .int x2), (3, .int x3), (4, .int x4), (5, .int x5)] 20 []) (hk5 : ∀ (x1 : Int32) (x2 : Int32) (x3 : Int32) (x4 : Int32), k5 x1 x2 x3 x4 → AtW p l e rmX3_countMisfits s m args below meth c dC dI A Q 6 0 0 (ceX3_countMisfits cyI cyB cyJ cyZ a0 a1 a2 a3 a4 g0_size f1 f2 f3 f4) [(0, .ref a0), (1, .int x1), (2, .int x2), (3, .int x3), (4, .int x4)] 5 []) : ∀ (x1 : Int32) (x2 : Int32) (x3 : Int32) (x4 : Int32) (x5 : Int32), wpX3_countMisfits_45 k20 k5 post g0_size f1 f2 f3 f4 x1 x2 x3 x4 x5 → AtW p l e rmX3_countMisfits s m args below meth c dC dI A Q 6 0 0 (ceX3_countMisfits cyI cyB cyJ cyZ a0 a1 a2 a3 a4 g0_size f1 f2 f3 f4) [(0, .ref a0), (1, .int x1), (2, .int x2), (3, .int x3), (4, .int x4), (5, .int x5)] 45 [] := by
  intro x1 x2 x3 x4 x5 hw H locs hP hD hS ls hl
  have C1 := C0
  obtain ⟨hx, hb, hr, hml, hown, hts, hlocks⟩ := C1
  obtain ⟨v1, ev1⟩ : ∃ y : Int32, y = x5 + 1 := ⟨_, rfl⟩
  have hw := hw v1 ev1
  refine lv_iinc (v := v1) (lv' := [(5, .int v1), (0, .ref a0), (1, .int x1), (2, .int x2), (3, .int x3), (4, .int x4)]) hx hb dX3_countMisfits_45 hl (k := 5) rfl (by rw [ev1]; rfl) (by decide) rfl (fun ls hl => ?_)
  refine lv_goto (tgt := 20) hx hb dX3_countMisfits_48 (by decide) ?_
  exact hk20 x1 x2 x3 x4 v1 hw H locs hP hD hS ls (lv_sub hl [1, 2, 3, 4, 5, 0] rfl)
set_option maxRecDepth 100000 in
set_option maxHeartbeats 4000000 in
theorem bX3_countMisfits_20 {p : Program} {l : Launch} {e : Env} {s : State} {m : MethodId} {args : Array Value} {below : List Frame} {meth : Method} {c : Code} {dC : Nat → ClassId} {dI : Nat → Nat → Nat} {cyI cyB cyJ cyZ : ClassId} {A : Nat → Prop} {a0 a1 a2 a3 a4 : Nat} (C0 : cxM p s m meth c args wsX3_countMisfits RX3 cX3_countMisfits 6 (some .int)) (hK : va_K (dC, dI) vwCl (tyA cyI cyB cyJ cyZ) s) (hN : nwA s) (hA : ∀ q : Nat, s.heap.size ≤ q → A q) {post : Int32 → Unit → Prop} {g0_size : Int32} {f1 : Nat → Int32} {f2 : Nat → Int32} {f3 : Nat → Int32} {f4 : Nat → Int32} {k5 : Int32 → Int32 → Int32 → Int32 → Prop} {Q : State → Prop} (hQ : Q = MQ below (va_Qi post (fun u : Unit => wAt dC dI cyI cyB cyJ cyZ A (ceX3_countMisfits cyI cyB cyJ cyZ a0 a1 a2 a3 a4 g0_size f1 f2 f3 f4)) A) args s 0 0 A) (hk5 : ∀ (x1 : Int32) (x2 : Int32) (x3 : Int32) (x4 : Int32), k5 x1 x2 x3 x4 → AtW p l e rmX3_countMisfits s m args below meth c dC dI A Q 6 0 0 (ceX3_countMisfits cyI cyB cyJ cyZ a0 a1 a2 a3 a4 g0_size f1 f2 f3 f4) [(0, .ref a0), (1, .int x1), (2, .int x2), (3, .int x3), (4, .int x4)] 5 []) : ∀ (n : Nat) (x1 : Int32) (x2 : Int32) (x3 : Int32) (x4 : Int32) (x5 : Int32), wpX3_countMisfits_20 k5 post g0_size f1 f2 f3 f4 n x1 x2 x3 x4 x5 → AtW p l e rmX3_countMisfits s m args below meth c dC dI A Q 6 0 0 (ceX3_countMisfits cyI cyB cyJ cyZ a0 a1 a2 a3 a4 g0_size f1 f2 f3 f4) [(0, .ref a0), (1, .int x1), (2, .int x2), (3, .int x3), (4, .int x4), (5, .int x5)] 20 [] := by
  intro n
  induction n with
  | zero => intro x1 x2 x3 x4 x5 hw; exact False.elim hw
  | succ n ih =>
    intro x1 x2 x3 x4 x5 hw H locs hP hD hS ls hl
    have C1 := C0
    obtain ⟨hx, hb, hr, hml, hown, hts, hlocks⟩ := C1
    refine lv_iload hx hb dX3_countMisfits_20 (lv_at hl 5 rfl) ?_
    refine lv_aload_n hx hb dX3_countMisfits_22 rfl (lv_at hl 0 rfl) ?_
    refine va_get (D := (dC, dI)) (ci := 3) (v := .int g0_size) (C := RX3) (T := TX3) (N := 5) hx hb hts inX3_countMisfits_X3 hown hK hP 0 rfl rfl 4 (by decide) (hts (.fieldLink RX3 24 "LeadPark$Marks" "size" "I") (List.mem_of_getElem? (i := 1) rfl)) (fun _ h9 => h9) rfl dX3_countMisfits_23 ?_
    refine lv_icmp_ge (tgt := 51) hx hb dX3_countMisfits_26 (by decide) (fun hc => ?_) (fun hc => ?_)
    · have hw := hw.1 hc
      obtain ⟨v1, ev1⟩ : ∃ y : Int32, y = x4 + 1 := ⟨_, rfl⟩
      have hw := hw v1 ev1
      refine lv_iinc (v := v1) (lv' := [(4, .int v1), (0, .ref a0), (1, .int x1), (2, .int x2), (3, .int x3), (5, .int x5)]) hx hb dX3_countMisfits_51 hl (k := 4) rfl (by rw [ev1]; rfl) (by decide) rfl (fun ls hl => ?_)
      refine lv_goto (tgt := 5) hx hb dX3_countMisfits_54 (by decide) ?_
      exact hk5 x1 x2 x3 v1 hw H locs hP hD hS ls (lv_sub hl [1, 2, 3, 4, 0] rfl)
    · have hw := hw.2 hc
      refine lv_aload_n hx hb dX3_countMisfits_29 rfl (lv_at hl 0 rfl) ?_
      refine lv_iload hx hb dX3_countMisfits_30 (lv_at hl 4 rfl) ?_
      refine lv_iload hx hb dX3_countMisfits_32 (lv_at hl 5 rfl) ?_
      refine lv_iload_n hx hb dX3_countMisfits_34 rfl (lv_at hl 1 rfl) ?_
      refine lv_iload_n hx hb dX3_countMisfits_35 rfl (lv_at hl 2 rfl) ?_
      have hPc := hP.sub (ws' := (ceX3_isFit cyI cyB cyJ cyZ a0 a1 a2 a3 a4 g0_size f1 f2 f3 f4)) [0, 1, 2, 3, 4] rfl
      have hDc := hD.sub (ws' := (ceX3_isFit cyI cyB cyJ cyZ a0 a1 a2 a3 a4 g0_size f1 f2 f3 f4)) [0, 1, 2, 3, 4] (by decide) rfl
      have hFc := va_free (wc := (ceX3_isFit cyI cyB cyJ cyZ a0 a1 a2 a3 a4 g0_size f1 f2 f3 f4)) hD hS hA [0, 1, 2, 3, 4] rfl
      refine va_calli (va_runV (As := [.int x4, .int x5, .int x1, .int x2]) (rest := []) ⟨hx, hb, hml, hown, hts⟩ (ctX3_isFit l dC dI cyI cyB cyJ cyZ _ a0 a1 a2 a3 a4 g0_size f1 f2 f3 f4 x4 x5 x1 x2 _ hw) (cwV 4 hts gX3_countMisfits_X3_isFit rfl rfl rfl (by decide +kernel) ⟨Nat.le_of_ble_eq_true rfl, Nat.le_of_ble_eq_true rfl⟩) ⟨wPre_blind, va_recv hK hPc (ci := 3) (q0 := 0) rfl rfl, fun U hU hW => wPre_of hPc hK hDc hN hU hW⟩ rfl rfl hl.1 rfl (lv_room (Nat.le_of_ble_eq_true rfl)) dX3_countMisfits_36 ⟨(Nat.zero_le _), (Nat.zero_le _)⟩) hS (fun q _ h => hFc q h) hFc (fun r3 u2 t H1 locs ht hvm hw hB hz1 hk1 hS => ?_)
      obtain ⟨hP1, hK1, hD1⟩ := hB
      rw [ht] at hP1
      obtain ⟨hP, hD⟩ := va_join (wr := pickW (ceX3_countMisfits cyI cyB cyJ cyZ a0 a1 a2 a3 a4 g0_size f1 f2 f3 f4) []) (w1 := (ceX3_isFit cyI cyB cyJ cyZ a0 a1 a2 a3 a4 g0_size f1 f2 f3 f4)) hP hD [0, 1, 2, 3, 4] [] rfl rfl (by decide) (by decide) hk1 hFc hP1 hD1
      have hP := hP.sub (ws' := (ceX3_countMisfits cyI cyB cyJ cyZ a0 a1 a2 a3 a4 g0_size f1 f2 f3 f4)) [0, 1, 2, 3, 4] rfl
      have hD := hD.sub (ws' := (ceX3_countMisfits cyI cyB cyJ cyZ a0 a1 a2 a3 a4 g0_size f1 f2 f3 f4)) [0, 1, 2, 3, 4] (by decide) rfl
      generalize H1 = H at hP hS ⊢
      refine lv_if_ne (tgt := 45) hx hb dX3_countMisfits_39 (by decide) (fun hc => ?_) (fun hc => ?_)
      · have hw := hw.1 hc
        exact bX3_countMisfits_45 C0 hK hN hA hQ ih hk5 x1 x2 x3 x4 x5 hw _ _ hP hD hS ls (lv_sub hl [0, 1, 2, 3, 4, 5] rfl)
      · have hw := hw.2 hc
        obtain ⟨v4, ev4⟩ : ∃ y : Int32, y = x3 + 1 := ⟨_, rfl⟩
        have hw := hw v4 ev4
        refine lv_iinc (v := v4) (lv' := [(3, .int v4), (0, .ref a0), (1, .int x1), (2, .int x2), (4, .int x4), (5, .int x5)]) hx hb dX3_countMisfits_42 hl (k := 3) rfl (by rw [ev4]; rfl) (by decide) rfl (fun ls hl => ?_)
        exact bX3_countMisfits_45 C0 hK hN hA hQ ih hk5 x1 x2 v4 x4 x5 hw _ _ hP hD hS ls (lv_sub hl [1, 2, 3, 0, 4, 5] rfl)
set_option maxRecDepth 100000 in
set_option maxHeartbeats 4000000 in
theorem bX3_countMisfits_5 {p : Program} {l : Launch} {e : Env} {s : State} {m : MethodId} {args : Array Value} {below : List Frame} {meth : Method} {c : Code} {dC : Nat → ClassId} {dI : Nat → Nat → Nat} {cyI cyB cyJ cyZ : ClassId} {A : Nat → Prop} {a0 a1 a2 a3 a4 : Nat} (C0 : cxM p s m meth c args wsX3_countMisfits RX3 cX3_countMisfits 6 (some .int)) (hK : va_K (dC, dI) vwCl (tyA cyI cyB cyJ cyZ) s) (hN : nwA s) (hA : ∀ q : Nat, s.heap.size ≤ q → A q) {post : Int32 → Unit → Prop} {g0_size : Int32} {f1 : Nat → Int32} {f2 : Nat → Int32} {f3 : Nat → Int32} {f4 : Nat → Int32} {Q : State → Prop} (hQ : Q = MQ below (va_Qi post (fun u : Unit => wAt dC dI cyI cyB cyJ cyZ A (ceX3_countMisfits cyI cyB cyJ cyZ a0 a1 a2 a3 a4 g0_size f1 f2 f3 f4)) A) args s 0 0 A) : ∀ (n : Nat) (x1 : Int32) (x2 : Int32) (x3 : Int32) (x4 : Int32), wpX3_countMisfits_5 post g0_size f1 f2 f3 f4 n x1 x2 x3 x4 → AtW p l e rmX3_countMisfits s m args below meth c dC dI A Q 6 0 0 (ceX3_countMisfits cyI cyB cyJ cyZ a0 a1 a2 a3 a4 g0_size f1 f2 f3 f4) [(0, .ref a0), (1, .int x1), (2, .int x2), (3, .int x3), (4, .int x4)] 5 [] := by
  intro n
  induction n with
  | zero => intro x1 x2 x3 x4 hw; exact False.elim hw
  | succ n ih =>
    intro x1 x2 x3 x4 hw H locs hP hD hS ls hl
    have C1 := C0
    obtain ⟨hx, hb, hr, hml, hown, hts, hlocks⟩ := C1
    refine lv_iload hx hb dX3_countMisfits_5 (lv_at hl 4 rfl) ?_
    refine lv_aload_n hx hb dX3_countMisfits_7 rfl (lv_at hl 0 rfl) ?_
    refine va_get (D := (dC, dI)) (ci := 3) (v := .int g0_size) (C := RX3) (T := TX3) (N := 5) hx hb hts inX3_countMisfits_X3 hown hK hP 0 rfl rfl 4 (by decide) (hts (.fieldLink RX3 24 "LeadPark$Marks" "size" "I") (List.mem_of_getElem? (i := 1) rfl)) (fun _ h9 => h9) rfl dX3_countMisfits_8 ?_
    refine lv_icmp_ge (tgt := 57) hx hb dX3_countMisfits_11 (by decide) (fun hc => ?_) (fun hc => ?_)
    · have hw := hw.1 hc
      refine lv_iload_n hx hb dX3_countMisfits_57 rfl (lv_at hl 3 rfl) ?_
      rw [hQ]
      exact W.iret (v := x3) hx hb hr (fun t ht hW => ⟨⟨x3, (), rfl, hw, by rw [ht]; exact hP, va_K.moved hW.alike hK, hD⟩, hS.F ht⟩) hS.2.2 dX3_countMisfits_58
    · have hw := hw.2 hc
      refine lv_iload hx hb dX3_countMisfits_14 (lv_at hl 4 rfl) ?_
      refine lv_iconst (v := 1) hx hb dX3_countMisfits_16 (by decide) ?_
      refine lv_iadd hx hb dX3_countMisfits_17 ?_
      refine lv_topi (fun v1 ev1 => ?_)
      have hw := hw v1 ev1
      refine lv_istore (lv' := [(5, .int v1), (0, .ref a0), (1, .int x1), (2, .int x2), (3, .int x3), (4, .int x4)]) hx hb dX3_countMisfits_18 hl (by decide) rfl (fun ls hl => ?_)
      obtain ⟨nn, hw⟩ := hw
      exact bX3_countMisfits_20 C0 hK hN hA hQ ih nn x1 x2 x3 x4 v1 hw _ _ hP hD hS ls (lv_sub hl [1, 2, 3, 4, 5, 0] rfl)
set_option maxRecDepth 100000 in
set_option maxHeartbeats 4000000 in
theorem ctX3_countMisfits (l : Launch) (dC : Nat → ClassId) (dI : Nat → Nat → Nat) (cyI cyB cyJ cyZ : ClassId) (sz : Nat) (a0 a1 a2 a3 a4 : Nat) (g0_size : Int32) (f1 : Nat → Int32) (f2 : Nat → Int32) (f3 : Nat → Int32) (f4 : Nat → Int32) (p0 : Int32) (p1 : Int32) (post : Int32 → Unit → Prop) (hw : wpX3_countMisfits post g0_size f1 f2 f3 f4 p0 p1) : Met l yX3_countMisfits wsX3_countMisfits rmX3_countMisfits (va_Pc [.ref a0, .int p0, .int p1] (wPre dC dI cyI cyB cyJ cyZ sz (ceX3_countMisfits cyI cyB cyJ cyZ a0 a1 a2 a3 a4 g0_size f1 f2 f3 f4))) (va_Qi post (fun u : Unit => wAt dC dI cyI cyB cyJ cyZ (va_A (ceX3_countMisfits cyI cyB cyJ cyZ a0 a1 a2 a3 a4 g0_size f1 f2 f3 f4) sz) (ceX3_countMisfits cyI cyB cyJ cyZ a0 a1 a2 a3 a4 g0_size f1 f2 f3 f4)) (va_A (ceX3_countMisfits cyI cyB cyJ cyZ a0 a1 a2 a3 a4 g0_size f1 f2 f3 f4) sz)) 0 0 (va_A (ceX3_countMisfits cyI cyB cyJ cyZ a0 a1 a2 a3 a4 g0_size f1 f2 f3 f4) sz) := by
  refine Met.ofW (cc := cX3_countMisfits) (maxL := 6) (ret := (some .int)) (by decide) rfl ?_
  intro p e s m args below meth c s₁ B hml hv
  obtain ⟨rfl, hsz, hP, hK, hD0, hN⟩ := hv
  have hx := B.exec
  have hb := B.bytes
  have hr := B.returns
  have hts := atoms_spec (ws := wsX3_countMisfits) B.pre
  have hown : s.vm.findClass RX3 = some m.cls := findClass_of_methodNamed B.named
  have hlocks := B.notSynchronized
  subst hsz
  have hD := hD0.self (sz := s.heap.size)
  generalize hAe : va_A (ceX3_countMisfits cyI cyB cyJ cyZ a0 a1 a2 a3 a4 g0_size f1 f2 f3 f4) s.heap.size = A at hD ⊢
  have hA : ∀ q : Nat, s.heap.size ≤ q → A q := fun q h => by rw [← hAe]; exact Or.inr h
  have hS : va_S A s.heap s.heap [] := va_S.rf
  have C0 : cxM p s m meth c _ wsX3_countMisfits RX3 cX3_countMisfits 6 (some .int) := ⟨hx, hb, hr, hml, hown, hts, hlocks⟩
  have hl := lv_entry ([.ref a0, .int p0, .int p1]) (n := 6) (Nat.le_of_ble_eq_true rfl)
  rw [lg_entry_eq]
  generalize (lg_sl ([.ref a0, .int p0, .int p1]) ++ List.replicate (6 - (lg_sl ([.ref a0, .int p0, .int p1])).length) Slot.unset).toArray = ls at hl ⊢
  have hl : lv_has ls 6 [(0, .ref a0), (1, .int p0), (2, .int p1)] := hl
  show W p l e rmX3_countMisfits s m _ below meth c _ _ _ _ _ _
  refine wq (fun Q hQ => ?_)
  refine lv_iconst (v := 0) hx hb dX3_countMisfits_0 (by decide) ?_
  refine lv_istore_n (lv' := [(3, .int 0), (0, .ref a0), (1, .int p0), (2, .int p1)]) hx hb dX3_countMisfits_1 rfl hl (by decide) rfl (fun ls hl => ?_)
  refine lv_iconst (v := 0) hx hb dX3_countMisfits_2 (by decide) ?_
  refine lv_istore (lv' := [(4, .int 0), (3, .int 0), (0, .ref a0), (1, .int p0), (2, .int p1)]) hx hb dX3_countMisfits_3 hl (by decide) rfl (fun ls hl => ?_)
  obtain ⟨nn, hw⟩ := hw
  exact bX3_countMisfits_5 C0 hK hN hA hQ nn p0 p1 0 0 hw _ _ hP hD hS ls (lv_sub hl [2, 3, 4, 1, 0] rfl)
/-! LeadPark$Marks.firstMisfit (II)I -/
abbrev ceX3_firstMisfit (cyI cyB cyJ cyZ : ClassId) (a0 a1 a2 a3 a4 : Nat) (g0_size : Int32) (f1 : Nat → Int32) (f2 : Nat → Int32) (f3 : Nat → Int32) (f4 : Nat → Int32) : va_W := [(a0, .inr (3, [.ref a1, .ref a3, .ref a4, .ref a2, .int g0_size])), (a1, .inl (cyI, 20, .inl f1)), (a2, .inl (cyI, 20, .inl f2)), (a3, .inl (cyI, 20, .inl f3)), (a4, .inl (cyI, 20, .inl f4))]

theorem inX3_firstMisfit_X3 : ∀ w ∈ wsX30, w ∈ wsX3_firstMisfit := fun _ h => List.mem_cons_of_mem _ (List.mem_append_right _ h)
abbrev rmX3_firstMisfit : Room := { frames := 2, cells := 0, slots := 0, locals := 66 }
set_option maxRecDepth 100000 in
set_option maxHeartbeats 4000000 in
theorem bX3_firstMisfit_15 {p : Program} {l : Launch} {e : Env} {s : State} {m : MethodId} {args : Array Value} {below : List Frame} {meth : Method} {c : Code} {dC : Nat → ClassId} {dI : Nat → Nat → Nat} {cyI cyB cyJ cyZ : ClassId} {A : Nat → Prop} {a0 a1 a2 a3 a4 : Nat} (C0 : cxM p s m meth c args wsX3_firstMisfit RX3 cX3_firstMisfit 5 (some .int)) (hK : va_K (dC, dI) vwCl (tyA cyI cyB cyJ cyZ) s) (hN : nwA s) (hA : ∀ q : Nat, s.heap.size ≤ q → A q) {post : Int32 → Unit → Prop} {g0_size : Int32} {f1 : Nat → Int32} {f2 : Nat → Int32} {f3 : Nat → Int32} {f4 : Nat → Int32} {k2 : Int32 → Int32 → Int32 → Prop} {Q : State → Prop} (hQ : Q = MQ below (va_Qi post (fun u : Unit => wAt dC dI cyI cyB cyJ cyZ A (ceX3_firstMisfit cyI cyB cyJ cyZ a0 a1 a2 a3 a4 g0_size f1 f2 f3 f4)) A) args s 0 0 A) (hk2 : ∀ (x1 : Int32) (x2 : Int32) (x3 : Int32), k2 x1 x2 x3 → AtW p l e rmX3_firstMisfit s m args below meth c dC dI A Q 5 0 0 (ceX3_firstMisfit cyI cyB cyJ cyZ a0 a1 a2 a3 a4 g0_size f1 f2 f3 f4) [(0, .ref a0), (1, .int x1), (2, .int x2), (3, .int x3)] 2 []) : ∀ (n : Nat) (x1 : Int32) (x2 : Int32) (x3 : Int32) (x4 : Int32), wpX3_firstMisfit_15 k2 post g0_size f1 f2 f3 f4 n x1 x2 x3 x4 → AtW p l e rmX3_firstMisfit s m args below meth c dC dI A Q 5 0 0 (ceX3_firstMisfit cyI cyB cyJ cyZ a0 a1 a2 a3 a4 g0_size f1 f2 f3 f4) [(0, .ref a0), (1, .int x1), (2, .int x2), (3, .int x3), (4, .int x4)] 15 [] := by
  intro n
  induction n with
  | zero => intro x1 x2 x3 x4 hw; exact False.elim hw
  | succ n ih =>
    intro x1 x2 x3 x4 hw H locs hP hD hS ls hl
    have C1 := C0
    obtain ⟨hx, hb, hr, hml, hown, hts, hlocks⟩ := C1
    refine lv_iload hx hb dX3_firstMisfit_15 (lv_at hl 4 rfl) ?_
    refine lv_aload_n hx hb dX3_firstMisfit_17 rfl (lv_at hl 0 rfl) ?_
    refine va_get (D := (dC, dI)) (ci := 3) (v := .int g0_size) (C := RX3) (T := TX3) (N := 5) hx hb hts inX3_firstMisfit_X3 hown hK hP 0 rfl rfl 4 (by decide) (hts (.fieldLink RX3 24 "LeadPark$Marks" "size" "I") (List.mem_of_getElem? (i := 1) rfl)) (fun _ h9 => h9) rfl dX3_firstMisfit_18 ?_
    refine lv_icmp_ge (tgt := 50) hx hb dX3_firstMisfit_21 (by decide) (fun hc => ?_) (fun hc => ?_)
    · have hw := hw.1 hc
      obtain ⟨v1, ev1⟩ : ∃ y : Int32, y = x3 + 1 := ⟨_, rfl⟩
      have hw := hw v1 ev1
      refine lv_iinc (v := v1) (lv' := [(3, .int v1), (0, .ref a0), (1, .int x1), (2, .int x2), (4, .int x4)]) hx hb dX3_firstMisfit_50 hl (k := 3) rfl (by rw [ev1]; rfl) (by decide) rfl (fun ls hl => ?_)
      refine lv_goto (tgt := 2) hx hb dX3_firstMisfit_53 (by decide) ?_
      exact hk2 x1 x2 v1 hw H locs hP hD hS ls (lv_sub hl [1, 2, 3, 0] rfl)
    · have hw := hw.2 hc
      refine lv_aload_n hx hb dX3_firstMisfit_24 rfl (lv_at hl 0 rfl) ?_
      refine lv_iload_n hx hb dX3_firstMisfit_25 rfl (lv_at hl 3 rfl) ?_
      refine lv_iload hx hb dX3_firstMisfit_26 (lv_at hl 4 rfl) ?_
      refine lv_iload_n hx hb dX3_firstMisfit_28 rfl (lv_at hl 1 rfl) ?_
      refine lv_iload_n hx hb dX3_firstMisfit_29 rfl (lv_at hl 2 rfl) ?_
      have hPc := hP.sub (ws' := (ceX3_isFit cyI cyB cyJ cyZ a0 a1 a2 a3 a4 g0_size f1 f2 f3 f4)) [0, 1, 2, 3, 4] rfl
      have hDc := hD.sub (ws' := (ceX3_isFit cyI cyB cyJ cyZ a0 a1 a2 a3 a4 g0_size f1 f2 f3 f4)) [0, 1, 2, 3, 4] (by decide) rfl
      have hFc := va_free (wc := (ceX3_isFit cyI cyB cyJ cyZ a0 a1 a2 a3 a4 g0_size f1 f2 f3 f4)) hD hS hA [0, 1, 2, 3, 4] rfl
      refine va_calli (va_runV (As := [.int x3, .int x4, .int x1, .int x2]) (rest := []) ⟨hx, hb, hml, hown, hts⟩ (ctX3_isFit l dC dI cyI cyB cyJ cyZ _ a0 a1 a2 a3 a4 g0_size f1 f2 f3 f4 x3 x4 x1 x2 _ hw) (cwV 4 hts gX3_firstMisfit_X3_isFit rfl rfl rfl (by decide +kernel) ⟨Nat.le_of_ble_eq_true rfl, Nat.le_of_ble_eq_true rfl⟩) ⟨wPre_blind, va_recv hK hPc (ci := 3) (q0 := 0) rfl rfl, fun U hU hW => wPre_of hPc hK hDc hN hU hW⟩ rfl rfl hl.1 rfl (lv_room (Nat.le_of_ble_eq_true rfl)) dX3_firstMisfit_30 ⟨(Nat.zero_le _), (Nat.zero_le _)⟩) hS (fun q _ h => hFc q h) hFc (fun r3 u2 t H1 locs ht hvm hw hB hz1 hk1 hS => ?_)
      obtain ⟨hP1, hK1, hD1⟩ := hB
      rw [ht] at hP1
      obtain ⟨hP, hD⟩ := va_join (wr := pickW (ceX3_firstMisfit cyI cyB cyJ cyZ a0 a1 a2 a3 a4 g0_size f1 f2 f3 f4) []) (w1 := (ceX3_isFit cyI cyB cyJ cyZ a0 a1 a2 a3 a4 g0_size f1 f2 f3 f4)) hP hD [0, 1, 2, 3, 4] [] rfl rfl (by decide) (by decide) hk1 hFc hP1 hD1
      have hP := hP.sub (ws' := (ceX3_firstMisfit cyI cyB cyJ cyZ a0 a1 a2 a3 a4 g0_size f1 f2 f3 f4)) [0, 1, 2, 3, 4] rfl
      have hD := hD.sub (ws' := (ceX3_firstMisfit cyI cyB cyJ cyZ a0 a1 a2 a3 a4 g0_size f1 f2 f3 f4)) [0, 1, 2, 3, 4] (by decide) rfl
      generalize H1 = H at hP hS ⊢
      refine lv_if_ne (tgt := 44) hx hb dX3_firstMisfit_33 (by decide) (fun hc => ?_) (fun hc => ?_)
      · have hw := hw.1 hc
        obtain ⟨v4, ev4⟩ : ∃ y : Int32, y = x4 + 1 := ⟨_, rfl⟩
        have hw := hw v4 ev4
        refine lv_iinc (v := v4) (lv' := [(4, .int v4), (0, .ref a0), (1, .int x1), (2, .int x2), (3, .int x3)]) hx hb dX3_firstMisfit_44 hl (k := 4) rfl (by rw [ev4]; rfl) (by decide) rfl (fun ls hl => ?_)
        refine lv_goto (tgt := 15) hx hb dX3_firstMisfit_47 (by decide) ?_
        exact ih x1 x2 x3 v4 hw H locs hP hD hS ls (lv_sub hl [1, 2, 3, 4, 0] rfl)
      · have hw := hw.2 hc
        refine lv_bipush (v := 100) hx hb dX3_firstMisfit_36 (by decide) ?_
        refine lv_iload_n hx hb dX3_firstMisfit_38 rfl (lv_at hl 3 rfl) ?_
        refine lv_imul hx hb dX3_firstMisfit_39 ?_
        refine lv_iload hx hb dX3_firstMisfit_40 (lv_at hl 4 rfl) ?_
        refine lv_iadd hx hb dX3_firstMisfit_42 ?_
        rw [hQ]
        exact W.iret (v := (100 * x3) + x4) hx hb hr (fun t ht hW => ⟨⟨(100 * x3) + x4, (), rfl, hw, by rw [ht]; exact hP, va_K.moved hW.alike hK, hD⟩, hS.F ht⟩) hS.2.2 dX3_firstMisfit_43
set_option maxRecDepth 100000 in
set_option maxHeartbeats 4000000 in
theorem bX3_firstMisfit_2 {p : Program} {l : Launch} {e : Env} {s : State} {m : MethodId} {args : Array Value} {below : List Frame} {meth : Method} {c : Code} {dC : Nat → ClassId} {dI : Nat → Nat → Nat} {cyI cyB cyJ cyZ : ClassId} {A : Nat → Prop} {a0 a1 a2 a3 a4 : Nat} (C0 : cxM p s m meth c args wsX3_firstMisfit RX3 cX3_firstMisfit 5 (some .int)) (hK : va_K (dC, dI) vwCl (tyA cyI cyB cyJ cyZ) s) (hN : nwA s) (hA : ∀ q : Nat, s.heap.size ≤ q → A q) {post : Int32 → Unit → Prop} {g0_size : Int32} {f1 : Nat → Int32} {f2 : Nat → Int32} {f3 : Nat → Int32} {f4 : Nat → Int32} {Q : State → Prop} (hQ : Q = MQ below (va_Qi post (fun u : Unit => wAt dC dI cyI cyB cyJ cyZ A (ceX3_firstMisfit cyI cyB cyJ cyZ a0 a1 a2 a3 a4 g0_size f1 f2 f3 f4)) A) args s 0 0 A) : ∀ (n : Nat) (x1 : Int32) (x2 : Int32) (x3 : Int32), wpX3_firstMisfit_2 post g0_size f1 f2 f3 f4 n x1 x2 x3 → AtW p l e rmX3_firstMisfit s m args below meth c dC dI A Q 5 0 0 (ceX3_firstMisfit cyI cyB cyJ cyZ a0 a1 a2 a3 a4 g0_size f1 f2 f3 f4) [(0, .ref a0), (1, .int x1), (2, .int x2), (3, .int x3)] 2 [] := by
  intro n
  induction n with
  | zero => intro x1 x2 x3 hw; exact False.elim hw
  | succ n ih =>
    intro x1 x2 x3 hw H locs hP hD hS ls hl
    have C1 := C0
    obtain ⟨hx, hb, hr, hml, hown, hts, hlocks⟩ := C1
    refine lv_iload_n hx hb dX3_firstMisfit_2 rfl (lv_at hl 3 rfl) ?_
    refine lv_aload_n hx hb dX3_firstMisfit_3 rfl (lv_at hl 0 rfl) ?_
    refine va_get (D := (dC, dI)) (ci := 3) (v := .int g0_size) (C := RX3) (T := TX3) (N := 5) hx hb hts inX3_firstMisfit_X3 hown hK hP 0 rfl rfl 4 (by decide) (hts (.fieldLink RX3 24 "LeadPark$Marks" "size" "I") (List.mem_of_getElem? (i := 1) rfl)) (fun _ h9 => h9) rfl dX3_firstMisfit_4 ?_
    refine lv_icmp_ge (tgt := 56) hx hb dX3_firstMisfit_7 (by decide) (fun hc => ?_) (fun hc => ?_)
    · have hw := hw.1 hc
      refine lv_iconst (v := (-1)) hx hb dX3_firstMisfit_56 (by decide) ?_
      rw [hQ]
      exact W.iret (v := (-1)) hx hb hr (fun t ht hW => ⟨⟨(-1), (), rfl, hw, by rw [ht]; exact hP, va_K.moved hW.alike hK, hD⟩, hS.F ht⟩) hS.2.2 dX3_firstMisfit_57
    · have hw := hw.2 hc
      refine lv_iload_n hx hb dX3_firstMisfit_10 rfl (lv_at hl 3 rfl) ?_
      refine lv_iconst (v := 1) hx hb dX3_firstMisfit_11 (by decide) ?_
      refine lv_iadd hx hb dX3_firstMisfit_12 ?_
      refine lv_topi (fun v1 ev1 => ?_)
      have hw := hw v1 ev1
      refine lv_istore (lv' := [(4, .int v1), (0, .ref a0), (1, .int x1), (2, .int x2), (3, .int x3)]) hx hb dX3_firstMisfit_13 hl (by decide) rfl (fun ls hl => ?_)
      obtain ⟨nn, hw⟩ := hw
      exact bX3_firstMisfit_15 C0 hK hN hA hQ ih nn x1 x2 x3 v1 hw _ _ hP hD hS ls (lv_sub hl [1, 2, 3, 4, 0] rfl)
set_option maxRecDepth 100000 in
set_option maxHeartbeats 4000000 in
theorem ctX3_firstMisfit (l : Launch) (dC : Nat → ClassId) (dI : Nat → Nat → Nat) (cyI cyB cyJ cyZ : ClassId) (sz : Nat) (a0 a1 a2 a3 a4 : Nat) (g0_size : Int32) (f1 : Nat → Int32) (f2 : Nat → Int32) (f3 : Nat → Int32) (f4 : Nat → Int32) (p0 : Int32) (p1 : Int32) (post : Int32 → Unit → Prop) (hw : wpX3_firstMisfit post g0_size f1 f2 f3 f4 p0 p1) : Met l yX3_firstMisfit wsX3_firstMisfit rmX3_firstMisfit (va_Pc [.ref a0, .int p0, .int p1] (wPre dC dI cyI cyB cyJ cyZ sz (ceX3_firstMisfit cyI cyB cyJ cyZ a0 a1 a2 a3 a4 g0_size f1 f2 f3 f4))) (va_Qi post (fun u : Unit => wAt dC dI cyI cyB cyJ cyZ (va_A (ceX3_firstMisfit cyI cyB cyJ cyZ a0 a1 a2 a3 a4 g0_size f1 f2 f3 f4) sz) (ceX3_firstMisfit cyI cyB cyJ cyZ a0 a1 a2 a3 a4 g0_size f1 f2 f3 f4)) (va_A (ceX3_firstMisfit cyI cyB cyJ cyZ a0 a1 a2 a3 a4 g0_size f1 f2 f3 f4) sz)) 0 0 (va_A (ceX3_firstMisfit cyI cyB cyJ cyZ a0 a1 a2 a3 a4 g0_size f1 f2 f3 f4) sz) := by
  refine Met.ofW (cc := cX3_firstMisfit) (maxL := 5) (ret := (some .int)) (by decide) rfl ?_
  intro p e s m args below meth c s₁ B hml hv
  obtain ⟨rfl, hsz, hP, hK, hD0, hN⟩ := hv
  have hx := B.exec
  have hb := B.bytes
  have hr := B.returns
  have hts := atoms_spec (ws := wsX3_firstMisfit) B.pre
  have hown : s.vm.findClass RX3 = some m.cls := findClass_of_methodNamed B.named
  have hlocks := B.notSynchronized
  subst hsz
  have hD := hD0.self (sz := s.heap.size)
  generalize hAe : va_A (ceX3_firstMisfit cyI cyB cyJ cyZ a0 a1 a2 a3 a4 g0_size f1 f2 f3 f4) s.heap.size = A at hD ⊢
  have hA : ∀ q : Nat, s.heap.size ≤ q → A q := fun q h => by rw [← hAe]; exact Or.inr h
  have hS : va_S A s.heap s.heap [] := va_S.rf
  have C0 : cxM p s m meth c _ wsX3_firstMisfit RX3 cX3_firstMisfit 5 (some .int) := ⟨hx, hb, hr, hml, hown, hts, hlocks⟩
  have hl := lv_entry ([.ref a0, .int p0, .int p1]) (n := 5) (Nat.le_of_ble_eq_true rfl)
  rw [lg_entry_eq]
  generalize (lg_sl ([.ref a0, .int p0, .int p1]) ++ List.replicate (5 - (lg_sl ([.ref a0, .int p0, .int p1])).length) Slot.unset).toArray = ls at hl ⊢
  have hl : lv_has ls 5 [(0, .ref a0), (1, .int p0), (2, .int p1)] := hl
  show W p l e rmX3_firstMisfit s m _ below meth c _ _ _ _ _ _
  refine wq (fun Q hQ => ?_)
  refine lv_iconst (v := 0) hx hb dX3_firstMisfit_0 (by decide) ?_
  refine lv_istore_n (lv' := [(3, .int 0), (0, .ref a0), (1, .int p0), (2, .int p1)]) hx hb dX3_firstMisfit_1 rfl hl (by decide) rfl (fun ls hl => ?_)
  obtain ⟨nn, hw⟩ := hw
  exact bX3_firstMisfit_2 C0 hK hN hA hQ nn p0 p1 0 hw _ _ hP hD hS ls (lv_sub hl [1, 2, 3, 0] rfl)
