/-! LeadPark$Stroll.copyFrom (LLeadPark$Stroll;)V -/
abbrev ceX7_copyFrom (cyI cyB cyJ cyZ : ClassId) (a0 a1 b0_steps b0_greatestAhead b1_steps b1_greatestAhead : Nat) (g1_remembered : Int32) (g1_underWay : Int32) (g1_way : Int32) (g1_other : Int32) (g1_lead : Int32) (g1_man : Int32) (g1_dog : Int32) (g1_gone : Int32) (g1_greatest : Int32) (g0_underWay : Int32) (g0_way : Int32) (g0_other : Int32) (g0_lead : Int32) (g0_man : Int32) (g0_dog : Int32) (g0_gone : Int32) (g0_greatest : Int32) (g0_remembered : Int32) : va_W := [(a0, .inr (7, [.int g0_underWay, .int g0_way, .int g0_other, .int g0_lead, .int g0_man, .int g0_dog, .int g0_gone, .int g0_greatest, .int g0_remembered, .ref b0_steps, .ref b0_greatestAhead])), (a1, .inr (7, [.int g1_underWay, .int g1_way, .int g1_other, .int g1_lead, .int g1_man, .int g1_dog, .int g1_gone, .int g1_greatest, .int g1_remembered, .ref b1_steps, .ref b1_greatestAhead]))]

theorem inX7_copyFrom_X7 : ∀ w ∈ wsX70, w ∈ wsX7_copyFrom := fun _ h => List.mem_cons_of_mem _ (List.mem_append_right _ h)
abbrev rmX7_copyFrom : Room := { frames := 0, cells := 0, slots := 0, locals := 0 }
set_option maxRecDepth 100000 in
set_option maxHeartbeats 4000000 in
theorem ctX7_copyFrom (l : Launch) (dC : Nat → ClassId) (dI : Nat → Nat → Nat) (cyI cyB cyJ cyZ : ClassId) (sz : Nat) (a0 a1 b0_steps b0_greatestAhead b1_steps b1_greatestAhead : Nat) (g1_remembered : Int32) (g1_underWay : Int32) (g1_way : Int32) (g1_other : Int32) (g1_lead : Int32) (g1_man : Int32) (g1_dog : Int32) (g1_gone : Int32) (g1_greatest : Int32) (g0_underWay : Int32) (g0_way : Int32) (g0_other : Int32) (g0_lead : Int32) (g0_man : Int32) (g0_dog : Int32) (g0_gone : Int32) (g0_greatest : Int32) (g0_remembered : Int32) (post : (Int32 × Int32 × Int32 × Int32 × Int32 × Int32 × Int32 × Int32 × Int32) → Prop) (hw : wpX7_copyFrom post g1_underWay g1_way g1_other g1_lead g1_man g1_dog g1_gone g1_greatest g0_underWay g0_way g0_other g0_lead g0_man g0_dog g0_gone g0_greatest g0_remembered ) : Met l yX7_copyFrom wsX7_copyFrom rmX7_copyFrom (va_Pc [.ref a0, .ref a1] (wPre dC dI cyI cyB cyJ cyZ sz (ceX7_copyFrom cyI cyB cyJ cyZ a0 a1 b0_steps b0_greatestAhead b1_steps b1_greatestAhead g1_remembered g1_underWay g1_way g1_other g1_lead g1_man g1_dog g1_gone g1_greatest g0_underWay g0_way g0_other g0_lead g0_man g0_dog g0_gone g0_greatest g0_remembered))) (va_Qv post (fun u : Int32 × Int32 × Int32 × Int32 × Int32 × Int32 × Int32 × Int32 × Int32 => wAt dC dI cyI cyB cyJ cyZ (va_A (ceX7_copyFrom cyI cyB cyJ cyZ a0 a1 b0_steps b0_greatestAhead b1_steps b1_greatestAhead g1_remembered g1_underWay g1_way g1_other g1_lead g1_man g1_dog g1_gone g1_greatest g0_underWay g0_way g0_other g0_lead g0_man g0_dog g0_gone g0_greatest g0_remembered) sz) (ceX7_copyFrom cyI cyB cyJ cyZ a0 a1 b0_steps b0_greatestAhead b1_steps b1_greatestAhead g1_remembered g1_underWay g1_way g1_other g1_lead g1_man g1_dog g1_gone g1_greatest u.1 u.2.1 u.2.2.1 u.2.2.2.1 u.2.2.2.2.1 u.2.2.2.2.2.1 u.2.2.2.2.2.2.1 u.2.2.2.2.2.2.2.1 u.2.2.2.2.2.2.2.2)) (va_A (ceX7_copyFrom cyI cyB cyJ cyZ a0 a1 b0_steps b0_greatestAhead b1_steps b1_greatestAhead g1_remembered g1_underWay g1_way g1_other g1_lead g1_man g1_dog g1_gone g1_greatest g0_underWay g0_way g0_other g0_lead g0_man g0_dog g0_gone g0_greatest g0_remembered) sz)) 0 0 (va_A (ceX7_copyFrom cyI cyB cyJ cyZ a0 a1 b0_steps b0_greatestAhead b1_steps b1_greatestAhead g1_remembered g1_underWay g1_way g1_other g1_lead g1_man g1_dog g1_gone g1_greatest g0_underWay g0_way g0_other g0_lead g0_man g0_dog g0_gone g0_greatest g0_remembered) sz) := by
  refine Met.ofW (cc := cX7_copyFrom) (maxL := 2) (ret := none) (by decide) rfl ?_
  intro p e s m args below meth c s₁ B hml hv
  obtain ⟨rfl, hsz, hP, hK, hD0, hN⟩ := hv
  have hx := B.exec
  have hb := B.bytes
  have hr := B.returns
  have hts := atoms_spec (ws := wsX7_copyFrom) B.pre
  have hown : s.vm.findClass RX7 = some m.cls := findClass_of_methodNamed B.named
  have hlocks := B.notSynchronized
  subst hsz
  have hD := hD0.self (sz := s.heap.size)
  generalize hAe : va_A (ceX7_copyFrom cyI cyB cyJ cyZ a0 a1 b0_steps b0_greatestAhead b1_steps b1_greatestAhead g1_remembered g1_underWay g1_way g1_other g1_lead g1_man g1_dog g1_gone g1_greatest g0_underWay g0_way g0_other g0_lead g0_man g0_dog g0_gone g0_greatest g0_remembered) s.heap.size = A at hD ⊢
  have hA : ∀ q : Nat, s.heap.size ≤ q → A q := fun q h => by rw [← hAe]; exact Or.inr h
  have hS : va_S A s.heap s.heap [] := va_S.rf
  have C0 : cxM p s m meth c _ wsX7_copyFrom RX7 cX7_copyFrom 2 none := ⟨hx, hb, hr, hml, hown, hts, hlocks⟩
  have hl := lv_entry ([.ref a0, .ref a1]) (n := 2) (Nat.le_of_ble_eq_true rfl)
  rw [lg_entry_eq]
  generalize (lg_sl ([.ref a0, .ref a1]) ++ List.replicate (2 - (lg_sl ([.ref a0, .ref a1])).length) Slot.unset).toArray = ls at hl ⊢
  have hl : lv_has ls 2 [(0, .ref a0), (1, .ref a1)] := hl
  show W p l e rmX7_copyFrom s m _ below meth c _ _ _ _ _ _
  refine wq (fun Q hQ => ?_)
  refine lv_aload_n hx hb dX7_copyFrom_0 rfl (lv_at hl 0 rfl) ?_
  refine lv_aload_n hx hb dX7_copyFrom_1 rfl (lv_at hl 1 rfl) ?_
  refine va_get (D := (dC, dI)) (ci := 7) (v := .int g1_underWay) (C := RX7) (T := TX7) (N := 11) hx hb hts inX7_copyFrom_X7 hown hK hP 1 rfl rfl 0 (by decide) (hts (.fieldLink RX7 9 "LeadPark$Stroll" "underWay" "Z") (List.mem_of_getElem? (i := 1) rfl)) (fun _ h9 => h9) rfl dX7_copyFrom_2 ?_
  obtain ⟨hz, hw⟩ := hw
  refine va_put (D := (dC, dI)) (ci := 7) (v := .int g1_underWay) (ty := .boolean) (C := RX7) (T := TX7) (N := 11) hx hb hts inX7_copyFrom_X7 tyX7 tyX7_ok nmX7 hown hK hP hD hS 0 rfl rfl 0 (by decide) (hts (.fieldLink RX7 9 "LeadPark$Stroll" "underWay" "Z") (List.mem_of_getElem? (i := 1) rfl)) (fun _ h9 => h9) rfl (by decide +kernel) (zb_n hz) (zb_f hz) (Nat.le_of_ble_eq_true rfl) dX7_copyFrom_5 (fun H locs hP hD hS => ?_)
  have hP : va_P (dC, dI) vwCl (ceX7_copyFrom cyI cyB cyJ cyZ a0 a1 b0_steps b0_greatestAhead b1_steps b1_greatestAhead g1_remembered g1_underWay g1_way g1_other g1_lead g1_man g1_dog g1_gone g1_greatest g1_underWay g0_way g0_other g0_lead g0_man g0_dog g0_gone g0_greatest g0_remembered) H := hP
  have hD : va_D A (ceX7_copyFrom cyI cyB cyJ cyZ a0 a1 b0_steps b0_greatestAhead b1_steps b1_greatestAhead g1_remembered g1_underWay g1_way g1_other g1_lead g1_man g1_dog g1_gone g1_greatest g1_underWay g0_way g0_other g0_lead g0_man g0_dog g0_gone g0_greatest g0_remembered) := hD
  refine lv_aload_n hx hb dX7_copyFrom_8 rfl (lv_at hl 0 rfl) ?_
  refine lv_aload_n hx hb dX7_copyFrom_9 rfl (lv_at hl 1 rfl) ?_
  refine va_get (D := (dC, dI)) (ci := 7) (v := .int g1_way) (C := RX7) (T := TX7) (N := 11) hx hb hts inX7_copyFrom_X7 hown hK hP 1 rfl rfl 1 (by decide) (hts (.fieldLink RX7 15 "LeadPark$Stroll" "way" "I") (List.mem_of_getElem? (i := 2) rfl)) (fun _ h9 => h9) rfl dX7_copyFrom_10 ?_
  refine va_put (D := (dC, dI)) (ci := 7) (v := .int g1_way) (ty := .int) (C := RX7) (T := TX7) (N := 11) hx hb hts inX7_copyFrom_X7 tyX7 tyX7_ok nmX7 hown hK hP hD hS 0 rfl rfl 1 (by decide) (hts (.fieldLink RX7 15 "LeadPark$Stroll" "way" "I") (List.mem_of_getElem? (i := 2) rfl)) (fun _ h9 => h9) rfl (by decide +kernel) rfl rfl (Nat.le_of_ble_eq_true rfl) dX7_copyFrom_13 (fun H locs hP hD hS => ?_)
  have hP : va_P (dC, dI) vwCl (ceX7_copyFrom cyI cyB cyJ cyZ a0 a1 b0_steps b0_greatestAhead b1_steps b1_greatestAhead g1_remembered g1_underWay g1_way g1_other g1_lead g1_man g1_dog g1_gone g1_greatest g1_underWay g1_way g0_other g0_lead g0_man g0_dog g0_gone g0_greatest g0_remembered) H := hP
  have hD : va_D A (ceX7_copyFrom cyI cyB cyJ cyZ a0 a1 b0_steps b0_greatestAhead b1_steps b1_greatestAhead g1_remembered g1_underWay g1_way g1_other g1_lead g1_man g1_dog g1_gone g1_greatest g1_underWay g1_way g0_other g0_lead g0_man g0_dog g0_gone g0_greatest g0_remembered) := hD
  refine lv_aload_n hx hb dX7_copyFrom_16 rfl (lv_at hl 0 rfl) ?_
  refine lv_aload_n hx hb dX7_copyFrom_17 rfl (lv_at hl 1 rfl) ?_
  refine va_get (D := (dC, dI)) (ci := 7) (v := .int g1_other) (C := RX7) (T := TX7) (N := 11) hx hb hts inX7_copyFrom_X7 hown hK hP 1 rfl rfl 2 (by decide) (hts (.fieldLink RX7 19 "LeadPark$Stroll" "other" "I") (List.mem_of_getElem? (i := 3) rfl)) (fun _ h9 => h9) rfl dX7_copyFrom_18 ?_
  refine va_put (D := (dC, dI)) (ci := 7) (v := .int g1_other) (ty := .int) (C := RX7) (T := TX7) (N := 11) hx hb hts inX7_copyFrom_X7 tyX7 tyX7_ok nmX7 hown hK hP hD hS 0 rfl rfl 2 (by decide) (hts (.fieldLink RX7 19 "LeadPark$Stroll" "other" "I") (List.mem_of_getElem? (i := 3) rfl)) (fun _ h9 => h9) rfl (by decide +kernel) rfl rfl (Nat.le_of_ble_eq_true rfl) dX7_copyFrom_21 (fun H locs hP hD hS => ?_)
  have hP : va_P (dC, dI) vwCl (ceX7_copyFrom cyI cyB cyJ cyZ a0 a1 b0_steps b0_greatestAhead b1_steps b1_greatestAhead g1_remembered g1_underWay g1_way g1_other g1_lead g1_man g1_dog g1_gone g1_greatest g1_underWay g1_way g1_other g0_lead g0_man g0_dog g0_gone g0_greatest g0_remembered) H := hP
  have hD : va_D A (ceX7_copyFrom cyI cyB cyJ cyZ a0 a1 b0_steps b0_greatestAhead b1_steps b1_greatestAhead g1_remembered g1_underWay g1_way g1_other g1_lead g1_man g1_dog g1_gone g1_greatest g1_underWay g1_way g1_other g0_lead g0_man g0_dog g0_gone g0_greatest g0_remembered) := hD
  refine lv_aload_n hx hb dX7_copyFrom_24 rfl (lv_at hl 0 rfl) ?_
  refine lv_aload_n hx hb dX7_copyFrom_25 rfl (lv_at hl 1 rfl) ?_
  refine va_get (D := (dC, dI)) (ci := 7) (v := .int g1_lead) (C := RX7) (T := TX7) (N := 11) hx hb hts inX7_copyFrom_X7 hown hK hP 1 rfl rfl 3 (by decide) (hts (.fieldLink RX7 22 "LeadPark$Stroll" "lead" "I") (List.mem_of_getElem? (i := 4) rfl)) (fun _ h9 => h9) rfl dX7_copyFrom_26 ?_
  refine va_put (D := (dC, dI)) (ci := 7) (v := .int g1_lead) (ty := .int) (C := RX7) (T := TX7) (N := 11) hx hb hts inX7_copyFrom_X7 tyX7 tyX7_ok nmX7 hown hK hP hD hS 0 rfl rfl 3 (by decide) (hts (.fieldLink RX7 22 "LeadPark$Stroll" "lead" "I") (List.mem_of_getElem? (i := 4) rfl)) (fun _ h9 => h9) rfl (by decide +kernel) rfl rfl (Nat.le_of_ble_eq_true rfl) dX7_copyFrom_29 (fun H locs hP hD hS => ?_)
  have hP : va_P (dC, dI) vwCl (ceX7_copyFrom cyI cyB cyJ cyZ a0 a1 b0_steps b0_greatestAhead b1_steps b1_greatestAhead g1_remembered g1_underWay g1_way g1_other g1_lead g1_man g1_dog g1_gone g1_greatest g1_underWay g1_way g1_other g1_lead g0_man g0_dog g0_gone g0_greatest g0_remembered) H := hP
  have hD : va_D A (ceX7_copyFrom cyI cyB cyJ cyZ a0 a1 b0_steps b0_greatestAhead b1_steps b1_greatestAhead g1_remembered g1_underWay g1_way g1_other g1_lead g1_man g1_dog g1_gone g1_greatest g1_underWay g1_way g1_other g1_lead g0_man g0_dog g0_gone g0_greatest g0_remembered) := hD
  refine lv_aload_n hx hb dX7_copyFrom_32 rfl (lv_at hl 0 rfl) ?_
  refine lv_aload_n hx hb dX7_copyFrom_33 rfl (lv_at hl 1 rfl) ?_
  refine va_get (D := (dC, dI)) (ci := 7) (v := .int g1_man) (C := RX7) (T := TX7) (N := 11) hx hb hts inX7_copyFrom_X7 hown hK hP 1 rfl rfl 4 (by decide) (hts (.fieldLink RX7 25 "LeadPark$Stroll" "man" "I") (List.mem_of_getElem? (i := 5) rfl)) (fun _ h9 => h9) rfl dX7_copyFrom_34 ?_
  refine va_put (D := (dC, dI)) (ci := 7) (v := .int g1_man) (ty := .int) (C := RX7) (T := TX7) (N := 11) hx hb hts inX7_copyFrom_X7 tyX7 tyX7_ok nmX7 hown hK hP hD hS 0 rfl rfl 4 (by decide) (hts (.fieldLink RX7 25 "LeadPark$Stroll" "man" "I") (List.mem_of_getElem? (i := 5) rfl)) (fun _ h9 => h9) rfl (by decide +kernel) rfl rfl (Nat.le_of_ble_eq_true rfl) dX7_copyFrom_37 (fun H locs hP hD hS => ?_)
  have hP : va_P (dC, dI) vwCl (ceX7_copyFrom cyI cyB cyJ cyZ a0 a1 b0_steps b0_greatestAhead b1_steps b1_greatestAhead g1_remembered g1_underWay g1_way g1_other g1_lead g1_man g1_dog g1_gone g1_greatest g1_underWay g1_way g1_other g1_lead g1_man g0_dog g0_gone g0_greatest g0_remembered) H := hP
  have hD : va_D A (ceX7_copyFrom cyI cyB cyJ cyZ a0 a1 b0_steps b0_greatestAhead b1_steps b1_greatestAhead g1_remembered g1_underWay g1_way g1_other g1_lead g1_man g1_dog g1_gone g1_greatest g1_underWay g1_way g1_other g1_lead g1_man g0_dog g0_gone g0_greatest g0_remembered) := hD
  refine lv_aload_n hx hb dX7_copyFrom_40 rfl (lv_at hl 0 rfl) ?_
  refine lv_aload_n hx hb dX7_copyFrom_41 rfl (lv_at hl 1 rfl) ?_
  refine va_get (D := (dC, dI)) (ci := 7) (v := .int g1_dog) (C := RX7) (T := TX7) (N := 11) hx hb hts inX7_copyFrom_X7 hown hK hP 1 rfl rfl 5 (by decide) (hts (.fieldLink RX7 28 "LeadPark$Stroll" "dog" "I") (List.mem_of_getElem? (i := 6) rfl)) (fun _ h9 => h9) rfl dX7_copyFrom_42 ?_
  refine va_put (D := (dC, dI)) (ci := 7) (v := .int g1_dog) (ty := .int) (C := RX7) (T := TX7) (N := 11) hx hb hts inX7_copyFrom_X7 tyX7 tyX7_ok nmX7 hown hK hP hD hS 0 rfl rfl 5 (by decide) (hts (.fieldLink RX7 28 "LeadPark$Stroll" "dog" "I") (List.mem_of_getElem? (i := 6) rfl)) (fun _ h9 => h9) rfl (by decide +kernel) rfl rfl (Nat.le_of_ble_eq_true rfl) dX7_copyFrom_45 (fun H locs hP hD hS => ?_)
  have hP : va_P (dC, dI) vwCl (ceX7_copyFrom cyI cyB cyJ cyZ a0 a1 b0_steps b0_greatestAhead b1_steps b1_greatestAhead g1_remembered g1_underWay g1_way g1_other g1_lead g1_man g1_dog g1_gone g1_greatest g1_underWay g1_way g1_other g1_lead g1_man g1_dog g0_gone g0_greatest g0_remembered) H := hP
  have hD : va_D A (ceX7_copyFrom cyI cyB cyJ cyZ a0 a1 b0_steps b0_greatestAhead b1_steps b1_greatestAhead g1_remembered g1_underWay g1_way g1_other g1_lead g1_man g1_dog g1_gone g1_greatest g1_underWay g1_way g1_other g1_lead g1_man g1_dog g0_gone g0_greatest g0_remembered) := hD
  refine lv_aload_n hx hb dX7_copyFrom_48 rfl (lv_at hl 0 rfl) ?_
  refine lv_aload_n hx hb dX7_copyFrom_49 rfl (lv_at hl 1 rfl) ?_
  refine va_get (D := (dC, dI)) (ci := 7) (v := .int g1_gone) (C := RX7) (T := TX7) (N := 11) hx hb hts inX7_copyFrom_X7 hown hK hP 1 rfl rfl 6 (by decide) (hts (.fieldLink RX7 31 "LeadPark$Stroll" "gone" "I") (List.mem_of_getElem? (i := 7) rfl)) (fun _ h9 => h9) rfl dX7_copyFrom_50 ?_
  refine va_put (D := (dC, dI)) (ci := 7) (v := .int g1_gone) (ty := .int) (C := RX7) (T := TX7) (N := 11) hx hb hts inX7_copyFrom_X7 tyX7 tyX7_ok nmX7 hown hK hP hD hS 0 rfl rfl 6 (by decide) (hts (.fieldLink RX7 31 "LeadPark$Stroll" "gone" "I") (List.mem_of_getElem? (i := 7) rfl)) (fun _ h9 => h9) rfl (by decide +kernel) rfl rfl (Nat.le_of_ble_eq_true rfl) dX7_copyFrom_53 (fun H locs hP hD hS => ?_)
  have hP : va_P (dC, dI) vwCl (ceX7_copyFrom cyI cyB cyJ cyZ a0 a1 b0_steps b0_greatestAhead b1_steps b1_greatestAhead g1_remembered g1_underWay g1_way g1_other g1_lead g1_man g1_dog g1_gone g1_greatest g1_underWay g1_way g1_other g1_lead g1_man g1_dog g1_gone g0_greatest g0_remembered) H := hP
  have hD : va_D A (ceX7_copyFrom cyI cyB cyJ cyZ a0 a1 b0_steps b0_greatestAhead b1_steps b1_greatestAhead g1_remembered g1_underWay g1_way g1_other g1_lead g1_man g1_dog g1_gone g1_greatest g1_underWay g1_way g1_other g1_lead g1_man g1_dog g1_gone g0_greatest g0_remembered) := hD
  refine lv_aload_n hx hb dX7_copyFrom_56 rfl (lv_at hl 0 rfl) ?_
  refine lv_aload_n hx hb dX7_copyFrom_57 rfl (lv_at hl 1 rfl) ?_
  refine va_get (D := (dC, dI)) (ci := 7) (v := .int g1_greatest) (C := RX7) (T := TX7) (N := 11) hx hb hts inX7_copyFrom_X7 hown hK hP 1 rfl rfl 7 (by decide) (hts (.fieldLink RX7 34 "LeadPark$Stroll" "greatest" "I") (List.mem_of_getElem? (i := 8) rfl)) (fun _ h9 => h9) rfl dX7_copyFrom_58 ?_
  refine va_put (D := (dC, dI)) (ci := 7) (v := .int g1_greatest) (ty := .int) (C := RX7) (T := TX7) (N := 11) hx hb hts inX7_copyFrom_X7 tyX7 tyX7_ok nmX7 hown hK hP hD hS 0 rfl rfl 7 (by decide) (hts (.fieldLink RX7 34 "LeadPark$Stroll" "greatest" "I") (List.mem_of_getElem? (i := 8) rfl)) (fun _ h9 => h9) rfl (by decide +kernel) rfl rfl (Nat.le_of_ble_eq_true rfl) dX7_copyFrom_61 (fun H locs hP hD hS => ?_)
  have hP : va_P (dC, dI) vwCl (ceX7_copyFrom cyI cyB cyJ cyZ a0 a1 b0_steps b0_greatestAhead b1_steps b1_greatestAhead g1_remembered g1_underWay g1_way g1_other g1_lead g1_man g1_dog g1_gone g1_greatest g1_underWay g1_way g1_other g1_lead g1_man g1_dog g1_gone g1_greatest g0_remembered) H := hP
  have hD : va_D A (ceX7_copyFrom cyI cyB cyJ cyZ a0 a1 b0_steps b0_greatestAhead b1_steps b1_greatestAhead g1_remembered g1_underWay g1_way g1_other g1_lead g1_man g1_dog g1_gone g1_greatest g1_underWay g1_way g1_other g1_lead g1_man g1_dog g1_gone g1_greatest g0_remembered) := hD
  refine lv_aload_n hx hb dX7_copyFrom_64 rfl (lv_at hl 0 rfl) ?_
  refine lv_iconst (v := 0) hx hb dX7_copyFrom_65 (by decide) ?_
  refine va_put (D := (dC, dI)) (ci := 7) (v := .int 0) (ty := .int) (C := RX7) (T := TX7) (N := 11) hx hb hts inX7_copyFrom_X7 tyX7 tyX7_ok nmX7 hown hK hP hD hS 0 rfl rfl 8 (by decide) (hts (.fieldLink RX7 37 "LeadPark$Stroll" "remembered" "I") (List.mem_of_getElem? (i := 9) rfl)) (fun _ h9 => h9) rfl (by decide +kernel) rfl rfl (Nat.le_of_ble_eq_true rfl) dX7_copyFrom_66 (fun H locs hP hD hS => ?_)
  have hP : va_P (dC, dI) vwCl (ceX7_copyFrom cyI cyB cyJ cyZ a0 a1 b0_steps b0_greatestAhead b1_steps b1_greatestAhead g1_remembered g1_underWay g1_way g1_other g1_lead g1_man g1_dog g1_gone g1_greatest g1_underWay g1_way g1_other g1_lead g1_man g1_dog g1_gone g1_greatest 0) H := hP
  have hD : va_D A (ceX7_copyFrom cyI cyB cyJ cyZ a0 a1 b0_steps b0_greatestAhead b1_steps b1_greatestAhead g1_remembered g1_underWay g1_way g1_other g1_lead g1_man g1_dog g1_gone g1_greatest g1_underWay g1_way g1_other g1_lead g1_man g1_dog g1_gone g1_greatest 0) := hD
  rw [hQ]
  exact W.vret hx hb hr (fun t ht hW => ⟨⟨(g1_underWay, g1_way, g1_other, g1_lead, g1_man, g1_dog, g1_gone, g1_greatest, 0), rfl, hw, by rw [ht]; exact hP, va_K.moved hW.alike hK, hD⟩, hS.F ht⟩) hS.2.2 dX7_copyFrom_69
/-! LeadPark$Stroll.start (IIII)V -/
abbrev ceX7_start (cyI cyB cyJ cyZ : ClassId) (a0 b0_steps b0_greatestAhead : Nat) (g0_underWay : Int32) (g0_way : Int32) (g0_other : Int32) (g0_lead : Int32) (g0_man : Int32) (g0_dog : Int32) (g0_gone : Int32) (g0_greatest : Int32) (g0_remembered : Int32) : va_W := [(a0, .inr (7, [.int g0_underWay, .int g0_way, .int g0_other, .int g0_lead, .int g0_man, .int g0_dog, .int g0_gone, .int g0_greatest, .int g0_remembered, .ref b0_steps, .ref b0_greatestAhead]))]

theorem inX7_start_X7 : ∀ w ∈ wsX70, w ∈ wsX7_start := fun _ h => List.mem_cons_of_mem _ (List.mem_append_right _ h)
abbrev rmX7_start : Room := { frames := 0, cells := 0, slots := 0, locals := 0 }
set_option maxRecDepth 100000 in
set_option maxHeartbeats 4000000 in
theorem ctX7_start (l : Launch) (dC : Nat → ClassId) (dI : Nat → Nat → Nat) (cyI cyB cyJ cyZ : ClassId) (sz : Nat) (a0 b0_steps b0_greatestAhead : Nat) (g0_underWay : Int32) (g0_way : Int32) (g0_other : Int32) (g0_lead : Int32) (g0_man : Int32) (g0_dog : Int32) (g0_gone : Int32) (g0_greatest : Int32) (g0_remembered : Int32) (p0 : Int32) (p1 : Int32) (p2 : Int32) (p3 : Int32) (post : (Int32 × Int32 × Int32 × Int32 × Int32 × Int32 × Int32 × Int32 × Int32) → Prop) (hw : wpX7_start post g0_underWay g0_way g0_other g0_lead g0_man g0_dog g0_gone g0_greatest g0_remembered p0 p1 p2 p3) : Met l yX7_start wsX7_start rmX7_start (va_Pc [.ref a0, .int p0, .int p1, .int p2, .int p3] (wPre dC dI cyI cyB cyJ cyZ sz (ceX7_start cyI cyB cyJ cyZ a0 b0_steps b0_greatestAhead g0_underWay g0_way g0_other g0_lead g0_man g0_dog g0_gone g0_greatest g0_remembered))) (va_Qv post (fun u : Int32 × Int32 × Int32 × Int32 × Int32 × Int32 × Int32 × Int32 × Int32 => wAt dC dI cyI cyB cyJ cyZ (va_A (ceX7_start cyI cyB cyJ cyZ a0 b0_steps b0_greatestAhead g0_underWay g0_way g0_other g0_lead g0_man g0_dog g0_gone g0_greatest g0_remembered) sz) (ceX7_start cyI cyB cyJ cyZ a0 b0_steps b0_greatestAhead u.1 u.2.1 u.2.2.1 u.2.2.2.1 u.2.2.2.2.1 u.2.2.2.2.2.1 u.2.2.2.2.2.2.1 u.2.2.2.2.2.2.2.1 u.2.2.2.2.2.2.2.2)) (va_A (ceX7_start cyI cyB cyJ cyZ a0 b0_steps b0_greatestAhead g0_underWay g0_way g0_other g0_lead g0_man g0_dog g0_gone g0_greatest g0_remembered) sz)) 0 0 (va_A (ceX7_start cyI cyB cyJ cyZ a0 b0_steps b0_greatestAhead g0_underWay g0_way g0_other g0_lead g0_man g0_dog g0_gone g0_greatest g0_remembered) sz) := by
  refine Met.ofW (cc := cX7_start) (maxL := 5) (ret := none) (by decide) rfl ?_
  intro p e s m args below meth c s₁ B hml hv
  obtain ⟨rfl, hsz, hP, hK, hD0, hN⟩ := hv
  have hx := B.exec
  have hb := B.bytes
  have hr := B.returns
  have hts := atoms_spec (ws := wsX7_start) B.pre
  have hown : s.vm.findClass RX7 = some m.cls := findClass_of_methodNamed B.named
  have hlocks := B.notSynchronized
  subst hsz
  have hD := hD0.self (sz := s.heap.size)
  generalize hAe : va_A (ceX7_start cyI cyB cyJ cyZ a0 b0_steps b0_greatestAhead g0_underWay g0_way g0_other g0_lead g0_man g0_dog g0_gone g0_greatest g0_remembered) s.heap.size = A at hD ⊢
  have hA : ∀ q : Nat, s.heap.size ≤ q → A q := fun q h => by rw [← hAe]; exact Or.inr h
  have hS : va_S A s.heap s.heap [] := va_S.rf
  have C0 : cxM p s m meth c _ wsX7_start RX7 cX7_start 5 none := ⟨hx, hb, hr, hml, hown, hts, hlocks⟩
  have hl := lv_entry ([.ref a0, .int p0, .int p1, .int p2, .int p3]) (n := 5) (Nat.le_of_ble_eq_true rfl)
  rw [lg_entry_eq]
  generalize (lg_sl ([.ref a0, .int p0, .int p1, .int p2, .int p3]) ++ List.replicate (5 - (lg_sl ([.ref a0, .int p0, .int p1, .int p2, .int p3])).length) Slot.unset).toArray = ls at hl ⊢
  have hl : lv_has ls 5 [(0, .ref a0), (1, .int p0), (2, .int p1), (3, .int p2), (4, .int p3)] := hl
  show W p l e rmX7_start s m _ below meth c _ _ _ _ _ _
  refine wq (fun Q hQ => ?_)
  refine lv_aload_n hx hb dX7_start_0 rfl (lv_at hl 0 rfl) ?_
  refine lv_iconst (v := 1) hx hb dX7_start_1 (by decide) ?_
  refine va_put (D := (dC, dI)) (ci := 7) (v := .int 1) (ty := .boolean) (C := RX7) (T := TX7) (N := 11) hx hb hts inX7_start_X7 tyX7 tyX7_ok nmX7 hown hK hP hD hS 0 rfl rfl 0 (by decide) (hts (.fieldLink RX7 9 "LeadPark$Stroll" "underWay" "Z") (List.mem_of_getElem? (i := 1) rfl)) (fun _ h9 => h9) rfl (by decide +kernel) rfl rfl (Nat.le_of_ble_eq_true rfl) dX7_start_2 (fun H locs hP hD hS => ?_)
  have hP : va_P (dC, dI) vwCl (ceX7_start cyI cyB cyJ cyZ a0 b0_steps b0_greatestAhead 1 g0_way g0_other g0_lead g0_man g0_dog g0_gone g0_greatest g0_remembered) H := hP
  have hD : va_D A (ceX7_start cyI cyB cyJ cyZ a0 b0_steps b0_greatestAhead 1 g0_way g0_other g0_lead g0_man g0_dog g0_gone g0_greatest g0_remembered) := hD
  refine lv_aload_n hx hb dX7_start_5 rfl (lv_at hl 0 rfl) ?_
  refine lv_iload_n hx hb dX7_start_6 rfl (lv_at hl 1 rfl) ?_
  refine va_put (D := (dC, dI)) (ci := 7) (v := .int p0) (ty := .int) (C := RX7) (T := TX7) (N := 11) hx hb hts inX7_start_X7 tyX7 tyX7_ok nmX7 hown hK hP hD hS 0 rfl rfl 1 (by decide) (hts (.fieldLink RX7 15 "LeadPark$Stroll" "way" "I") (List.mem_of_getElem? (i := 2) rfl)) (fun _ h9 => h9) rfl (by decide +kernel) rfl rfl (Nat.le_of_ble_eq_true rfl) dX7_start_7 (fun H locs hP hD hS => ?_)
  have hP : va_P (dC, dI) vwCl (ceX7_start cyI cyB cyJ cyZ a0 b0_steps b0_greatestAhead 1 p0 g0_other g0_lead g0_man g0_dog g0_gone g0_greatest g0_remembered) H := hP
  have hD : va_D A (ceX7_start cyI cyB cyJ cyZ a0 b0_steps b0_greatestAhead 1 p0 g0_other g0_lead g0_man g0_dog g0_gone g0_greatest g0_remembered) := hD
  refine lv_aload_n hx hb dX7_start_10 rfl (lv_at hl 0 rfl) ?_
  refine lv_iload_n hx hb dX7_start_11 rfl (lv_at hl 2 rfl) ?_
  refine va_put (D := (dC, dI)) (ci := 7) (v := .int p1) (ty := .int) (C := RX7) (T := TX7) (N := 11) hx hb hts inX7_start_X7 tyX7 tyX7_ok nmX7 hown hK hP hD hS 0 rfl rfl 2 (by decide) (hts (.fieldLink RX7 19 "LeadPark$Stroll" "other" "I") (List.mem_of_getElem? (i := 3) rfl)) (fun _ h9 => h9) rfl (by decide +kernel) rfl rfl (Nat.le_of_ble_eq_true rfl) dX7_start_12 (fun H locs hP hD hS => ?_)
  have hP : va_P (dC, dI) vwCl (ceX7_start cyI cyB cyJ cyZ a0 b0_steps b0_greatestAhead 1 p0 p1 g0_lead g0_man g0_dog g0_gone g0_greatest g0_remembered) H := hP
  have hD : va_D A (ceX7_start cyI cyB cyJ cyZ a0 b0_steps b0_greatestAhead 1 p0 p1 g0_lead g0_man g0_dog g0_gone g0_greatest g0_remembered) := hD
  refine lv_aload_n hx hb dX7_start_15 rfl (lv_at hl 0 rfl) ?_
  refine lv_iload_n hx hb dX7_start_16 rfl (lv_at hl 3 rfl) ?_
  refine va_put (D := (dC, dI)) (ci := 7) (v := .int p2) (ty := .int) (C := RX7) (T := TX7) (N := 11) hx hb hts inX7_start_X7 tyX7 tyX7_ok nmX7 hown hK hP hD hS 0 rfl rfl 3 (by decide) (hts (.fieldLink RX7 22 "LeadPark$Stroll" "lead" "I") (List.mem_of_getElem? (i := 4) rfl)) (fun _ h9 => h9) rfl (by decide +kernel) rfl rfl (Nat.le_of_ble_eq_true rfl) dX7_start_17 (fun H locs hP hD hS => ?_)
  have hP : va_P (dC, dI) vwCl (ceX7_start cyI cyB cyJ cyZ a0 b0_steps b0_greatestAhead 1 p0 p1 p2 g0_man g0_dog g0_gone g0_greatest g0_remembered) H := hP
  have hD : va_D A (ceX7_start cyI cyB cyJ cyZ a0 b0_steps b0_greatestAhead 1 p0 p1 p2 g0_man g0_dog g0_gone g0_greatest g0_remembered) := hD
  refine lv_aload_n hx hb dX7_start_20 rfl (lv_at hl 0 rfl) ?_
  refine lv_iconst (v := 0) hx hb dX7_start_21 (by decide) ?_
  refine va_put (D := (dC, dI)) (ci := 7) (v := .int 0) (ty := .int) (C := RX7) (T := TX7) (N := 11) hx hb hts inX7_start_X7 tyX7 tyX7_ok nmX7 hown hK hP hD hS 0 rfl rfl 4 (by decide) (hts (.fieldLink RX7 25 "LeadPark$Stroll" "man" "I") (List.mem_of_getElem? (i := 5) rfl)) (fun _ h9 => h9) rfl (by decide +kernel) rfl rfl (Nat.le_of_ble_eq_true rfl) dX7_start_22 (fun H locs hP hD hS => ?_)
  have hP : va_P (dC, dI) vwCl (ceX7_start cyI cyB cyJ cyZ a0 b0_steps b0_greatestAhead 1 p0 p1 p2 0 g0_dog g0_gone g0_greatest g0_remembered) H := hP
  have hD : va_D A (ceX7_start cyI cyB cyJ cyZ a0 b0_steps b0_greatestAhead 1 p0 p1 p2 0 g0_dog g0_gone g0_greatest g0_remembered) := hD
  refine lv_aload_n hx hb dX7_start_25 rfl (lv_at hl 0 rfl) ?_
  refine lv_iconst (v := 0) hx hb dX7_start_26 (by decide) ?_
  refine va_put (D := (dC, dI)) (ci := 7) (v := .int 0) (ty := .int) (C := RX7) (T := TX7) (N := 11) hx hb hts inX7_start_X7 tyX7 tyX7_ok nmX7 hown hK hP hD hS 0 rfl rfl 5 (by decide) (hts (.fieldLink RX7 28 "LeadPark$Stroll" "dog" "I") (List.mem_of_getElem? (i := 6) rfl)) (fun _ h9 => h9) rfl (by decide +kernel) rfl rfl (Nat.le_of_ble_eq_true rfl) dX7_start_27 (fun H locs hP hD hS => ?_)
  have hP : va_P (dC, dI) vwCl (ceX7_start cyI cyB cyJ cyZ a0 b0_steps b0_greatestAhead 1 p0 p1 p2 0 0 g0_gone g0_greatest g0_remembered) H := hP
  have hD : va_D A (ceX7_start cyI cyB cyJ cyZ a0 b0_steps b0_greatestAhead 1 p0 p1 p2 0 0 g0_gone g0_greatest g0_remembered) := hD
  refine lv_aload_n hx hb dX7_start_30 rfl (lv_at hl 0 rfl) ?_
  refine lv_iconst (v := 0) hx hb dX7_start_31 (by decide) ?_
  refine va_put (D := (dC, dI)) (ci := 7) (v := .int 0) (ty := .int) (C := RX7) (T := TX7) (N := 11) hx hb hts inX7_start_X7 tyX7 tyX7_ok nmX7 hown hK hP hD hS 0 rfl rfl 6 (by decide) (hts (.fieldLink RX7 31 "LeadPark$Stroll" "gone" "I") (List.mem_of_getElem? (i := 7) rfl)) (fun _ h9 => h9) rfl (by decide +kernel) rfl rfl (Nat.le_of_ble_eq_true rfl) dX7_start_32 (fun H locs hP hD hS => ?_)
  have hP : va_P (dC, dI) vwCl (ceX7_start cyI cyB cyJ cyZ a0 b0_steps b0_greatestAhead 1 p0 p1 p2 0 0 0 g0_greatest g0_remembered) H := hP
  have hD : va_D A (ceX7_start cyI cyB cyJ cyZ a0 b0_steps b0_greatestAhead 1 p0 p1 p2 0 0 0 g0_greatest g0_remembered) := hD
  refine lv_aload_n hx hb dX7_start_35 rfl (lv_at hl 0 rfl) ?_
  refine lv_iload hx hb dX7_start_36 (lv_at hl 4 rfl) ?_
  refine va_put (D := (dC, dI)) (ci := 7) (v := .int p3) (ty := .int) (C := RX7) (T := TX7) (N := 11) hx hb hts inX7_start_X7 tyX7 tyX7_ok nmX7 hown hK hP hD hS 0 rfl rfl 7 (by decide) (hts (.fieldLink RX7 34 "LeadPark$Stroll" "greatest" "I") (List.mem_of_getElem? (i := 8) rfl)) (fun _ h9 => h9) rfl (by decide +kernel) rfl rfl (Nat.le_of_ble_eq_true rfl) dX7_start_38 (fun H locs hP hD hS => ?_)
  have hP : va_P (dC, dI) vwCl (ceX7_start cyI cyB cyJ cyZ a0 b0_steps b0_greatestAhead 1 p0 p1 p2 0 0 0 p3 g0_remembered) H := hP
  have hD : va_D A (ceX7_start cyI cyB cyJ cyZ a0 b0_steps b0_greatestAhead 1 p0 p1 p2 0 0 0 p3 g0_remembered) := hD
  refine lv_aload_n hx hb dX7_start_41 rfl (lv_at hl 0 rfl) ?_
  refine lv_iconst (v := 0) hx hb dX7_start_42 (by decide) ?_
  refine va_put (D := (dC, dI)) (ci := 7) (v := .int 0) (ty := .int) (C := RX7) (T := TX7) (N := 11) hx hb hts inX7_start_X7 tyX7 tyX7_ok nmX7 hown hK hP hD hS 0 rfl rfl 8 (by decide) (hts (.fieldLink RX7 37 "LeadPark$Stroll" "remembered" "I") (List.mem_of_getElem? (i := 9) rfl)) (fun _ h9 => h9) rfl (by decide +kernel) rfl rfl (Nat.le_of_ble_eq_true rfl) dX7_start_43 (fun H locs hP hD hS => ?_)
  have hP : va_P (dC, dI) vwCl (ceX7_start cyI cyB cyJ cyZ a0 b0_steps b0_greatestAhead 1 p0 p1 p2 0 0 0 p3 0) H := hP
  have hD : va_D A (ceX7_start cyI cyB cyJ cyZ a0 b0_steps b0_greatestAhead 1 p0 p1 p2 0 0 0 p3 0) := hD
  rw [hQ]
  exact W.vret hx hb hr (fun t ht hW => ⟨⟨(1, p0, p1, p2, 0, 0, 0, p3, 0), rfl, hw, by rw [ht]; exact hP, va_K.moved hW.alike hK, hD⟩, hS.F ht⟩) hS.2.2 dX7_start_46
/-! LeadPark.manMoves (I)I -/

abbrev rmX10_manMoves : Room := { frames := 0, cells := 0, slots := 0, locals := 0 }
set_option maxRecDepth 100000 in
set_option maxHeartbeats 4000000 in
theorem ctX10_manMoves (l : Launch) (dC : Nat → ClassId) (dI : Nat → Nat → Nat) (cyI cyB cyJ cyZ : ClassId) (sz : Nat) (p0 : Int32) (post : Int32 → Unit → Prop) (hw : wpX10_manMoves post p0) : Met l yX10_manMoves wsX10_manMoves rmX10_manMoves (va_Pc [.int p0] (wPre dC dI cyI cyB cyJ cyZ sz ([] : va_W))) (va_Qi post (fun u : Unit => wAt dC dI cyI cyB cyJ cyZ (va_A ([] : va_W) sz) ([] : va_W)) (va_A ([] : va_W) sz)) 0 0 (va_A ([] : va_W) sz) := by
  refine Met.ofW (cc := cX10_manMoves) (maxL := 1) (ret := (some .int)) (by decide) rfl ?_
  intro p e s m args below meth c s₁ B hml hv
  obtain ⟨rfl, hsz, hP, hK, hD0, hN⟩ := hv
  have hx := B.exec
  have hb := B.bytes
  have hr := B.returns
  have hts := atoms_spec (ws := wsX10_manMoves) B.pre
  have hown : s.vm.findClass RX10 = some m.cls := findClass_of_methodNamed B.named
  have hlocks := B.notSynchronized
  subst hsz
  have hD := hD0.self (sz := s.heap.size)
  generalize hAe : va_A ([] : va_W) s.heap.size = A at hD ⊢
  have hA : ∀ q : Nat, s.heap.size ≤ q → A q := fun q h => by rw [← hAe]; exact Or.inr h
  have hS : va_S A s.heap s.heap [] := va_S.rf
  have C0 : cxM p s m meth c _ wsX10_manMoves RX10 cX10_manMoves 1 (some .int) := ⟨hx, hb, hr, hml, hown, hts, hlocks⟩
  have hl := lv_entry ([.int p0]) (n := 1) (Nat.le_of_ble_eq_true rfl)
  rw [lg_entry_eq]
  generalize (lg_sl ([.int p0]) ++ List.replicate (1 - (lg_sl ([.int p0])).length) Slot.unset).toArray = ls at hl ⊢
  have hl : lv_has ls 1 [(0, .int p0)] := hl
  show W p l e rmX10_manMoves s m _ below meth c _ _ _ _ _ _
  refine wq (fun Q hQ => ?_)
  refine lv_iload_n hx hb dX10_manMoves_0 rfl (lv_at hl 0 rfl) ?_
  refine lv_iconst (v := 1) hx hb dX10_manMoves_1 (by decide) ?_
  refine lv_iand hx hb dX10_manMoves_2 ?_
  rw [hQ]
  exact W.iret (v := p0 &&& 1) hx hb hr (fun t ht hW => ⟨⟨p0 &&& 1, (), rfl, hw, by rw [ht]; exact hP, va_K.moved hW.alike hK, hD⟩, hS.F ht⟩) hS.2.2 dX10_manMoves_3
/-! LeadPark.dogMoves (I)I -/

abbrev rmX10_dogMoves : Room := { frames := 0, cells := 0, slots := 0, locals := 0 }
set_option maxRecDepth 100000 in
set_option maxHeartbeats 4000000 in
theorem ctX10_dogMoves (l : Launch) (dC : Nat → ClassId) (dI : Nat → Nat → Nat) (cyI cyB cyJ cyZ : ClassId) (sz : Nat) (p0 : Int32) (post : Int32 → Unit → Prop) (hw : wpX10_dogMoves post p0) : Met l yX10_dogMoves wsX10_dogMoves rmX10_dogMoves (va_Pc [.int p0] (wPre dC dI cyI cyB cyJ cyZ sz ([] : va_W))) (va_Qi post (fun u : Unit => wAt dC dI cyI cyB cyJ cyZ (va_A ([] : va_W) sz) ([] : va_W)) (va_A ([] : va_W) sz)) 0 0 (va_A ([] : va_W) sz) := by
  refine Met.ofW (cc := cX10_dogMoves) (maxL := 1) (ret := (some .int)) (by decide) rfl ?_
  intro p e s m args below meth c s₁ B hml hv
  obtain ⟨rfl, hsz, hP, hK, hD0, hN⟩ := hv
  have hx := B.exec
  have hb := B.bytes
  have hr := B.returns
  have hts := atoms_spec (ws := wsX10_dogMoves) B.pre
  have hown : s.vm.findClass RX10 = some m.cls := findClass_of_methodNamed B.named
  have hlocks := B.notSynchronized
  subst hsz
  have hD := hD0.self (sz := s.heap.size)
  generalize hAe : va_A ([] : va_W) s.heap.size = A at hD ⊢
  have hA : ∀ q : Nat, s.heap.size ≤ q → A q := fun q h => by rw [← hAe]; exact Or.inr h
  have hS : va_S A s.heap s.heap [] := va_S.rf
  have C0 : cxM p s m meth c _ wsX10_dogMoves RX10 cX10_dogMoves 1 (some .int) := ⟨hx, hb, hr, hml, hown, hts, hlocks⟩
  have hl := lv_entry ([.int p0]) (n := 1) (Nat.le_of_ble_eq_true rfl)
  rw [lg_entry_eq]
  generalize (lg_sl ([.int p0]) ++ List.replicate (1 - (lg_sl ([.int p0])).length) Slot.unset).toArray = ls at hl ⊢
  have hl : lv_has ls 1 [(0, .int p0)] := hl
  show W p l e rmX10_dogMoves s m _ below meth c _ _ _ _ _ _
  refine wq (fun Q hQ => ?_)
  refine lv_iload_n hx hb dX10_dogMoves_0 rfl (lv_at hl 0 rfl) ?_
  refine lv_iconst (v := 1) hx hb dX10_dogMoves_1 (by decide) ?_
  refine lv_ishr hx hb dX10_dogMoves_2 ?_
  rw [hQ]
  exact W.iret (v := p0 >>> ((1 : Int32) &&& 31)) hx hb hr (fun t ht hW => ⟨⟨p0 >>> ((1 : Int32) &&& 31), (), rfl, hw, by rw [ht]; exact hP, va_K.moved hW.alike hK, hD⟩, hS.F ht⟩) hS.2.2 dX10_dogMoves_3
/-! LeadPark$Stroll.advance (II)V -/
abbrev ceX7_advance (cyI cyB cyJ cyZ : ClassId) (a0 a1 a2 : Nat) (g0_underWay : Int32) (g0_way : Int32) (g0_other : Int32) (g0_lead : Int32) (g0_man : Int32) (g0_dog : Int32) (g0_gone : Int32) (g0_greatest : Int32) (g0_remembered : Int32) (f1 : Nat → Int32) (f2 : Nat → Int32) : va_W := [(a0, .inr (7, [.int g0_underWay, .int g0_way, .int g0_other, .int g0_lead, .int g0_man, .int g0_dog, .int g0_gone, .int g0_greatest, .int g0_remembered, .ref a1, .ref a2])), (a1, .inl (cyI, 58, .inl f1)), (a2, .inl (cyI, 58, .inl f2))]

theorem inX7_advance_X7 : ∀ w ∈ wsX70, w ∈ wsX7_advance := fun _ h => List.mem_cons_of_mem _ (List.mem_append_right _ h)
abbrev rmX7_advance : Room := { frames := 1, cells := 0, slots := 0, locals := 40 }
set_option maxRecDepth 100000 in
set_option maxHeartbeats 4000000 in
theorem ctX7_advance (l : Launch) (dC : Nat → ClassId) (dI : Nat → Nat → Nat) (cyI cyB cyJ cyZ : ClassId) (sz : Nat) (a0 a1 a2 : Nat) (g0_underWay : Int32) (g0_way : Int32) (g0_other : Int32) (g0_lead : Int32) (g0_man : Int32) (g0_dog : Int32) (g0_gone : Int32) (g0_greatest : Int32) (g0_remembered : Int32) (f1 : Nat → Int32) (f2 : Nat → Int32) (p0 : Int32) (p1 : Int32) (post : (Int32 × Int32 × Int32 × Int32 × Int32 × (Nat → Int32) × (Nat → Int32)) → Prop) (hw : wpX7_advance post g0_man g0_dog g0_gone g0_greatest g0_remembered f1 f2 p0 p1) : Met l yX7_advance wsX7_advance rmX7_advance (va_Pc [.ref a0, .int p0, .int p1] (wPre dC dI cyI cyB cyJ cyZ sz (ceX7_advance cyI cyB cyJ cyZ a0 a1 a2 g0_underWay g0_way g0_other g0_lead g0_man g0_dog g0_gone g0_greatest g0_remembered f1 f2))) (va_Qv post (fun u : Int32 × Int32 × Int32 × Int32 × Int32 × (Nat → Int32) × (Nat → Int32) => wAt dC dI cyI cyB cyJ cyZ (va_A (ceX7_advance cyI cyB cyJ cyZ a0 a1 a2 g0_underWay g0_way g0_other g0_lead g0_man g0_dog g0_gone g0_greatest g0_remembered f1 f2) sz) (ceX7_advance cyI cyB cyJ cyZ a0 a1 a2 g0_underWay g0_way g0_other g0_lead u.1 u.2.1 u.2.2.1 u.2.2.2.1 u.2.2.2.2.1 u.2.2.2.2.2.1 u.2.2.2.2.2.2)) (va_A (ceX7_advance cyI cyB cyJ cyZ a0 a1 a2 g0_underWay g0_way g0_other g0_lead g0_man g0_dog g0_gone g0_greatest g0_remembered f1 f2) sz)) 0 0 (va_A (ceX7_advance cyI cyB cyJ cyZ a0 a1 a2 g0_underWay g0_way g0_other g0_lead g0_man g0_dog g0_gone g0_greatest g0_remembered f1 f2) sz) := by
  refine Met.ofW (cc := cX7_advance) (maxL := 3) (ret := none) (by decide) rfl ?_
  intro p e s m args below meth c s₁ B hml hv
  obtain ⟨rfl, hsz, hP, hK, hD0, hN⟩ := hv
  have hx := B.exec
  have hb := B.bytes
  have hr := B.returns
  have hts := atoms_spec (ws := wsX7_advance) B.pre
  have hown : s.vm.findClass RX7 = some m.cls := findClass_of_methodNamed B.named
  have hlocks := B.notSynchronized
  subst hsz
  have hD := hD0.self (sz := s.heap.size)
  generalize hAe : va_A (ceX7_advance cyI cyB cyJ cyZ a0 a1 a2 g0_underWay g0_way g0_other g0_lead g0_man g0_dog g0_gone g0_greatest g0_remembered f1 f2) s.heap.size = A at hD ⊢
  have hA : ∀ q : Nat, s.heap.size ≤ q → A q := fun q h => by rw [← hAe]; exact Or.inr h
  have hS : va_S A s.heap s.heap [] := va_S.rf
  have C0 : cxM p s m meth c _ wsX7_advance RX7 cX7_advance 3 none := ⟨hx, hb, hr, hml, hown, hts, hlocks⟩
  have hl := lv_entry ([.ref a0, .int p0, .int p1]) (n := 3) (Nat.le_of_ble_eq_true rfl)
  rw [lg_entry_eq]
  generalize (lg_sl ([.ref a0, .int p0, .int p1]) ++ List.replicate (3 - (lg_sl ([.ref a0, .int p0, .int p1])).length) Slot.unset).toArray = ls at hl ⊢
  have hl : lv_has ls 3 [(0, .ref a0), (1, .int p0), (2, .int p1)] := hl
  show W p l e rmX7_advance s m _ below meth c _ _ _ _ _ _
  refine wq (fun Q hQ => ?_)
  refine lv_aload_n hx hb dX7_advance_0 rfl (lv_at hl 0 rfl) ?_
  refine va_get (D := (dC, dI)) (ci := 7) (v := .int g0_gone) (C := RX7) (T := TX7) (N := 11) hx hb hts inX7_advance_X7 hown hK hP 0 rfl rfl 6 (by decide) (hts (.fieldLink RX7 31 "LeadPark$Stroll" "gone" "I") (List.mem_of_getElem? (i := 1) rfl)) (fun _ h9 => h9) rfl dX7_advance_1 ?_
  refine lv_bipush (v := 58) hx hb dX7_advance_4 (by decide) ?_
  refine lv_icmp_lt (tgt := 10) hx hb dX7_advance_6 (by decide) (fun hc => ?_) (fun hc => ?_)
  · have hw := hw.1 hc
    refine lv_aload_n hx hb dX7_advance_10 rfl (lv_at hl 0 rfl) ?_
    refine va_get (D := (dC, dI)) (ci := 7) (v := .ref a1) (C := RX7) (T := TX7) (N := 11) hx hb hts inX7_advance_X7 hown hK hP 0 rfl rfl 9 (by decide) (hts (.fieldLink RX7 40 "LeadPark$Stroll" "steps" "[I") (List.mem_of_getElem? (i := 2) rfl)) (fun _ h9 => h9) rfl dX7_advance_11 ?_
    refine lv_aload_n hx hb dX7_advance_14 rfl (lv_at hl 0 rfl) ?_
    refine va_get (D := (dC, dI)) (ci := 7) (v := .int g0_gone) (C := RX7) (T := TX7) (N := 11) hx hb hts inX7_advance_X7 hown hK hP 0 rfl rfl 6 (by decide) (hts (.fieldLink RX7 31 "LeadPark$Stroll" "gone" "I") (List.mem_of_getElem? (i := 1) rfl)) (fun _ h9 => h9) rfl dX7_advance_15 ?_
    refine lv_iload_n hx hb dX7_advance_18 rfl (lv_at hl 1 rfl) ?_
    obtain ⟨hi, hw⟩ := hw
    refine va_iast hx hb hK hP hD hS 1 0 rfl rfl hi dX7_advance_19 (fun H locs hP hD hS => ?_)
    have hP : va_P (dC, dI) vwCl (ceX7_advance cyI cyB cyJ cyZ a0 a1 a2 g0_underWay g0_way g0_other g0_lead g0_man g0_dog g0_gone g0_greatest g0_remembered (upd f1 g0_gone.toNatClampNeg p0) f2) H := hP
    have hD : va_D A (ceX7_advance cyI cyB cyJ cyZ a0 a1 a2 g0_underWay g0_way g0_other g0_lead g0_man g0_dog g0_gone g0_greatest g0_remembered (upd f1 g0_gone.toNatClampNeg p0) f2) := hD
    refine lv_aload_n hx hb dX7_advance_20 rfl (lv_at hl 0 rfl) ?_
    refine va_get (D := (dC, dI)) (ci := 7) (v := .ref a2) (C := RX7) (T := TX7) (N := 11) hx hb hts inX7_advance_X7 hown hK hP 0 rfl rfl 10 (by decide) (hts (.fieldLink RX7 44 "LeadPark$Stroll" "greatestAhead" "[I") (List.mem_of_getElem? (i := 3) rfl)) (fun _ h9 => h9) rfl dX7_advance_21 ?_
    refine lv_aload_n hx hb dX7_advance_24 rfl (lv_at hl 0 rfl) ?_
    refine va_get (D := (dC, dI)) (ci := 7) (v := .int g0_gone) (C := RX7) (T := TX7) (N := 11) hx hb hts inX7_advance_X7 hown hK hP 0 rfl rfl 6 (by decide) (hts (.fieldLink RX7 31 "LeadPark$Stroll" "gone" "I") (List.mem_of_getElem? (i := 1) rfl)) (fun _ h9 => h9) rfl dX7_advance_25 ?_
    refine lv_aload_n hx hb dX7_advance_28 rfl (lv_at hl 0 rfl) ?_
    refine va_get (D := (dC, dI)) (ci := 7) (v := .int g0_greatest) (C := RX7) (T := TX7) (N := 11) hx hb hts inX7_advance_X7 hown hK hP 0 rfl rfl 7 (by decide) (hts (.fieldLink RX7 34 "LeadPark$Stroll" "greatest" "I") (List.mem_of_getElem? (i := 4) rfl)) (fun _ h9 => h9) rfl dX7_advance_29 ?_
    obtain ⟨hi, hw⟩ := hw
    refine va_iast hx hb hK hP hD hS 2 0 rfl rfl hi dX7_advance_32 (fun H locs hP hD hS => ?_)
    have hP : va_P (dC, dI) vwCl (ceX7_advance cyI cyB cyJ cyZ a0 a1 a2 g0_underWay g0_way g0_other g0_lead g0_man g0_dog g0_gone g0_greatest g0_remembered (upd f1 g0_gone.toNatClampNeg p0) (upd f2 g0_gone.toNatClampNeg g0_greatest)) H := hP
    have hD : va_D A (ceX7_advance cyI cyB cyJ cyZ a0 a1 a2 g0_underWay g0_way g0_other g0_lead g0_man g0_dog g0_gone g0_greatest g0_remembered (upd f1 g0_gone.toNatClampNeg p0) (upd f2 g0_gone.toNatClampNeg g0_greatest)) := hD
    refine lv_aload_n hx hb dX7_advance_33 rfl (lv_at hl 0 rfl) ?_
    refine lv_dup hx hb dX7_advance_34 rfl ?_
    refine va_get (D := (dC, dI)) (ci := 7) (v := .int g0_gone) (C := RX7) (T := TX7) (N := 11) hx hb hts inX7_advance_X7 hown hK hP 0 rfl rfl 6 (by decide) (hts (.fieldLink RX7 31 "LeadPark$Stroll" "gone" "I") (List.mem_of_getElem? (i := 1) rfl)) (fun _ h9 => h9) rfl dX7_advance_35 ?_
    refine lv_iconst (v := 1) hx hb dX7_advance_38 (by decide) ?_
    refine lv_iadd hx hb dX7_advance_39 ?_
    refine lv_topi (fun v1 ev1 => ?_)
    have hw := hw v1 ev1
    refine va_put (D := (dC, dI)) (ci := 7) (v := .int v1) (ty := .int) (C := RX7) (T := TX7) (N := 11) hx hb hts inX7_advance_X7 tyX7 tyX7_ok nmX7 hown hK hP hD hS 0 rfl rfl 6 (by decide) (hts (.fieldLink RX7 31 "LeadPark$Stroll" "gone" "I") (List.mem_of_getElem? (i := 1) rfl)) (fun _ h9 => h9) rfl (by decide +kernel) rfl rfl (Nat.le_of_ble_eq_true rfl) dX7_advance_40 (fun H locs hP hD hS => ?_)
    have hP : va_P (dC, dI) vwCl (ceX7_advance cyI cyB cyJ cyZ a0 a1 a2 g0_underWay g0_way g0_other g0_lead g0_man g0_dog v1 g0_greatest g0_remembered (upd f1 g0_gone.toNatClampNeg p0) (upd f2 g0_gone.toNatClampNeg g0_greatest)) H := hP
    have hD : va_D A (ceX7_advance cyI cyB cyJ cyZ a0 a1 a2 g0_underWay g0_way g0_other g0_lead g0_man g0_dog v1 g0_greatest g0_remembered (upd f1 g0_gone.toNatClampNeg p0) (upd f2 g0_gone.toNatClampNeg g0_greatest)) := hD
    refine lv_aload_n hx hb dX7_advance_43 rfl (lv_at hl 0 rfl) ?_
    refine lv_dup hx hb dX7_advance_44 rfl ?_
    refine va_get (D := (dC, dI)) (ci := 7) (v := .int g0_man) (C := RX7) (T := TX7) (N := 11) hx hb hts inX7_advance_X7 hown hK hP 0 rfl rfl 4 (by decide) (hts (.fieldLink RX7 25 "LeadPark$Stroll" "man" "I") (List.mem_of_getElem? (i := 5) rfl)) (fun _ h9 => h9) rfl dX7_advance_45 ?_
    refine lv_iload_n hx hb dX7_advance_48 rfl (lv_at hl 1 rfl) ?_
    have hPc := hP.sub (ws' := ([] : va_W)) [] rfl
    have hDc := hD.sub (ws' := ([] : va_W)) [] (by decide) rfl
    have hFc := va_free (wc := ([] : va_W)) hD hS hA [] rfl
    refine va_calli (va_runSN (As := [.int p0]) (rest := [.int g0_man, .ref a0]) ⟨hx, hb, hml, hown, hts⟩ (ctX10_manMoves l dC dI cyI cyB cyJ cyZ _ p0 _ hw) ⟨va_cnB 1 hts ggX7_advance_X10_manMoves rfl rfl rfl (hN _ (List.mem_of_getElem? (i := 48) rfl)) (hts (.initialized RX10) (List.mem_of_getElem? (i := 16) rfl)) (by decide +kernel) ⟨Nat.le_of_ble_eq_true rfl, Nat.le_of_ble_eq_true rfl⟩, (hts (.static yX10_manMoves) (List.mem_of_getElem? (i := 15) rfl)), trivial⟩ ⟨wPre_blind, fun U hU hW => wPre_of hPc hK hDc hN hU hW⟩ rfl rfl hl.1 rfl (lv_room (Nat.le_of_ble_eq_true rfl)) dX7_advance_49 ⟨(Nat.zero_le _), (Nat.zero_le _)⟩) hS (fun q _ h => hFc q h) hFc (fun r3 u2 t H1 locs ht hvm hw hB hz1 hk1 hS => ?_)
    obtain ⟨hP1, hK1, hD1⟩ := hB
    rw [ht] at hP1
    obtain ⟨hP, hD⟩ := va_join (wr := pickW (ceX7_advance cyI cyB cyJ cyZ a0 a1 a2 g0_underWay g0_way g0_other g0_lead g0_man g0_dog v1 g0_greatest g0_remembered (upd f1 g0_gone.toNatClampNeg p0) (upd f2 g0_gone.toNatClampNeg g0_greatest)) [0, 1, 2]) (w1 := ([] : va_W)) hP hD [] [0, 1, 2] rfl rfl (by decide) (by decide) hk1 hFc hP1 hD1
    have hP := hP.sub (ws' := (ceX7_advance cyI cyB cyJ cyZ a0 a1 a2 g0_underWay g0_way g0_other g0_lead g0_man g0_dog v1 g0_greatest g0_remembered (upd f1 g0_gone.toNatClampNeg p0) (upd f2 g0_gone.toNatClampNeg g0_greatest))) [0, 1, 2] rfl
    have hD := hD.sub (ws' := (ceX7_advance cyI cyB cyJ cyZ a0 a1 a2 g0_underWay g0_way g0_other g0_lead g0_man g0_dog v1 g0_greatest g0_remembered (upd f1 g0_gone.toNatClampNeg p0) (upd f2 g0_gone.toNatClampNeg g0_greatest))) [0, 1, 2] (by decide) rfl
    generalize H1 = H at hP hS ⊢
    refine lv_iadd hx hb dX7_advance_52 ?_
    refine lv_topi (fun v4 ev4 => ?_)
    have hw := hw v4 ev4
    refine va_put (D := (dC, dI)) (ci := 7) (v := .int v4) (ty := .int) (C := RX7) (T := TX7) (N := 11) hx hb hts inX7_advance_X7 tyX7 tyX7_ok nmX7 hown hK hP hD hS 0 rfl rfl 4 (by decide) (hts (.fieldLink RX7 25 "LeadPark$Stroll" "man" "I") (List.mem_of_getElem? (i := 5) rfl)) (fun _ h9 => h9) rfl (by decide +kernel) rfl rfl (Nat.le_of_ble_eq_true rfl) dX7_advance_53 (fun H locs hP hD hS => ?_)
    have hP : va_P (dC, dI) vwCl (ceX7_advance cyI cyB cyJ cyZ a0 a1 a2 g0_underWay g0_way g0_other g0_lead v4 g0_dog v1 g0_greatest g0_remembered (upd f1 g0_gone.toNatClampNeg p0) (upd f2 g0_gone.toNatClampNeg g0_greatest)) H := hP
    have hD : va_D A (ceX7_advance cyI cyB cyJ cyZ a0 a1 a2 g0_underWay g0_way g0_other g0_lead v4 g0_dog v1 g0_greatest g0_remembered (upd f1 g0_gone.toNatClampNeg p0) (upd f2 g0_gone.toNatClampNeg g0_greatest)) := hD
    refine lv_aload_n hx hb dX7_advance_56 rfl (lv_at hl 0 rfl) ?_
    refine lv_dup hx hb dX7_advance_57 rfl ?_
    refine va_get (D := (dC, dI)) (ci := 7) (v := .int g0_dog) (C := RX7) (T := TX7) (N := 11) hx hb hts inX7_advance_X7 hown hK hP 0 rfl rfl 5 (by decide) (hts (.fieldLink RX7 28 "LeadPark$Stroll" "dog" "I") (List.mem_of_getElem? (i := 6) rfl)) (fun _ h9 => h9) rfl dX7_advance_58 ?_
    refine lv_iload_n hx hb dX7_advance_61 rfl (lv_at hl 1 rfl) ?_
    have hPc := hP.sub (ws' := ([] : va_W)) [] rfl
    have hDc := hD.sub (ws' := ([] : va_W)) [] (by decide) rfl
    have hFc := va_free (wc := ([] : va_W)) hD hS hA [] rfl
    refine va_calli (va_runSN (As := [.int p0]) (rest := [.int g0_dog, .ref a0]) ⟨hx, hb, hml, hown, hts⟩ (ctX10_dogMoves l dC dI cyI cyB cyJ cyZ _ p0 _ hw) ⟨va_cnB 1 hts ggX7_advance_X10_dogMoves rfl rfl rfl (hN _ (List.mem_of_getElem? (i := 49) rfl)) (hts (.initialized RX10) (List.mem_of_getElem? (i := 16) rfl)) (by decide +kernel) ⟨Nat.le_of_ble_eq_true rfl, Nat.le_of_ble_eq_true rfl⟩, (hts (.static yX10_dogMoves) (List.mem_of_getElem? (i := 18) rfl)), trivial⟩ ⟨wPre_blind, fun U hU hW => wPre_of hPc hK hDc hN hU hW⟩ rfl rfl hl.1 rfl (lv_room (Nat.le_of_ble_eq_true rfl)) dX7_advance_62 ⟨(Nat.zero_le _), (Nat.zero_le _)⟩) hS (fun q _ h => hFc q h) hFc (fun r6 u5 t H1 locs ht hvm hw hB hz1 hk1 hS => ?_)
    obtain ⟨hP1, hK1, hD1⟩ := hB
    rw [ht] at hP1
    obtain ⟨hP, hD⟩ := va_join (wr := pickW (ceX7_advance cyI cyB cyJ cyZ a0 a1 a2 g0_underWay g0_way g0_other g0_lead v4 g0_dog v1 g0_greatest g0_remembered (upd f1 g0_gone.toNatClampNeg p0) (upd f2 g0_gone.toNatClampNeg g0_greatest)) [0, 1, 2]) (w1 := ([] : va_W)) hP hD [] [0, 1, 2] rfl rfl (by decide) (by decide) hk1 hFc hP1 hD1
    have hP := hP.sub (ws' := (ceX7_advance cyI cyB cyJ cyZ a0 a1 a2 g0_underWay g0_way g0_other g0_lead v4 g0_dog v1 g0_greatest g0_remembered (upd f1 g0_gone.toNatClampNeg p0) (upd f2 g0_gone.toNatClampNeg g0_greatest))) [0, 1, 2] rfl
    have hD := hD.sub (ws' := (ceX7_advance cyI cyB cyJ cyZ a0 a1 a2 g0_underWay g0_way g0_other g0_lead v4 g0_dog v1 g0_greatest g0_remembered (upd f1 g0_gone.toNatClampNeg p0) (upd f2 g0_gone.toNatClampNeg g0_greatest))) [0, 1, 2] (by decide) rfl
    generalize H1 = H at hP hS ⊢
    refine lv_iadd hx hb dX7_advance_65 ?_
    refine lv_topi (fun v7 ev7 => ?_)
    have hw := hw v7 ev7
    refine va_put (D := (dC, dI)) (ci := 7) (v := .int v7) (ty := .int) (C := RX7) (T := TX7) (N := 11) hx hb hts inX7_advance_X7 tyX7 tyX7_ok nmX7 hown hK hP hD hS 0 rfl rfl 5 (by decide) (hts (.fieldLink RX7 28 "LeadPark$Stroll" "dog" "I") (List.mem_of_getElem? (i := 6) rfl)) (fun _ h9 => h9) rfl (by decide +kernel) rfl rfl (Nat.le_of_ble_eq_true rfl) dX7_advance_66 (fun H locs hP hD hS => ?_)
    have hP : va_P (dC, dI) vwCl (ceX7_advance cyI cyB cyJ cyZ a0 a1 a2 g0_underWay g0_way g0_other g0_lead v4 v7 v1 g0_greatest g0_remembered (upd f1 g0_gone.toNatClampNeg p0) (upd f2 g0_gone.toNatClampNeg g0_greatest)) H := hP
    have hD : va_D A (ceX7_advance cyI cyB cyJ cyZ a0 a1 a2 g0_underWay g0_way g0_other g0_lead v4 v7 v1 g0_greatest g0_remembered (upd f1 g0_gone.toNatClampNeg p0) (upd f2 g0_gone.toNatClampNeg g0_greatest)) := hD
    refine lv_aload_n hx hb dX7_advance_69 rfl (lv_at hl 0 rfl) ?_
    refine lv_aload_n hx hb dX7_advance_70 rfl (lv_at hl 0 rfl) ?_
    refine va_get (D := (dC, dI)) (ci := 7) (v := .int g0_greatest) (C := RX7) (T := TX7) (N := 11) hx hb hts inX7_advance_X7 hown hK hP 0 rfl rfl 7 (by decide) (hts (.fieldLink RX7 34 "LeadPark$Stroll" "greatest" "I") (List.mem_of_getElem? (i := 4) rfl)) (fun _ h9 => h9) rfl dX7_advance_71 ?_
    refine lv_iload_n hx hb dX7_advance_74 rfl (lv_at hl 2 rfl) ?_
    refine va_mmax hx hb (hml.trans hl.1.symm) hown (hts (.methodLink RX7 54 Lib.Math.max.name) (List.mem_of_getElem? (i := 7) rfl)) (hts (.static Lib.Math.max.name) (List.mem_of_getElem? (i := 8) rfl)) (hts (.initialized "java/lang/Math") (List.mem_of_getElem? (i := 9) rfl)) (hts (.code Lib.Math.max.name Lib.Math.max.code 2 (some .int)) (List.mem_of_getElem? (i := 10) rfl)) (Nat.le_of_ble_eq_true rfl) (Nat.le_of_ble_eq_true rfl) (by decide) (by decide) dX7_advance_75 ?_
    refine lv_topi (fun v8 ev8 => ?_)
    have hw := hw v8 ev8
    refine va_put (D := (dC, dI)) (ci := 7) (v := .int v8) (ty := .int) (C := RX7) (T := TX7) (N := 11) hx hb hts inX7_advance_X7 tyX7 tyX7_ok nmX7 hown hK hP hD hS 0 rfl rfl 7 (by decide) (hts (.fieldLink RX7 34 "LeadPark$Stroll" "greatest" "I") (List.mem_of_getElem? (i := 4) rfl)) (fun _ h9 => h9) rfl (by decide +kernel) rfl rfl (Nat.le_of_ble_eq_true rfl) dX7_advance_78 (fun H locs hP hD hS => ?_)
    have hP : va_P (dC, dI) vwCl (ceX7_advance cyI cyB cyJ cyZ a0 a1 a2 g0_underWay g0_way g0_other g0_lead v4 v7 v1 v8 g0_remembered (upd f1 g0_gone.toNatClampNeg p0) (upd f2 g0_gone.toNatClampNeg g0_greatest)) H := hP
    have hD : va_D A (ceX7_advance cyI cyB cyJ cyZ a0 a1 a2 g0_underWay g0_way g0_other g0_lead v4 v7 v1 v8 g0_remembered (upd f1 g0_gone.toNatClampNeg p0) (upd f2 g0_gone.toNatClampNeg g0_greatest)) := hD
    refine lv_aload_n hx hb dX7_advance_81 rfl (lv_at hl 0 rfl) ?_
    refine lv_aload_n hx hb dX7_advance_82 rfl (lv_at hl 0 rfl) ?_
    refine va_get (D := (dC, dI)) (ci := 7) (v := .int g0_remembered) (C := RX7) (T := TX7) (N := 11) hx hb hts inX7_advance_X7 hown hK hP 0 rfl rfl 8 (by decide) (hts (.fieldLink RX7 37 "LeadPark$Stroll" "remembered" "I") (List.mem_of_getElem? (i := 11) rfl)) (fun _ h9 => h9) rfl dX7_advance_83 ?_
    refine lv_iconst (v := 1) hx hb dX7_advance_86 (by decide) ?_
    refine lv_iadd hx hb dX7_advance_87 ?_
    refine lv_bipush (v := 40) hx hb dX7_advance_88 (by decide) ?_
    refine va_mmin hx hb (hml.trans hl.1.symm) hown (hts (.methodLink RX7 60 Lib.Math.min.name) (List.mem_of_getElem? (i := 12) rfl)) (hts (.static Lib.Math.min.name) (List.mem_of_getElem? (i := 13) rfl)) (hts (.initialized "java/lang/Math") (List.mem_of_getElem? (i := 9) rfl)) (hts (.code Lib.Math.min.name Lib.Math.min.code 2 (some .int)) (List.mem_of_getElem? (i := 14) rfl)) (Nat.le_of_ble_eq_true rfl) (Nat.le_of_ble_eq_true rfl) (by decide) (by decide) dX7_advance_90 ?_
    refine lv_topi (fun v9 ev9 => ?_)
    have hw := hw v9 ev9
    refine va_put (D := (dC, dI)) (ci := 7) (v := .int v9) (ty := .int) (C := RX7) (T := TX7) (N := 11) hx hb hts inX7_advance_X7 tyX7 tyX7_ok nmX7 hown hK hP hD hS 0 rfl rfl 8 (by decide) (hts (.fieldLink RX7 37 "LeadPark$Stroll" "remembered" "I") (List.mem_of_getElem? (i := 11) rfl)) (fun _ h9 => h9) rfl (by decide +kernel) rfl rfl (Nat.le_of_ble_eq_true rfl) dX7_advance_93 (fun H locs hP hD hS => ?_)
    have hP : va_P (dC, dI) vwCl (ceX7_advance cyI cyB cyJ cyZ a0 a1 a2 g0_underWay g0_way g0_other g0_lead v4 v7 v1 v8 v9 (upd f1 g0_gone.toNatClampNeg p0) (upd f2 g0_gone.toNatClampNeg g0_greatest)) H := hP
    have hD : va_D A (ceX7_advance cyI cyB cyJ cyZ a0 a1 a2 g0_underWay g0_way g0_other g0_lead v4 v7 v1 v8 v9 (upd f1 g0_gone.toNatClampNeg p0) (upd f2 g0_gone.toNatClampNeg g0_greatest)) := hD
    rw [hQ]
    exact W.vret hx hb hr (fun t ht hW => ⟨⟨(v4, v7, v1, v8, v9, (upd f1 g0_gone.toNatClampNeg p0), (upd f2 g0_gone.toNatClampNeg g0_greatest)), rfl, hw, by rw [ht]; exact hP, va_K.moved hW.alike hK, hD⟩, hS.F ht⟩) hS.2.2 dX7_advance_96
  · have hw := hw.2 hc
    rw [hQ]
    exact W.vret hx hb hr (fun t ht hW => ⟨⟨(g0_man, g0_dog, g0_gone, g0_greatest, g0_remembered, f1, f2), rfl, hw, by rw [ht]; exact hP, va_K.moved hW.alike hK, hD⟩, hS.F ht⟩) hS.2.2 dX7_advance_9
/-! LeadPark$Stroll.takeBack ()I -/
abbrev ceX7_takeBack (cyI cyB cyJ cyZ : ClassId) (a0 a1 a2 : Nat) (g0_way : Int32) (g0_other : Int32) (g0_lead : Int32) (g0_underWay : Int32) (f1 : Nat → Int32) (f2 : Nat → Int32) (g0_man : Int32) (g0_dog : Int32) (g0_gone : Int32) (g0_greatest : Int32) (g0_remembered : Int32) : va_W := [(a0, .inr (7, [.int g0_underWay, .int g0_way, .int g0_other, .int g0_lead, .int g0_man, .int g0_dog, .int g0_gone, .int g0_greatest, .int g0_remembered, .ref a1, .ref a2])), (a1, .inl (cyI, 58, .inl f1)), (a2, .inl (cyI, 58, .inl f2))]

theorem inX7_takeBack_X7 : ∀ w ∈ wsX70, w ∈ wsX7_takeBack := fun _ h => List.mem_cons_of_mem _ (List.mem_append_right _ h)
abbrev rmX7_takeBack : Room := { frames := 1, cells := 0, slots := 0, locals := 20 }
set_option maxRecDepth 100000 in
set_option maxHeartbeats 4000000 in
theorem ctX7_takeBack (l : Launch) (dC : Nat → ClassId) (dI : Nat → Nat → Nat) (cyI cyB cyJ cyZ : ClassId) (sz : Nat) (a0 a1 a2 : Nat) (g0_way : Int32) (g0_other : Int32) (g0_lead : Int32) (g0_underWay : Int32) (f1 : Nat → Int32) (f2 : Nat → Int32) (g0_man : Int32) (g0_dog : Int32) (g0_gone : Int32) (g0_greatest : Int32) (g0_remembered : Int32) (post : Int32 → (Int32 × Int32 × Int32 × Int32 × Int32) → Prop) (hw : wpX7_takeBack post g0_underWay f1 f2 g0_man g0_dog g0_gone g0_greatest g0_remembered ) : Met l yX7_takeBack wsX7_takeBack rmX7_takeBack (va_Pc [.ref a0] (wPre dC dI cyI cyB cyJ cyZ sz (ceX7_takeBack cyI cyB cyJ cyZ a0 a1 a2 g0_way g0_other g0_lead g0_underWay f1 f2 g0_man g0_dog g0_gone g0_greatest g0_remembered))) (va_Qi post (fun u : Int32 × Int32 × Int32 × Int32 × Int32 => wAt dC dI cyI cyB cyJ cyZ (va_A (ceX7_takeBack cyI cyB cyJ cyZ a0 a1 a2 g0_way g0_other g0_lead g0_underWay f1 f2 g0_man g0_dog g0_gone g0_greatest g0_remembered) sz) (ceX7_takeBack cyI cyB cyJ cyZ a0 a1 a2 g0_way g0_other g0_lead g0_underWay f1 f2 u.1 u.2.1 u.2.2.1 u.2.2.2.1 u.2.2.2.2)) (va_A (ceX7_takeBack cyI cyB cyJ cyZ a0 a1 a2 g0_way g0_other g0_lead g0_underWay f1 f2 g0_man g0_dog g0_gone g0_greatest g0_remembered) sz)) 0 0 (va_A (ceX7_takeBack cyI cyB cyJ cyZ a0 a1 a2 g0_way g0_other g0_lead g0_underWay f1 f2 g0_man g0_dog g0_gone g0_greatest g0_remembered) sz) := by
  refine Met.ofW (cc := cX7_takeBack) (maxL := 2) (ret := (some .int)) (by decide) rfl ?_
  intro p e s m args below meth c s₁ B hml hv
  obtain ⟨rfl, hsz, hP, hK, hD0, hN⟩ := hv
  have hx := B.exec
  have hb := B.bytes
  have hr := B.returns
  have hts := atoms_spec (ws := wsX7_takeBack) B.pre
  have hown : s.vm.findClass RX7 = some m.cls := findClass_of_methodNamed B.named
  have hlocks := B.notSynchronized
  subst hsz
  have hD := hD0.self (sz := s.heap.size)
  generalize hAe : va_A (ceX7_takeBack cyI cyB cyJ cyZ a0 a1 a2 g0_way g0_other g0_lead g0_underWay f1 f2 g0_man g0_dog g0_gone g0_greatest g0_remembered) s.heap.size = A at hD ⊢
  have hA : ∀ q : Nat, s.heap.size ≤ q → A q := fun q h => by rw [← hAe]; exact Or.inr h
  have hS : va_S A s.heap s.heap [] := va_S.rf
  have C0 : cxM p s m meth c _ wsX7_takeBack RX7 cX7_takeBack 2 (some .int) := ⟨hx, hb, hr, hml, hown, hts, hlocks⟩
  have hl := lv_entry ([.ref a0]) (n := 2) (Nat.le_of_ble_eq_true rfl)
  rw [lg_entry_eq]
  generalize (lg_sl ([.ref a0]) ++ List.replicate (2 - (lg_sl ([.ref a0])).length) Slot.unset).toArray = ls at hl ⊢
  have hl : lv_has ls 2 [(0, .ref a0)] := hl
  show W p l e rmX7_takeBack s m _ below meth c _ _ _ _ _ _
  refine wq (fun Q hQ => ?_)
  refine lv_aload_n hx hb dX7_takeBack_0 rfl (lv_at hl 0 rfl) ?_
  refine va_get (D := (dC, dI)) (ci := 7) (v := .int g0_underWay) (C := RX7) (T := TX7) (N := 11) hx hb hts inX7_takeBack_X7 hown hK hP 0 rfl rfl 0 (by decide) (hts (.fieldLink RX7 9 "LeadPark$Stroll" "underWay" "Z") (List.mem_of_getElem? (i := 1) rfl)) (fun _ h9 => h9) rfl dX7_takeBack_1 ?_
  refine lv_if_eq (tgt := 21) hx hb dX7_takeBack_4 (by decide) (fun hc => ?_) (fun hc => ?_)
  · have hw := hw.1 hc
    refine lv_iconst (v := (-1)) hx hb dX7_takeBack_21 (by decide) ?_
    rw [hQ]
    exact W.iret (v := (-1)) hx hb hr (fun t ht hW => ⟨⟨(-1), (g0_man, g0_dog, g0_gone, g0_greatest, g0_remembered), rfl, hw, by rw [ht]; exact hP, va_K.moved hW.alike hK, hD⟩, hS.F ht⟩) hS.2.2 dX7_takeBack_22
  · have hw := hw.2 hc
    refine lv_aload_n hx hb dX7_takeBack_7 rfl (lv_at hl 0 rfl) ?_
    refine va_get (D := (dC, dI)) (ci := 7) (v := .int g0_remembered) (C := RX7) (T := TX7) (N := 11) hx hb hts inX7_takeBack_X7 hown hK hP 0 rfl rfl 8 (by decide) (hts (.fieldLink RX7 37 "LeadPark$Stroll" "remembered" "I") (List.mem_of_getElem? (i := 2) rfl)) (fun _ h9 => h9) rfl dX7_takeBack_8 ?_
    refine lv_if_eq (tgt := 21) hx hb dX7_takeBack_11 (by decide) (fun hc => ?_) (fun hc => ?_)
    · have hw := hw.1 hc
      refine lv_iconst (v := (-1)) hx hb dX7_takeBack_21 (by decide) ?_
      rw [hQ]
      exact W.iret (v := (-1)) hx hb hr (fun t ht hW => ⟨⟨(-1), (g0_man, g0_dog, g0_gone, g0_greatest, g0_remembered), rfl, hw, by rw [ht]; exact hP, va_K.moved hW.alike hK, hD⟩, hS.F ht⟩) hS.2.2 dX7_takeBack_22
    · have hw := hw.2 hc
      refine lv_aload_n hx hb dX7_takeBack_14 rfl (lv_at hl 0 rfl) ?_
      refine va_get (D := (dC, dI)) (ci := 7) (v := .int g0_gone) (C := RX7) (T := TX7) (N := 11) hx hb hts inX7_takeBack_X7 hown hK hP 0 rfl rfl 6 (by decide) (hts (.fieldLink RX7 31 "LeadPark$Stroll" "gone" "I") (List.mem_of_getElem? (i := 3) rfl)) (fun _ h9 => h9) rfl dX7_takeBack_15 ?_
      refine lv_if_ne (tgt := 23) hx hb dX7_takeBack_18 (by decide) (fun hc => ?_) (fun hc => ?_)
      · have hw := hw.1 hc
        refine lv_aload_n hx hb dX7_takeBack_23 rfl (lv_at hl 0 rfl) ?_
        refine lv_dup hx hb dX7_takeBack_24 rfl ?_
        refine va_get (D := (dC, dI)) (ci := 7) (v := .int g0_gone) (C := RX7) (T := TX7) (N := 11) hx hb hts inX7_takeBack_X7 hown hK hP 0 rfl rfl 6 (by decide) (hts (.fieldLink RX7 31 "LeadPark$Stroll" "gone" "I") (List.mem_of_getElem? (i := 3) rfl)) (fun _ h9 => h9) rfl dX7_takeBack_25 ?_
        refine lv_iconst (v := 1) hx hb dX7_takeBack_28 (by decide) ?_
        refine lv_isub hx hb dX7_takeBack_29 ?_
        refine lv_topi (fun v1 ev1 => ?_)
        have hw := hw v1 ev1
        refine va_put (D := (dC, dI)) (ci := 7) (v := .int v1) (ty := .int) (C := RX7) (T := TX7) (N := 11) hx hb hts inX7_takeBack_X7 tyX7 tyX7_ok nmX7 hown hK hP hD hS 0 rfl rfl 6 (by decide) (hts (.fieldLink RX7 31 "LeadPark$Stroll" "gone" "I") (List.mem_of_getElem? (i := 3) rfl)) (fun _ h9 => h9) rfl (by decide +kernel) rfl rfl (Nat.le_of_ble_eq_true rfl) dX7_takeBack_30 (fun H locs hP hD hS => ?_)
        have hP : va_P (dC, dI) vwCl (ceX7_takeBack cyI cyB cyJ cyZ a0 a1 a2 g0_way g0_other g0_lead g0_underWay f1 f2 g0_man g0_dog v1 g0_greatest g0_remembered) H := hP
        have hD : va_D A (ceX7_takeBack cyI cyB cyJ cyZ a0 a1 a2 g0_way g0_other g0_lead g0_underWay f1 f2 g0_man g0_dog v1 g0_greatest g0_remembered) := hD
        refine lv_aload_n hx hb dX7_takeBack_33 rfl (lv_at hl 0 rfl) ?_
        refine lv_dup hx hb dX7_takeBack_34 rfl ?_
        refine va_get (D := (dC, dI)) (ci := 7) (v := .int g0_remembered) (C := RX7) (T := TX7) (N := 11) hx hb hts inX7_takeBack_X7 hown hK hP 0 rfl rfl 8 (by decide) (hts (.fieldLink RX7 37 "LeadPark$Stroll" "remembered" "I") (List.mem_of_getElem? (i := 2) rfl)) (fun _ h9 => h9) rfl dX7_takeBack_35 ?_
        refine lv_iconst (v := 1) hx hb dX7_takeBack_38 (by decide) ?_
        refine lv_isub hx hb dX7_takeBack_39 ?_
        refine lv_topi (fun v2 ev2 => ?_)
        have hw := hw v2 ev2
        refine va_put (D := (dC, dI)) (ci := 7) (v := .int v2) (ty := .int) (C := RX7) (T := TX7) (N := 11) hx hb hts inX7_takeBack_X7 tyX7 tyX7_ok nmX7 hown hK hP hD hS 0 rfl rfl 8 (by decide) (hts (.fieldLink RX7 37 "LeadPark$Stroll" "remembered" "I") (List.mem_of_getElem? (i := 2) rfl)) (fun _ h9 => h9) rfl (by decide +kernel) rfl rfl (Nat.le_of_ble_eq_true rfl) dX7_takeBack_40 (fun H locs hP hD hS => ?_)
        have hP : va_P (dC, dI) vwCl (ceX7_takeBack cyI cyB cyJ cyZ a0 a1 a2 g0_way g0_other g0_lead g0_underWay f1 f2 g0_man g0_dog v1 g0_greatest v2) H := hP
        have hD : va_D A (ceX7_takeBack cyI cyB cyJ cyZ a0 a1 a2 g0_way g0_other g0_lead g0_underWay f1 f2 g0_man g0_dog v1 g0_greatest v2) := hD
        refine lv_aload_n hx hb dX7_takeBack_43 rfl (lv_at hl 0 rfl) ?_
        refine va_get (D := (dC, dI)) (ci := 7) (v := .ref a1) (C := RX7) (T := TX7) (N := 11) hx hb hts inX7_takeBack_X7 hown hK hP 0 rfl rfl 9 (by decide) (hts (.fieldLink RX7 40 "LeadPark$Stroll" "steps" "[I") (List.mem_of_getElem? (i := 4) rfl)) (fun _ h9 => h9) rfl dX7_takeBack_44 ?_
        refine lv_aload_n hx hb dX7_takeBack_47 rfl (lv_at hl 0 rfl) ?_
        refine va_get (D := (dC, dI)) (ci := 7) (v := .int v1) (C := RX7) (T := TX7) (N := 11) hx hb hts inX7_takeBack_X7 hown hK hP 0 rfl rfl 6 (by decide) (hts (.fieldLink RX7 31 "LeadPark$Stroll" "gone" "I") (List.mem_of_getElem? (i := 3) rfl)) (fun _ h9 => h9) rfl dX7_takeBack_48 ?_
        obtain ⟨hi, hw⟩ := hw
        refine va_iald hx hb hK hP 1 0 rfl rfl hi dX7_takeBack_51 ?_
        refine lv_topi (fun v3 ev3 => ?_)
        have hw := hw v3 ev3
        refine lv_istore_n (lv' := [(1, .int v3), (0, .ref a0)]) hx hb dX7_takeBack_52 rfl hl (by decide) rfl (fun ls hl => ?_)
        refine lv_aload_n hx hb dX7_takeBack_53 rfl (lv_at hl 1 rfl) ?_
        refine lv_dup hx hb dX7_takeBack_54 rfl ?_
        refine va_get (D := (dC, dI)) (ci := 7) (v := .int g0_man) (C := RX7) (T := TX7) (N := 11) hx hb hts inX7_takeBack_X7 hown hK hP 0 rfl rfl 4 (by decide) (hts (.fieldLink RX7 25 "LeadPark$Stroll" "man" "I") (List.mem_of_getElem? (i := 5) rfl)) (fun _ h9 => h9) rfl dX7_takeBack_55 ?_
        refine lv_iload_n hx hb dX7_takeBack_58 rfl (lv_at hl 0 rfl) ?_
        have hPc := hP.sub (ws' := ([] : va_W)) [] rfl
        have hDc := hD.sub (ws' := ([] : va_W)) [] (by decide) rfl
        have hFc := va_free (wc := ([] : va_W)) hD hS hA [] rfl
        refine va_calli (va_runSN (As := [.int v3]) (rest := [.int g0_man, .ref a0]) ⟨hx, hb, hml, hown, hts⟩ (ctX10_manMoves l dC dI cyI cyB cyJ cyZ _ v3 _ hw) ⟨va_cnB 1 hts ggX7_takeBack_X10_manMoves rfl rfl rfl (hN _ (List.mem_of_getElem? (i := 48) rfl)) (hts (.initialized RX10) (List.mem_of_getElem? (i := 10) rfl)) (by decide +kernel) ⟨Nat.le_of_ble_eq_true rfl, Nat.le_of_ble_eq_true rfl⟩, (hts (.static yX10_manMoves) (List.mem_of_getElem? (i := 9) rfl)), trivial⟩ ⟨wPre_blind, fun U hU hW => wPre_of hPc hK hDc hN hU hW⟩ rfl rfl hl.1 rfl (lv_room (Nat.le_of_ble_eq_true rfl)) dX7_takeBack_59 ⟨(Nat.zero_le _), (Nat.zero_le _)⟩) hS (fun q _ h => hFc q h) hFc (fun r5 u4 t H1 locs ht hvm hw hB hz1 hk1 hS => ?_)
        obtain ⟨hP1, hK1, hD1⟩ := hB
        rw [ht] at hP1
        obtain ⟨hP, hD⟩ := va_join (wr := pickW (ceX7_takeBack cyI cyB cyJ cyZ a0 a1 a2 g0_way g0_other g0_lead g0_underWay f1 f2 g0_man g0_dog v1 g0_greatest v2) [0, 1, 2]) (w1 := ([] : va_W)) hP hD [] [0, 1, 2] rfl rfl (by decide) (by decide) hk1 hFc hP1 hD1
        have hP := hP.sub (ws' := (ceX7_takeBack cyI cyB cyJ cyZ a0 a1 a2 g0_way g0_other g0_lead g0_underWay f1 f2 g0_man g0_dog v1 g0_greatest v2)) [0, 1, 2] rfl
        have hD := hD.sub (ws' := (ceX7_takeBack cyI cyB cyJ cyZ a0 a1 a2 g0_way g0_other g0_lead g0_underWay f1 f2 g0_man g0_dog v1 g0_greatest v2)) [0, 1, 2] (by decide) rfl
        generalize H1 = H at hP hS ⊢
        refine lv_isub hx hb dX7_takeBack_62 ?_
        refine lv_topi (fun v6 ev6 => ?_)
        have hw := hw v6 ev6
        refine va_put (D := (dC, dI)) (ci := 7) (v := .int v6) (ty := .int) (C := RX7) (T := TX7) (N := 11) hx hb hts inX7_takeBack_X7 tyX7 tyX7_ok nmX7 hown hK hP hD hS 0 rfl rfl 4 (by decide) (hts (.fieldLink RX7 25 "LeadPark$Stroll" "man" "I") (List.mem_of_getElem? (i := 5) rfl)) (fun _ h9 => h9) rfl (by decide +kernel) rfl rfl (Nat.le_of_ble_eq_true rfl) dX7_takeBack_63 (fun H locs hP hD hS => ?_)
        have hP : va_P (dC, dI) vwCl (ceX7_takeBack cyI cyB cyJ cyZ a0 a1 a2 g0_way g0_other g0_lead g0_underWay f1 f2 v6 g0_dog v1 g0_greatest v2) H := hP
        have hD : va_D A (ceX7_takeBack cyI cyB cyJ cyZ a0 a1 a2 g0_way g0_other g0_lead g0_underWay f1 f2 v6 g0_dog v1 g0_greatest v2) := hD
        refine lv_aload_n hx hb dX7_takeBack_66 rfl (lv_at hl 1 rfl) ?_
        refine lv_dup hx hb dX7_takeBack_67 rfl ?_
        refine va_get (D := (dC, dI)) (ci := 7) (v := .int g0_dog) (C := RX7) (T := TX7) (N := 11) hx hb hts inX7_takeBack_X7 hown hK hP 0 rfl rfl 5 (by decide) (hts (.fieldLink RX7 28 "LeadPark$Stroll" "dog" "I") (List.mem_of_getElem? (i := 6) rfl)) (fun _ h9 => h9) rfl dX7_takeBack_68 ?_
        refine lv_iload_n hx hb dX7_takeBack_71 rfl (lv_at hl 0 rfl) ?_
        have hPc := hP.sub (ws' := ([] : va_W)) [] rfl
        have hDc := hD.sub (ws' := ([] : va_W)) [] (by decide) rfl
        have hFc := va_free (wc := ([] : va_W)) hD hS hA [] rfl
        refine va_calli (va_runSN (As := [.int v3]) (rest := [.int g0_dog, .ref a0]) ⟨hx, hb, hml, hown, hts⟩ (ctX10_dogMoves l dC dI cyI cyB cyJ cyZ _ v3 _ hw) ⟨va_cnB 1 hts ggX7_takeBack_X10_dogMoves rfl rfl rfl (hN _ (List.mem_of_getElem? (i := 49) rfl)) (hts (.initialized RX10) (List.mem_of_getElem? (i := 10) rfl)) (by decide +kernel) ⟨Nat.le_of_ble_eq_true rfl, Nat.le_of_ble_eq_true rfl⟩, (hts (.static yX10_dogMoves) (List.mem_of_getElem? (i := 12) rfl)), trivial⟩ ⟨wPre_blind, fun U hU hW => wPre_of hPc hK hDc hN hU hW⟩ rfl rfl hl.1 rfl (lv_room (Nat.le_of_ble_eq_true rfl)) dX7_takeBack_72 ⟨(Nat.zero_le _), (Nat.zero_le _)⟩) hS (fun q _ h => hFc q h) hFc (fun r8 u7 t H1 locs ht hvm hw hB hz1 hk1 hS => ?_)
        obtain ⟨hP1, hK1, hD1⟩ := hB
        rw [ht] at hP1
        obtain ⟨hP, hD⟩ := va_join (wr := pickW (ceX7_takeBack cyI cyB cyJ cyZ a0 a1 a2 g0_way g0_other g0_lead g0_underWay f1 f2 v6 g0_dog v1 g0_greatest v2) [0, 1, 2]) (w1 := ([] : va_W)) hP hD [] [0, 1, 2] rfl rfl (by decide) (by decide) hk1 hFc hP1 hD1
        have hP := hP.sub (ws' := (ceX7_takeBack cyI cyB cyJ cyZ a0 a1 a2 g0_way g0_other g0_lead g0_underWay f1 f2 v6 g0_dog v1 g0_greatest v2)) [0, 1, 2] rfl
        have hD := hD.sub (ws' := (ceX7_takeBack cyI cyB cyJ cyZ a0 a1 a2 g0_way g0_other g0_lead g0_underWay f1 f2 v6 g0_dog v1 g0_greatest v2)) [0, 1, 2] (by decide) rfl
        generalize H1 = H at hP hS ⊢
        refine lv_isub hx hb dX7_takeBack_75 ?_
        refine lv_topi (fun v9 ev9 => ?_)
        have hw := hw v9 ev9
        refine va_put (D := (dC, dI)) (ci := 7) (v := .int v9) (ty := .int) (C := RX7) (T := TX7) (N := 11) hx hb hts inX7_takeBack_X7 tyX7 tyX7_ok nmX7 hown hK hP hD hS 0 rfl rfl 5 (by decide) (hts (.fieldLink RX7 28 "LeadPark$Stroll" "dog" "I") (List.mem_of_getElem? (i := 6) rfl)) (fun _ h9 => h9) rfl (by decide +kernel) rfl rfl (Nat.le_of_ble_eq_true rfl) dX7_takeBack_76 (fun H locs hP hD hS => ?_)
        have hP : va_P (dC, dI) vwCl (ceX7_takeBack cyI cyB cyJ cyZ a0 a1 a2 g0_way g0_other g0_lead g0_underWay f1 f2 v6 v9 v1 g0_greatest v2) H := hP
        have hD : va_D A (ceX7_takeBack cyI cyB cyJ cyZ a0 a1 a2 g0_way g0_other g0_lead g0_underWay f1 f2 v6 v9 v1 g0_greatest v2) := hD
        refine lv_aload_n hx hb dX7_takeBack_79 rfl (lv_at hl 1 rfl) ?_
        refine lv_aload_n hx hb dX7_takeBack_80 rfl (lv_at hl 1 rfl) ?_
        refine va_get (D := (dC, dI)) (ci := 7) (v := .ref a2) (C := RX7) (T := TX7) (N := 11) hx hb hts inX7_takeBack_X7 hown hK hP 0 rfl rfl 10 (by decide) (hts (.fieldLink RX7 44 "LeadPark$Stroll" "greatestAhead" "[I") (List.mem_of_getElem? (i := 7) rfl)) (fun _ h9 => h9) rfl dX7_takeBack_81 ?_
        refine lv_aload_n hx hb dX7_takeBack_84 rfl (lv_at hl 1 rfl) ?_
        refine va_get (D := (dC, dI)) (ci := 7) (v := .int v1) (C := RX7) (T := TX7) (N := 11) hx hb hts inX7_takeBack_X7 hown hK hP 0 rfl rfl 6 (by decide) (hts (.fieldLink RX7 31 "LeadPark$Stroll" "gone" "I") (List.mem_of_getElem? (i := 3) rfl)) (fun _ h9 => h9) rfl dX7_takeBack_85 ?_
        obtain ⟨hi, hw⟩ := hw
        refine va_iald hx hb hK hP 2 0 rfl rfl hi dX7_takeBack_88 ?_
        refine lv_topi (fun v10 ev10 => ?_)
        have hw := hw v10 ev10
        refine va_put (D := (dC, dI)) (ci := 7) (v := .int v10) (ty := .int) (C := RX7) (T := TX7) (N := 11) hx hb hts inX7_takeBack_X7 tyX7 tyX7_ok nmX7 hown hK hP hD hS 0 rfl rfl 7 (by decide) (hts (.fieldLink RX7 34 "LeadPark$Stroll" "greatest" "I") (List.mem_of_getElem? (i := 8) rfl)) (fun _ h9 => h9) rfl (by decide +kernel) rfl rfl (Nat.le_of_ble_eq_true rfl) dX7_takeBack_89 (fun H locs hP hD hS => ?_)
        have hP : va_P (dC, dI) vwCl (ceX7_takeBack cyI cyB cyJ cyZ a0 a1 a2 g0_way g0_other g0_lead g0_underWay f1 f2 v6 v9 v1 v10 v2) H := hP
        have hD : va_D A (ceX7_takeBack cyI cyB cyJ cyZ a0 a1 a2 g0_way g0_other g0_lead g0_underWay f1 f2 v6 v9 v1 v10 v2) := hD
        refine lv_iload_n hx hb dX7_takeBack_92 rfl (lv_at hl 0 rfl) ?_
        rw [hQ]
        exact W.iret (v := v3) hx hb hr (fun t ht hW => ⟨⟨v3, (v6, v9, v1, v10, v2), rfl, hw, by rw [ht]; exact hP, va_K.moved hW.alike hK, hD⟩, hS.F ht⟩) hS.2.2 dX7_takeBack_93
      · have hw := hw.2 hc
        refine lv_iconst (v := (-1)) hx hb dX7_takeBack_21 (by decide) ?_
        rw [hQ]
        exact W.iret (v := (-1)) hx hb hr (fun t ht hW => ⟨⟨(-1), (g0_man, g0_dog, g0_gone, g0_greatest, g0_remembered), rfl, hw, by rw [ht]; exact hP, va_K.moved hW.alike hK, hD⟩, hS.F ht⟩) hS.2.2 dX7_takeBack_22
